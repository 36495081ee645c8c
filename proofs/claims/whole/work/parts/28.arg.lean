-- ARGUMENTS: kind (0 a type, 1 a lambda, 2 a told lambda), type or result, count, parameters
abbrev AD : Type := (Nat → Nat) × (Nat → Int) × (Nat → Nat) × (Nat → Nat → Int)
def la (e : AD) (i : Nat) : Nat := e.1 i
def va (e : AD) (i : Nat) : Int := e.2.1 i
def wi (e : AD) (i : Nat) : Nat := e.2.2.1 i
def ap (e : AD) (i k : Nat) : Int := e.2.2.2 i k
def WA (T a : Nat) (e : AD) : Prop := ∀ i, i < a → la e i ≤ 2 ∧ (la e i = 0 → tyI T (va e i)) ∧ (la e i ≠ 0 → (va e i = -1 ∨ vaI T (va e i)) ∧ wi e i ≤ 2)
def AX (σ : xSt) (a : Nat) (e : AD) : Prop := σ.1 3 5 = nI a ∧ a ≤ 5 ∧ ∀ i, i < a → ((la e i = 0 ∧ σ.1 16 i = 0) ∨ (la e i = 1 ∧ σ.1 16 i = 1 ∧ σ.1 17 i = 0) ∨ (la e i = 2 ∧ σ.1 16 i = 1 ∧ σ.1 17 i = 1)) ∧ (σ.1 18 i).toInt = va e i ∧ (la e i ≠ 0 → σ.1 19 i = nI (wi e i) ∧ ∀ k, k < wi e i → (σ.1 20 (2 * i + k)).toInt = ap e i k)
def AM (τ : xSt) (a : Nat) (e : AD) : Prop := τ.1 0 13 = nI a ∧ a ≤ 5 ∧ ∀ i, i < a → τ.1 13 i = nI (la e i) ∧ (la e i = 0 → (τ.1 12 i).toInt = va e i) ∧ (la e i ≠ 0 → (τ.1 16 i).toInt = va e i ∧ τ.1 14 i = nI (wi e i) ∧ ∀ k, k < wi e i → (τ.1 15 (2 * i + k)).toInt = ap e i k)
/-- the type that stands against the i-th argument; sp: the last array spread -/
noncomputable def FA (d : MD) (m i : Nat) (sp : Prop) : Int := @ite _ (sp ∧ cn d m ≤ i + 1) (Classical.propDecidable _) (pa d m (cn d m - 1) - 64) (pa d m i)
/-- all that the choice reads -/
def CX (σ : xSt) (T n a : Nat) (d : MD) (fc : Nat → Prop) (R : Nat → Nat → Prop) (e : AD) : Prop := WD T n d ∧ MX σ n d ∧ TX σ T fc R ∧ AX σ a e ∧ WA T a e ∧ FS σ d R T n fc
def SH (d : MD) (R : Nat → Nat → Prop) (T n : Nat) (fc : Nat → Prop) (e : AD) (z : Int) (i : Nat) : Prop := FN d R T n fc z ≠ -1 ∧ cn d (FN d R T n fc z).toNat = wi e i ∧ (rs d (FN d R T n fc z).toNat = -1 ↔ va e i = -1)
def ME (d : MD) (R : Nat → Nat → Prop) (T n a : Nat) (fc : Nat → Prop) (e : AD) (m : Nat) : Prop := (cn d m = a ∨ (VA d m ∧ cn d m ≤ a + 1)) ∧ ∀ i, i < a → la e i ≠ 0 → SH d R T n fc e (FA d m i (VA d m)) i
def AC (R : Nat → Nat → Prop) (T : Nat) (s t : Int) (b : Prop) : Prop := (¬ b ∧ isI R T s t) ∨ (b ∧ fiI R T s t)
def TT (d : MD) (R : Nat → Nat → Prop) (T : Nat) (e : AD) (f i : Nat) (b : Prop) : Prop := (∀ k, k < wi e i → pa d f k = ap e i k) ∧ (va e i = -1 ∨ AC R T (va e i) (rs d f) b)
def TK (d : MD) (R : Nat → Nat → Prop) (T n : Nat) (fc : Nat → Prop) (e : AD) (z : Int) (i : Nat) (b : Prop) : Prop := (la e i = 0 ∧ AC R T (va e i) z b) ∨ (la e i ≠ 0 ∧ SH d R T n fc e z i ∧ (la e i = 2 → TT d R T e (FN d R T n fc z).toNat i b))
def AP (d : MD) (R : Nat → Nat → Prop) (T n a : Nat) (fc : Nat → Prop) (e : AD) (m : Nat) (ph : Nat) : Prop := (if ph = 3 then VA d m else cn d m = a) ∧ ∀ i, i < a → TK d R T n fc e (FA d m i (ph = 3)) i (1 < ph)
def pri (z : Int) : Prop := 0 ≤ z ∧ z < 4
def FRr (R : Nat → Nat → Prop) (T : Nat) (p q g : Int) : Prop := isI R T p q ∨ (pri p ∧ ¬ pri q ∧ pri g) ∨ (¬ pri p ∧ pri q ∧ ¬ pri g)
def FR (d : MD) (R : Nat → Nat → Prop) (T n : Nat) (fc : Nat → Prop) (e : AD) (p q : Int) (i : Nat) : Prop := la e i = 2 ∧ FN d R T n fc p ≠ -1 ∧ FN d R T n fc q ≠ -1 ∧ ¬ isI R T p q ∧ ¬ isI R T q p ∧ SA d (FN d R T n fc p).toNat (FN d R T n fc q).toNat ∧ (rs d (FN d R T n fc q).toNat = -1 ∨ (rs d (FN d R T n fc p).toNat ≠ -1 ∧ FRr R T (rs d (FN d R T n fc p).toNat) (rs d (FN d R T n fc q).toNat) (va e i)))
def SP (d : MD) (R : Nat → Nat → Prop) (T n a : Nat) (fc : Nat → Prop) (e : AD) (m o : Nat) (sp : Prop) : Prop := (∀ i, i < a → isI R T (FA d m i sp) (FA d o i sp) ∨ FR d R T n fc e (FA d m i sp) (FA d o i sp) i) ∧ (sp → isI R T (pa d m (cn d m - 1) - 64) (pa d o (cn d o - 1) - 64))
theorem va_ty {T : Nat} {z : Int} (h : vaI T z) : tyI T z := by unfold vaI tyI at *; rcases h with h | h; exact Or.inl h; exact Or.inr (Or.inr h)
theorem ty_0 {T : Nat} {z : Int} (h : tyI T z) : 0 ≤ z := by unfold tyI plI toI at h; omega
theorem va_0 {T : Nat} {z : Int} (h : vaI T z) : 0 ≤ z := ty_0 (va_ty h)
theorem FN_get {d : MD} {R : Nat → Nat → Prop} {T n : Nat} {fc : Nat → Prop} {z : Int} {w : Int32} (hw : w.toInt = FN d R T n fc z) (hn : n ≤ 60) (h : FN d R T n fc z ≠ -1) : w = nI (FN d R T n fc z).toNat ∧ (FN d R T n fc z).toNat < n := by
  rcases FN_range d R T n fc z with q | q
  · exact absurd q h
  · exact ⟨by rw [i32eq, nIt (by omega), hw]; omega, by omega⟩
theorem isB_eq2 {v w : Int32} {P Q S : Prop} (hv : v = 1 ∧ P ∨ v = 0 ∧ ¬ P) (hw : w = 1 ∧ Q ∨ w = 0 ∧ ¬ Q) (h : S ↔ (P ↔ Q)) : isB (if v = w then some (1 : Int32) else some (0 : Int32)) S := by
  rcases hv with ⟨rfl, p⟩ | ⟨rfl, p⟩ <;> rcases hw with ⟨rfl, q⟩ | ⟨rfl, q⟩
  · exact isB_1 (h.mpr ⟨fun _ => q, fun _ => p⟩)
  · exact isB_0 (fun s => q ((h.mp s).mp p))
  · exact isB_0 (fun s => p ((h.mp s).mpr q))
  · exact isB_1 (h.mpr ⟨fun z => absurd z p, fun z => absurd z q⟩)
section ARGX
variable {σ : xSt} {T n a : Nat} {d : MD} {fc : Nat → Prop} {R : Nat → Nat → Prop} {e : AD}
theorem x_isLambda (h : AX σ a e) {i : Nat} (hi : i < a) : isB (fC3_isLambda σ (nI i)) (la e i ≠ 0) := by
  have := h.2.1
  unfold fC3_isLambda
  rw [ifin (by omega) (by omega), clN (by omega)]
  rcases (h.2.2 i hi).1 with ⟨q, q1⟩ | ⟨q, q1, _⟩ | ⟨q, q1, _⟩ <;> rw [q1]
  · exact Or.inr ⟨fun z => z q, rfl⟩
  · exact Or.inl ⟨by omega, rfl⟩
  · exact Or.inl ⟨by omega, rfl⟩
theorem x_isToldLambda (h : AX σ a e) {i : Nat} (hi : i < a) : isB (fC3_isToldLambda σ (nI i)) (la e i = 2) := by
  have := h.2.1
  unfold fC3_isToldLambda
  rw [ifin (by omega) (by omega), ifin (by omega) (by omega), clN (by omega)]
  rcases (h.2.2 i hi).1 with ⟨q, q1⟩ | ⟨q, q1, q2⟩ | ⟨q, q1, q2⟩
  · rw [q1]; exact Or.inr ⟨by omega, rfl⟩
  · rw [q1, q2]; exact Or.inr ⟨by omega, rfl⟩
  · rw [q1, q2]; exact Or.inl ⟨by omega, rfl⟩
theorem x_argResult (h : AX σ a e) {i : Nat} (hi : i < a) : isB (fC3_hasResult σ (nI i)) (va e i ≠ -1) := by
  have := h.2.1
  unfold fC3_hasResult
  rw [ifin (by omega) (by omega), clN (by omega)]
  have q := (h.2.2 i hi).2.1
  refine isB_ite (fun c => isB_0 (fun z => z ?_)) (fun c => isB_1 (fun z => c ?_))
  · rw [← q, c]; exact tI_m1
  · rw [i32eq, tI_m1, q]; exact z
theorem x_valueOf (h : AX σ a e) {i : Nat} (hi : i < a) : isV (fC3_valueOf σ (nI i)) (va e i) := by
  have := h.2.1
  unfold fC3_valueOf
  rw [ifin (by omega) (by omega), clN (by omega)]
  exact ⟨_, rfl, (h.2.2 i hi).2.1⟩
theorem x_memResult (hM : MX σ n d) {m : Nat} (hm : m < n) : isB (fC2_hasResult σ (nI m)) (rs d m ≠ -1) := by
  have := hM.2.1
  unfold fC2_hasResult
  rw [ifin (by omega) (by omega), clN (by omega)]
  have q := (hM.2.2 m hm).2.2.2.1
  refine isB_ite (fun c => isB_0 (fun z => z ?_)) (fun c => isB_1 (fun z => c ?_))
  · rw [← q, c]; exact tI_m1
  · rw [i32eq, tI_m1, q]; exact z
theorem x_resultOf (hM : MX σ n d) {m : Nat} (hm : m < n) : isV (fC2_resultOf σ (nI m)) (rs d m) := by
  have := hM.2.1
  unfold fC2_resultOf
  rw [ifin (by omega) (by omega), clN (by omega)]
  exact ⟨_, rfl, (hM.2.2 m hm).2.2.2.1⟩
theorem x_widthOf (hM : MX σ n d) {m : Nat} (hm : m < n) : fC2_widthOf σ (nI m) = some (nI (cn d m)) := by
  have := hM.2.1
  unfold fC2_widthOf
  rw [ifin (by omega) (by omega), clN (by omega), (hM.2.2 m hm).2.2.2.2.1]
theorem x_argWidth (h : AX σ a e) {i : Nat} (hi : i < a) (hl : la e i ≠ 0) : fC3_widthOf σ (nI i) = some (nI (wi e i)) := by
  have := h.2.1
  unfold fC3_widthOf
  rw [ifin (by omega) (by omega), clN (by omega), ((h.2.2 i hi).2.2 hl).1]
theorem x_parameterAt (hM : MX σ n d) (hW : WD T n d) {m k : Nat} (hm : m < n) (hk : k < cn d m) : isV (fC2_parameterAt σ (nI m) (nI k)) (pa d m k) := by
  have := hM.2.1
  have := (hW m hm).2.2.2.1
  unfold fC2_parameterAt
  rw [if_neg (nI_pos (by omega)), ifin (by omega) (by omega), clN (by omega), (hM.2.2 m hm).2.2.2.2.1, if_neg (by rw [leN (by omega) (by omega)]; omega), ix4, ifin (by omega) (by omega), clN (by omega)]
  exact ⟨_, rfl, (hM.2.2 m hm).2.2.2.2.2 k hk⟩
theorem ix2 (m k : Nat) : nI m * (2 : Int32) + nI k = nI (2 * m + k) := by
  show nI m * nI 2 + nI k = _
  rw [pk_mul, nI_add, Nat.mul_comm]
theorem x_argParam (h : AX σ a e) (hA : WA T a e) {i k : Nat} (hi : i < a) (hl : la e i ≠ 0) (hk : k < wi e i) : isV (fC3_parameterAt σ (nI i) (nI k)) (ap e i k) := by
  have := h.2.1
  have := ((hA i hi).2.2 hl).2
  unfold fC3_parameterAt
  rw [if_neg (nI_pos (by omega)), ifin (by omega) (by omega), clN (by omega), ((h.2.2 i hi).2.2 hl).1, if_neg (by rw [leN (by omega) (by omega)]; omega), ix2, ifin (by omega) (by omega), clN (by omega)]
  exact ⟨_, rfl, ((h.2.2 i hi).2.2 hl).2 k hk⟩
theorem predN (k : Nat) (h : 0 < k) : nI k - (1 : Int32) = nI (k - 1) := by
  show nI k - nI 1 = _
  rw [pk_sub h]
/-- facing: with sp told as 0 or 1 -/
theorem x_facing (hM : MX σ n d) (hW : WD T n d) {m i : Nat} (hm : m < n) (hi : i < 10) {sp : Prop} {s : Int32} (hs : s = 1 ∧ sp ∨ s = 0 ∧ ¬ sp) (h1 : sp → VA d m) (h2 : ¬ (sp ∧ cn d m ≤ i + 1) → i < cn d m) : isV (fC2_facing σ (nI m) (nI i) s) (FA d m i sp) := by
  have := hM.2.1
  have hc := (hW m hm).2.2.2.1
  unfold fC2_facing FA
  rw [ifin (by omega) (by omega), clN (by omega), nmE, (hM.2.2 m hm).2.2.2.2.1]
  rcases hs with ⟨rfl, hsp⟩ | ⟨rfl, hsp⟩
  · rw [if_neg (show ¬ (1 : Int32) = 0 by decide)]
    obtain ⟨g1, g2⟩ := (hW m hm).2.2.2.2.2.2 (h1 hsp)
    rw [predN _ g1]
    by_cases hl : cn d m ≤ i + 1
    · rw [if_neg (by rw [ltN (by omega) (by omega)]; omega), if_pos ⟨hsp, hl⟩]
      obtain ⟨w, hw, hw2⟩ := x_parameterAt hM hW hm (k := cn d m - 1) (by omega)
      rw [hw, Option.bind_some]
      unfold fC1_elementOf
      rw [if_neg (by rw [i32lt, hw2, tI_64]; omega), Option.bind_some]
      exact ⟨_, rfl, by rw [sb64 (by rw [hw2]; omega), hw2]⟩
    · rw [if_pos (by rw [ltN (by omega) (by omega)]; omega), if_neg (fun q => hl q.2)]
      unfold fC2_facing_b37
      obtain ⟨w, hw, hw2⟩ := x_parameterAt hM hW hm (k := i) (by omega)
      rw [hw, Option.bind_some]
      exact ⟨w, rfl, hw2⟩
  · rw [if_pos rfl, if_neg (fun q => hsp q.1)]
    unfold fC2_facing_b37
    obtain ⟨w, hw, hw2⟩ := x_parameterAt hM hW hm (k := i) (h2 (fun q => hsp q.1))
    rw [hw, Option.bind_some]
    exact ⟨w, rfl, hw2⟩
theorem FA_ty (hT2 : T ≤ 24) (hW : WD T n d) {m i : Nat} (hm : m < n) {sp : Prop} (h1 : sp → VA d m) (h2 : ¬ (sp ∧ cn d m ≤ i + 1) → i < cn d m) : tyI T (FA d m i sp) := by
  have w := hW m hm
  unfold FA
  by_cases h : sp ∧ cn d m ≤ i + 1
  · rw [if_pos h]
    obtain ⟨g1, g2⟩ := w.2.2.2.2.2.2 (h1 h.1)
    have g3 := w.2.2.2.2.2.1 (cn d m - 1) (by omega)
    unfold vaI plI toI at g3
    unfold tyI plI toI
    omega
  · rw [if_neg h]
    exact va_ty (w.2.2.2.2.2.1 i (h2 h))
theorem x_hasShape (C : CX σ T n a d fc R e) (x : Int32) {i : Nat} (hi : i < a) (hl : la e i ≠ 0) : isB (fC4_hasShape σ x (nI i)) (SH d R T n fc e x.toInt i) := by
  obtain ⟨hW, hM, hT, hA, hWA, hF⟩ := C
  have := hM.2.1
  have := hA.2.1
  have := ((hWA i hi).2.2 hl).2
  unfold fC4_hasShape SH
  obtain ⟨w, hw, hw2⟩ := x_functionOf hT hF x
  rw [hw, Option.bind_some]
  by_cases hf : FN d R T n fc x.toInt = -1
  · rw [if_pos (by rw [i32eq, tI_m1, hw2]; exact hf)]
    exact isB_0 (fun h => h.1 hf)
  · rw [if_neg (by rw [i32eq, tI_m1, hw2]; exact hf)]
    obtain ⟨e1, e2⟩ := FN_get hw2 (by omega) hf
    rw [e1]
    generalize (FN d R T n fc x.toInt).toNat = f at e2
    have := (hW f e2).2.2.2.1
    rw [x_widthOf hM e2, Option.bind_some, x_argWidth hA hi hl, Option.bind_some]
    refine isB_ite (fun c => ?_) (fun c => isB_0 (fun h => c (by rw [h.2.1])))
    rw [eqN (by omega) (by omega)] at c
    obtain ⟨v1, q1, q2⟩ := isB_some (x_memResult hM e2)
    obtain ⟨v2, q3, q4⟩ := isB_some (x_argResult hA hi)
    rw [q1, Option.bind_some, q3, Option.bind_some]
    refine isB_eq2 q2 q4 ?_
    constructor
    · intro h; constructor
      · intro z y; exact z (h.2.2.mpr y)
      · intro z y; exact z (h.2.2.mp y)
    · intro h
      refine ⟨hf, c, ?_, ?_⟩
      · intro y; exact Classical.byContradiction fun z => (h.mpr z) y
      · intro y; exact Classical.byContradiction fun z => (h.mp z) y
theorem x_meant_loop (C : CX σ T n a d fc R e) {m : Nat} (hm : m < n) {s : Int32} (hs : s = 1 ∧ VA d m ∨ s = 0 ∧ ¬ VA d m) (hc : cn d m = a ∨ (VA d m ∧ cn d m ≤ a + 1)) : ∀ (r k f : Nat), k + r = a → r < f → isB (fC4_couldBeMeant_b51 σ f (nI m) s (nI k)) (∀ i, k ≤ i → i < a → la e i ≠ 0 → SH d R T n fc e (FA d m i (VA d m)) i) := by
  have C' := C
  obtain ⟨hW, hM, hT, hA, hWA, hF⟩ := C'
  have := hM.2.1
  have := hA.2.1
  have z1 : ¬ (1 : Int32) = 0 := by decide
  intro r
  induction r with
  | zero =>
    intro k f hk hf
    obtain ⟨f, rfl⟩ : ∃ z, f = z + 1 := ⟨f - 1, by omega⟩
    rw [fC4_couldBeMeant_b51]
    unfold fC3_size
    rw [hA.1, Option.bind_some, if_pos (by rw [leN (by omega) (by omega)]; omega)]
    exact isB_1 (fun i h1 h2 => by omega)
  | succ r ih =>
    intro k f hk hf
    obtain ⟨f, rfl⟩ : ∃ z, f = z + 1 := ⟨f - 1, by omega⟩
    rw [fC4_couldBeMeant_b51]
    unfold fC3_size fC4_couldBeMeant_b97
    rw [hA.1, Option.bind_some, if_neg (by rw [leN (by omega) (by omega)]; omega), sc1]
    have next := ih (k + 1) f (by omega) (by omega)
    refine isB_bind (x_isLambda hA (i := k) (by omega)) (fun h1 => ?_) (fun h1 => ?_)
    · rw [if_neg z1]
      obtain ⟨w, hw, hw2⟩ := x_facing hM hW hm (i := k) (by omega) hs id (fun q => by
        rcases hc with g | g
        · omega
        · have h9 : ¬ cn d m ≤ k + 1 := fun z => q ⟨g.1, z⟩
          omega)
      rw [hw, Option.bind_some]
      have hS := x_hasShape C w (i := k) (by omega) h1
      rw [hw2] at hS
      refine isB_bind hS (fun h2 => ?_) (fun h2 => ?_)
      · rw [if_neg z1]
        refine isB_iff next ⟨fun h i g1 g2 g3 => ?_, fun h i g1 g2 => h i (by omega) g2⟩
        rcases Nat.lt_or_ge k i with q | q
        · exact h i q g2 g3
        · have : i = k := by omega
          subst this; exact h2
      · rw [if_pos rfl]
        exact isB_0 (fun h => h2 (h k (Nat.le_refl k) (by omega) h1))
    · rw [if_pos rfl]
      refine isB_iff next ⟨fun h i g1 g2 g3 => ?_, fun h i g1 g2 => h i (by omega) g2⟩
      rcases Nat.lt_or_ge k i with q | q
      · exact h i q g2 g3
      · have : i = k := by omega
        subst this; exact absurd g3 h1
theorem x_meant (C : CX σ T n a d fc R e) {m : Nat} (hm : m < n) : isB (fC4_couldBeMeant σ (nI m)) (ME d R T n a fc e m) := by
  have C' := C
  obtain ⟨hW, hM, hT, hA, hWA, hF⟩ := C'
  have := hM.2.1
  have := hA.2.1
  have := (hW m hm).2.2.2.1
  have z1 : ¬ (1 : Int32) = 0 := by decide
  unfold fC4_couldBeMeant fC4_couldBeMeant_b48 ME
  obtain ⟨v, q1, q2⟩ := isB_some (x_isVaried hM hW hm)
  unfold fC3_size
  rw [q1, Option.bind_some, x_widthOf hM hm, Option.bind_some, hA.1, Option.bind_some]
  refine isB_ite (fun c => ?_) (fun c => ?_)
  · rw [eqN (by omega) (by omega)] at c
    refine isB_iff (x_meant_loop C hm q2 (Or.inl c) a 0 gF (by omega) (by unfold gF; omega)) ⟨fun h => ⟨Or.inl c, fun i hi => h i (Nat.zero_le i) hi⟩, fun h i _ hi => h.2 i hi⟩
  · rw [eqN (by omega) (by omega)] at c
    rw [Option.bind_some, sc1]
    rcases q2 with ⟨rfl, q2⟩ | ⟨rfl, q2⟩
    · rw [if_neg z1]
      refine isB_ite (fun c1 => ?_) (fun c1 => ?_)
      · rw [leN (by omega) (by omega)] at c1
        refine isB_iff (x_meant_loop C hm (Or.inl ⟨rfl, q2⟩) (Or.inr ⟨q2, c1⟩) a 0 gF (by omega) (by unfold gF; omega)) ⟨fun h => ⟨Or.inr ⟨q2, c1⟩, fun i hi => h i (Nat.zero_le i) hi⟩, fun h i _ hi => h.2 i hi⟩
      · rw [leN (by omega) (by omega)] at c1
        exact isB_0 (fun h => by rcases h.1 with g | g; exact c g; exact c1 g.2)
    · rw [if_pos rfl]
      exact isB_0 (fun h => by rcases h.1 with g | g; exact c g; exact q2 g.1)
end ARGX
