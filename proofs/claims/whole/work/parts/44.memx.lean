/-- a member that is good, but for one like it -/
def GD (T n : Nat) (fc : Nat → Prop) (x1 x2 x3 x4 x5 : Int) (pr : Nat → Int) : Prop := toI T x1 ∧ (0 ≤ x2 ∧ x2 < 16) ∧ (0 ≤ x3 ∧ x3 ≤ 15) ∧ (x4 = -1 ∨ vaI T x4) ∧ (0 ≤ x5 ∧ x5 ≤ 4) ∧ n < 60 ∧ (∀ k : Nat, (k : Int) < x5 → vaI T (pr k)) ∧ (x3.toNat.testBit 2 = true → ¬ x3.toNat.testBit 0 = true ∧ ¬ (fc (x1 - 16).toNat ∧ x3.toNat.testBit 1 = true)) ∧ (x3.toNat.testBit 3 = true → 0 < x5 ∧ 64 ≤ pr (x5.toNat - 1))
theorem va_arr {T : Nat} (hT2 : T ≤ 24) {z : Int} (h : vaI T z) : (64 ≤ z ∧ plI T (z - 64)) ↔ 64 ≤ z := by
  unfold vaI plI toI at h
  unfold plI toI
  omega
section MEMX2
variable {σ : xSt} {T n a : Nat} {d : MD} {fc : Nat → Prop} {R : Nat → Nat → Prop} {e : AD}
theorem x_draft {x1 x2 x3 x4 x5 x6 x7 x8 x9 : Int32} (h9 : σ.1 2 9 = nI n) (hn : n ≤ 60) : ∃ σ1 σ2, fC2_draftHead σ x1 x2 x3 x4 = some σ1 ∧ fC2_draftParameters σ1 x5 x6 x7 x8 x9 = some σ2 ∧ σ2.2 = σ.2 ∧ (∀ c, (c < 9 ∨ 14 < c) → σ2.1 c = σ.1 c) ∧ (∀ c i, 9 ≤ c → c ≤ 13 → i ≠ n → σ2.1 c i = σ.1 c i) ∧ (∀ i, i < 4 * n → σ2.1 14 i = σ.1 14 i) ∧ σ2.1 9 n = x1 ∧ σ2.1 10 n = x2 ∧ σ2.1 11 n = x3 ∧ σ2.1 12 n = x4 ∧ σ2.1 13 n = x5 ∧ (∀ k, k < 4 → σ2.1 14 (4 * n + k) = prm x6 x7 x8 x9 k) := by
  have e1 : fC2_draftHead σ x1 x2 x3 x4 = some (sI (sI (sI (sI σ 9 n x1) 10 n x2) 11 n x3) 12 n x4) := by
    unfold fC2_draftHead
    rw [h9, ifin (by omega) (by omega), nmE, clN (by omega)]
    rw [sI_off (show (2 : Nat) ≠ 9 by decide), h9, ifin (by omega) (by omega), nmE, clN (by omega)]
    rw [sI_off (show (2 : Nat) ≠ 10 by decide), sI_off (show (2 : Nat) ≠ 9 by decide), h9, ifin (by omega) (by omega), nmE, clN (by omega)]
    rw [sI_off (show (2 : Nat) ≠ 11 by decide), sI_off (show (2 : Nat) ≠ 10 by decide), sI_off (show (2 : Nat) ≠ 9 by decide), h9, ifin (by omega) (by omega), nmE, clN (by omega)]
  generalize hs : sI (sI (sI (sI σ 9 n x1) 10 n x2) 11 n x3) 12 n x4 = σ1 at e1
  have h91 : σ1.1 2 9 = nI n := by rw [← hs, sI_off (by decide), sI_off (by decide), sI_off (by decide), sI_off (by decide)]; exact h9
  have m4 : nI n * (4 : Int32) = nI (4 * n) := by
    show nI n * nI 4 = _
    rw [pk_mul, Nat.mul_comm]
  have p2 : nI (4 * n) + (2 : Int32) = nI (4 * n + 2) := nI_add (4 * n) 2
  have p3 : nI (4 * n) + (3 : Int32) = nI (4 * n + 3) := nI_add (4 * n) 3
  have e2 : fC2_draftParameters σ1 x5 x6 x7 x8 x9 = some (sI (sI (sI (sI (sI σ1 13 n x5) 14 (4 * n) x6) 14 (4 * n + 1) x7) 14 (4 * n + 2) x8) 14 (4 * n + 3) x9) := by
    unfold fC2_draftParameters
    rw [h91, nmE, ifin (by omega) (by omega), nmE, clN (by omega), m4, ifin (by omega) (by omega), nmE, clN (by omega), sc1, ifin (by omega) (by omega), nmE, clN (by omega), p2, ifin (by omega) (by omega), nmE, clN (by omega), p3, ifin (by omega) (by omega), nmE, clN (by omega)]
  refine ⟨σ1, _, e1, e2, ?_, fun c hc => ?_, fun c i h1 h2 h3 => ?_, fun i hi => ?_, ?_, ?_, ?_, ?_, ?_, fun k hk => ?_⟩
  · rw [← hs]; rfl
  · rw [sI_off (by omega), sI_off (by omega), sI_off (by omega), sI_off (by omega), sI_off (by omega), ← hs, sI_off (by omega), sI_off (by omega), sI_off (by omega), sI_off (by omega)]
  · rw [sI_ne (by omega), sI_ne (by omega), sI_ne (by omega), sI_ne (by omega), sI_ne (by omega), ← hs, sI_ne (by omega), sI_ne (by omega), sI_ne (by omega), sI_ne (by omega)]
  · rw [sI_ne (by omega), sI_ne (by omega), sI_ne (by omega), sI_ne (by omega), sI_ne (by omega), ← hs, sI_ne (by omega), sI_ne (by omega), sI_ne (by omega), sI_ne (by omega)]
  · rw [sI_ne (by omega), sI_ne (by omega), sI_ne (by omega), sI_ne (by omega), sI_ne (by omega), ← hs, sI_ne (by omega), sI_ne (by omega), sI_ne (by omega), sI_on]
  · rw [sI_ne (by omega), sI_ne (by omega), sI_ne (by omega), sI_ne (by omega), sI_ne (by omega), ← hs, sI_ne (by omega), sI_ne (by omega), sI_on]
  · rw [sI_ne (by omega), sI_ne (by omega), sI_ne (by omega), sI_ne (by omega), sI_ne (by omega), ← hs, sI_ne (by omega), sI_on]
  · rw [sI_ne (by omega), sI_ne (by omega), sI_ne (by omega), sI_ne (by omega), sI_ne (by omega), ← hs, sI_on]
  · rw [sI_ne (by omega), sI_ne (by omega), sI_ne (by omega), sI_ne (by omega), sI_on]
  · unfold prm
    by_cases k0 : k = 0
    · rw [if_pos k0, sI_ne (by omega), sI_ne (by omega), sI_ne (by omega)]
      subst k0
      exact sI_on (j := 4 * n)
    · rw [if_neg k0]
      by_cases k1 : k = 1
      · rw [if_pos k1, sI_ne (by omega), sI_ne (by omega)]
        subst k1
        exact sI_on
      · rw [if_neg k1]
        by_cases k2 : k = 2
        · rw [if_pos k2, sI_ne (by omega)]
          subst k2
          exact sI_on
        · have : k = 3 := by omega
          subst this
          rw [if_neg k2]
          exact sI_on
/-- marks of a draft, once they are in range -/
theorem x_dmk {q : Nat} (hn : n ≤ 60) (h11 : σ.1 11 n = nI q) (hq : q < 16) : isB (fC2_isStatic σ (nI n)) (q.testBit 0 = true) ∧ isB (fC2_isPrivate σ (nI n)) (q.testBit 1 = true) ∧ isB (fC2_isAbstract σ (nI n)) (q.testBit 2 = true) ∧ isB (fC2_isVaried σ (nI n)) (q.testBit 3 = true) := by
  refine ⟨?_, ?_, ?_, ?_⟩
  · unfold fC2_isStatic
    rw [ifin (by omega) (by omega), clN (by omega), h11]
    have h := mk1 q hq
    exact isB_ite (fun c => isB_0 (h.mp c)) (fun c => isB_1 (Classical.byContradiction fun z => c (h.mpr z)))
  · unfold fC2_isPrivate
    rw [ifin (by omega) (by omega), clN (by omega), h11]
    have h := mk2 q hq
    exact isB_ite (fun c => isB_0 (h.mp c)) (fun c => isB_1 (Classical.byContradiction fun z => c (h.mpr z)))
  · unfold fC2_isAbstract
    rw [ifin (by omega) (by omega), clN (by omega), h11]
    have h := mk4 q hq
    exact isB_ite (fun c => isB_0 (h.mp c)) (fun c => isB_1 (Classical.byContradiction fun z => c (h.mpr z)))
  · unfold fC2_isVaried
    rw [ifin (by omega) (by omega), clN (by omega), h11]
    have h := mk8 q hq
    exact isB_ite (fun c => isB_0 (h.mp c)) (fun c => isB_1 (Classical.byContradiction fun z => c (h.mpr z)))
theorem x_goodMarks (hT : TX σ T fc R) (hn : n ≤ 60) {x1 x3 : Int32} (h9 : σ.1 9 n = x1) (h11 : σ.1 11 n = x3) (hx1 : toI T x1.toInt) : isB (fC2_hasGoodMarks σ (nI n)) ((0 ≤ x3.toInt ∧ x3.toInt ≤ 15) ∧ (x3.toInt.toNat.testBit 2 = true → ¬ x3.toInt.toNat.testBit 0 = true ∧ ¬ (fc (x1.toInt - 16).toNat ∧ x3.toInt.toNat.testBit 1 = true))) := by
  unfold fC2_hasGoodMarks
  rw [ifin (by omega) (by omega), clN (by omega), h11]
  refine isB_ite (fun h => isB_0 (fun z => ?_)) (fun h => ?_)
  · rw [i32lt, tI_0] at h; omega
  rw [ifin2 (by omega) (by omega)]
  refine isB_ite (fun h2 => ?_) (fun h2 => isB_0 (fun z => ?_))
  · rw [i32lt, tI_0] at h
    rw [i32le, tI_15] at h2
    rw [ifin2 (by omega) (by omega), h9]
    obtain ⟨q, hq, rfl⟩ : ∃ q : Nat, q < 16 ∧ x3 = nI q := ⟨x3.toInt.toNat, by omega, by rw [i32eq, nIt (by omega)]; omega⟩
    have eq : (nI q).toInt.toNat = q := by rw [nIt (by omega)]; omega
    rw [eq]
    obtain ⟨b0, b1, b2, b3⟩ := x_dmk hn h11 hq
    have go : ∀ (s : Int32) (P : Prop), ((s = 1 ∧ P) ∨ (s = 0 ∧ ¬ P)) → isB (fC2_hasGoodMarks_b51 σ (nI n) s) (q.testBit 2 = true → ¬ q.testBit 0 = true ∧ ¬ P) := by
      intro s P hs
      unfold fC2_hasGoodMarks_b51
      refine isB_bind b2 (fun g2 => ?_) (fun g2 => ?_)
      · rw [if_neg z10]
        refine isB_bind b0 (fun g0 => ?_) (fun g0 => ?_)
        · rw [if_neg z10]
          exact isB_0 (fun z => (z g2).1 g0)
        · rw [if_pos rfl]
          rcases hs with ⟨rfl, hp⟩ | ⟨rfl, hp⟩
          · rw [if_neg z10]
            exact isB_0 (fun z => (z g2).2 hp)
          · rw [if_pos rfl]
            exact isB_1 (fun _ => ⟨g0, hp⟩)
      · rw [if_pos rfl]
        exact isB_1 (fun z => absurd z g2)
    unfold fC2_hasGoodMarks_b50
    have pk : ∀ {o : Option Int32} {Q : Prop}, isB o Q → isB o ((0 ≤ (nI q).toInt ∧ (nI q).toInt ≤ 15) ∧ Q) := fun hh => isB_iff hh ⟨fun z => ⟨⟨by omega, by omega⟩, z⟩, fun z => z.2⟩
    refine pk (isB_bind (x_isInterface hT x1) (fun gi => ?_) (fun gi => ?_))
    · rw [if_neg z10]
      refine isB_bind b1 (fun g1 => ?_) (fun g1 => ?_)
      · rw [if_neg z10]
        exact go 1 _ (Or.inl ⟨rfl, gi.2, g1⟩)
      · rw [if_pos rfl]
        exact go 0 _ (Or.inr ⟨rfl, fun z => g1 z.2⟩)
    · rw [if_pos rfl]
      exact go 0 _ (Or.inr ⟨rfl, fun z => gi ⟨hx1, z.1⟩⟩)
  · rw [i32le, tI_15] at h2; omega
theorem x_goodHead (hT : TX σ T fc R) (hn : n ≤ 60) {x1 x2 x3 x4 : Int32} (h9 : σ.1 9 n = x1) (h10 : σ.1 10 n = x2) (h11 : σ.1 11 n = x3) (h12 : σ.1 12 n = x4) : isB (fC2_hasGoodHead σ (nI n)) (toI T x1.toInt ∧ (0 ≤ x2.toInt ∧ x2.toInt < 16) ∧ ((0 ≤ x3.toInt ∧ x3.toInt ≤ 15) ∧ (x3.toInt.toNat.testBit 2 = true → ¬ x3.toInt.toNat.testBit 0 = true ∧ ¬ (fc (x1.toInt - 16).toNat ∧ x3.toInt.toNat.testBit 1 = true))) ∧ (x4.toInt = -1 ∨ vaI T x4.toInt)) := by
  unfold fC2_hasGoodHead fC2_hasGoodHead_b40 fC2_hasGoodHead_b41
  rw [ifin (by omega) (by omega), clN (by omega), h9]
  refine isB_bind (x_isTold hT.1 hT.2.1 x1) (fun g1 => ?_) (fun g1 => ?_)
  · rw [if_neg z10, ifin2 (by omega) (by omega), h10]
    refine isB_ite (fun h => ?_) (fun h => ?_)
    · rw [if_pos rfl]
      rw [i32lt, tI_0] at h
      exact isB_0 (fun z => by have := z.2.1; omega)
    rw [ifin2 (by omega) (by omega)]
    refine isB_ite (fun h2 => ?_) (fun h2 => ?_)
    · rw [if_pos rfl]
      rw [i32le, tI_16] at h2
      exact isB_0 (fun z => by have := z.2.1; omega)
    rw [i32lt, tI_0] at h
    rw [i32le, tI_16] at h2
    rw [if_neg z10]
    refine isB_bind (x_goodMarks hT hn h9 h11 g1) (fun g2 => ?_) (fun g2 => ?_)
    · rw [if_neg z10, ifin2 (by omega) (by omega), h12]
      refine isB_bind (x_canBeResult hT.1 hT.2.1 x4) (fun g3 => ?_) (fun g3 => ?_)
      · rw [if_neg z10]
        exact isB_1 ⟨g1, by omega, g2, g3⟩
      · rw [if_pos rfl]
        exact isB_0 (fun z => g3 z.2.2.2)
    · rw [if_pos rfl]
      exact isB_0 (fun z => g2 z.2.2.1)
  · rw [if_pos rfl, if_pos rfl]
    exact isB_0 (fun z => g1 z.1)
theorem x_dpar (hn : n ≤ 60) {cc : Nat} {pr : Nat → Int32} (hcc : cc ≤ 4) (h13 : σ.1 13 n = nI cc) (h14 : ∀ k, k < 4 → σ.1 14 (4 * n + k) = pr k) {k : Nat} (hk : k < cc) : fC2_parameterAt σ (nI n) (nI k) = some (pr k) := by
  unfold fC2_parameterAt
  rw [if_neg (nI_pos (by omega)), ifin (by omega) (by omega), clN (by omega), h13, if_neg (by rw [leN (by omega) (by omega)]; omega), ix4, ifin (by omega) (by omega), clN (by omega), h14 k (by omega)]
theorem x_gp_loop (hT : TX σ T fc R) (hn : n ≤ 60) {cc q : Nat} {pr : Nat → Int32} (hq : q < 16) (h11 : σ.1 11 n = nI q) (hcc : cc ≤ 4) (h13 : σ.1 13 n = nI cc) (h14 : ∀ k, k < 4 → σ.1 14 (4 * n + k) = pr k) : ∀ (r k f : Nat), k + r = cc → r < f → (∀ j, j < k → vaI T (pr j).toInt) → isB (fC2_hasGoodParameters_b23 σ f (nI n) (nI k)) ((∀ j, j < cc → vaI T (pr j).toInt) ∧ (q.testBit 3 = true → 0 < cc ∧ 64 ≤ (pr (cc - 1)).toInt)) := by
  intro r
  induction r with
  | zero =>
    intro k f hk hf h
    obtain ⟨f, rfl⟩ : ∃ z, f = z + 1 := ⟨f - 1, by omega⟩
    have e : k = cc := by omega
    subst e
    rw [fC2_hasGoodParameters_b23, ifin (by omega) (by omega), clN (by omega), h13, if_pos (by rw [leN (by omega) (by omega)]; omega)]
    obtain ⟨_, _, _, b3⟩ := x_dmk hn h11 hq
    refine isB_bind b3 (fun g => ?_) (fun g => ?_)
    · rw [if_neg z10, ifin2 (by omega) (by omega)]
      by_cases h0 : k = 0
      · subst h0
        have e1 : fC2_parameterAt σ (nI n) (nI 0 - 1) = some (-1) := by
          unfold fC2_parameterAt
          rw [if_pos (by decide)]
        rw [e1, Option.bind_some]
        have ha := x_isArray (σ := σ) hT.1 hT.2.1 (-1)
        rw [tI_m1] at ha
        refine isB_bind ha (fun z => by omega) (fun _ => ?_)
        rw [if_pos rfl]
        exact isB_0 (fun z => by have := (z.2 g).1; omega)
      · rw [predN k (by omega), x_dpar hn hcc h13 h14 (k := k - 1) (by omega), Option.bind_some]
        refine isB_bind (x_isArray hT.1 hT.2.1 (pr (k - 1))) (fun z => ?_) (fun z => ?_)
        · rw [if_neg z10]
          exact isB_1 ⟨h, fun _ => ⟨by omega, z.1⟩⟩
        · rw [if_pos rfl]
          exact isB_0 (fun y => z ((va_arr hT.2.1 (h (k - 1) (by omega))).mpr (y.2 g).2))
    · rw [if_pos rfl]
      exact isB_1 ⟨h, fun z => absurd z g⟩
  | succ r ih =>
    intro k f hk hf h
    obtain ⟨f, rfl⟩ : ∃ z, f = z + 1 := ⟨f - 1, by omega⟩
    rw [fC2_hasGoodParameters_b23, ifin (by omega) (by omega), clN (by omega), h13, if_neg (by rw [leN (by omega) (by omega)]; omega), x_dpar hn hcc h13 h14 (k := k) (by omega), Option.bind_some, sc1]
    refine isB_bind (x_canBeDeclared hT.1 hT.2.1 (pr k)) (fun g => ?_) (fun g => ?_)
    · rw [if_neg z10]
      refine ih (k + 1) f (by omega) (by omega) (fun j hj => ?_)
      by_cases z : j = k
      · subst z; exact g
      · exact h j (by omega)
    · rw [if_pos rfl]
      exact isB_0 (fun z => g (z.1 k (by omega)))
theorem same_frame {σ σ' : xSt} (h13 : σ'.1 13 = σ.1 13) (h14 : σ'.1 14 = σ.1 14) (x y : Int32) : fC2_sameParameters σ' x y = fC2_sameParameters σ x y := by
  have lp : ∀ (f : Nat) (z : Int32), fC2_sameParameters_b19 σ' f x y z = fC2_sameParameters_b19 σ f x y z := by
    intro f
    induction f with
    | zero => intro z; rfl
    | succ f ih =>
      intro z
      rw [fC2_sameParameters_b19, fC2_sameParameters_b19, h13, h14, ih]
  unfold fC2_sameParameters
  rw [h13, lp]
theorem x_twice {o nm q cc : Nat} {r : Int} {pr : Nat → Int} {σ' : xSt} (hn : n < 60) (hW' : WD T (n + 1) (DE d n o nm q cc r pr)) (hM' : MX σ' (n + 1) (DE d n o nm q cc r pr)) (hT2 : T ≤ 24) (h9 : σ.1 2 9 = nI n) (hc : ∀ c, 9 ≤ c → c ≤ 14 → σ'.1 c = σ.1 c) : ∀ (e k f : Nat), k + e = n → e < f → (∀ j, j < k → ¬ TW d n o nm cc pr j) → isB (fC2_isToldTwice_b2 σ f (nI n) (nI k)) (∃ m, m < n ∧ TW d n o nm cc pr m) := by
  obtain ⟨e1, e2, e3, e4, e5, e6⟩ := DE_on (d := d) (n := n) (o := o) (nm := nm) (q := q) (cc := cc) (r := r) (pr := pr)
  intro e
  induction e with
  | zero =>
    intro k f hk hf hno
    obtain ⟨f, rfl⟩ : ∃ z, f = z + 1 := ⟨f - 1, by omega⟩
    rw [fC2_isToldTwice_b2, h9, if_pos (by rw [leN (by omega) (by omega)]; omega)]
    exact isB_0 (fun ⟨m, h1, h2⟩ => hno m (by omega) h2)
  | succ e ih =>
    intro k f hk hf hno
    obtain ⟨f, rfl⟩ : ∃ z, f = z + 1 := ⟨f - 1, by omega⟩
    have hkn : k ≠ n := by omega
    obtain ⟨d1, d2, d3, d4, d5, d6⟩ := DE_off (d := d) (n := n) (o := o) (nm := nm) (q := q) (cc := cc) (r := r) (pr := pr) hkn
    obtain ⟨a1, a2, a3, a4, a5, a6⟩ := hM'.2.2 k (by omega)
    obtain ⟨b1, b2, b3, b4, b5, b6⟩ := hM'.2.2 n (by omega)
    obtain ⟨w1, w2, w3, w4, _⟩ := hW' k (by omega)
    obtain ⟨v1, v2, v3, v4, _⟩ := hW' n (by omega)
    rw [d1] at a1 w1
    rw [d2] at a2 w2
    rw [e1] at b1 v1
    rw [e2] at b2 v2
    rw [hc 9 (by omega) (by omega)] at a1 b1
    rw [hc 10 (by omega) (by omega)] at a2 b2
    rw [fC2_isToldTwice_b2, h9, if_neg (by rw [leN (by omega) (by omega)]; omega), ifin (by omega) (by omega), ifin (by omega) (by omega), clN (by omega), clN (by omega), a1, b1]
    unfold fC2_isToldTwice_b51
    rw [sc1]
    have go : ¬ TW d n o nm cc pr k → isB (fC2_isToldTwice_b2 σ f (nI n) (nI (k + 1))) (∃ m, m < n ∧ TW d n o nm cc pr m) := fun hnk => ih (k + 1) f (by omega) (by omega) (fun j hj => by
      by_cases z : j = k
      · subst z; exact hnk
      · exact hno j (by omega))
    refine isB_ite (fun c1 => ?_) (fun c1 => go (fun z => c1 (by rw [z.1])))
    rw [eqN (by omega) (by omega)] at c1
    rw [ifin2 (by omega) (by omega), ifin2 (by omega) (by omega), a2, b2]
    refine isB_ite (fun c2 => ?_) (fun c2 => go (fun z => c2 (by rw [z.2.1])))
    rw [eqN (by omega) (by omega)] at c2
    have hs := x_same hM' hW' (m := k) (o := n) (by omega) (by omega)
    rw [same_frame (hc 13 (by omega) (by omega)) (hc 14 (by omega) (by omega))] at hs
    refine isB_bind hs (fun g => ?_) (fun g => ?_)
    · rw [if_neg z10]
      unfold SA at g
      rw [d4, e4] at g
      exact isB_1 ⟨k, by omega, by omega, c2, g.1, fun j hj => by rw [← d6 j, ← e6 j]; exact g.2 j (by omega)⟩
    · rw [if_pos rfl]
      refine go (fun z => g ?_)
      unfold SA
      rw [d4, e4]
      exact ⟨z.2.2.1, fun j hj => by rw [d6, e6]; exact z.2.2.2 j (by rw [← z.2.2.1]; exact hj)⟩
end MEMX2
