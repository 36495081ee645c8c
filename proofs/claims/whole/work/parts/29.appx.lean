section APPX
variable {σ : xSt} {T n a : Nat} {d : MD} {fc : Nat → Prop} {R : Nat → Nat → Prop} {e : AD}
theorem x_acc (hT : TX σ T fc R) {x y z : Int32} (hx : tyI T x.toInt) (hy : tyI T y.toInt) {b : Prop} (hz : z = 1 ∧ b ∨ z = 0 ∧ ¬ b) : isB (fC1_accepts σ x y z) (AC R T x.toInt y.toInt b) := by
  rcases hz with ⟨rfl, hb⟩ | ⟨rfl, hb⟩
  · refine isB_iff (x_accepts hT.2.2.2 hT.2.1 x y 1 hx hy (Or.inr tI_1)) ?_
    rw [if_neg (by rw [tI_1]; decide)]
    exact ⟨fun h => Or.inr ⟨hb, h⟩, fun h => by rcases h with q | q; exact absurd hb q.1; exact q.2⟩
  · refine isB_iff (x_accepts hT.2.2.2 hT.2.1 x y 0 hx hy (Or.inl tI_0)) ?_
    rw [if_pos tI_0]
    exact ⟨fun h => Or.inl ⟨hb, h⟩, fun h => by rcases h with q | q; exact q.2; exact absurd q.1 hb⟩
theorem x_told_loop (C : CX σ T n a d fc R e) {f i : Nat} (hf : f < n) (hi : i < a) (hl : la e i ≠ 0) (hc : cn d f = wi e i) (hr : rs d f = -1 ↔ va e i = -1) {z : Int32} {b : Prop} (hz : z = 1 ∧ b ∨ z = 0 ∧ ¬ b) : ∀ (r k g : Nat), k + r = wi e i → r < g → isB (fC4_takesTold_b3 σ g (nI f) (nI i) z (nI k)) ((∀ j, k ≤ j → j < wi e i → pa d f j = ap e i j) ∧ (va e i = -1 ∨ AC R T (va e i) (rs d f) b)) := by
  obtain ⟨hW, hM, hT, hA, hWA, hF⟩ := C
  have := hM.2.1
  have := hA.2.1
  have wf := hW f hf
  have wa := (hWA i hi).2.2 hl
  have z1 : ¬ (1 : Int32) = 0 := by decide
  intro r
  induction r with
  | zero =>
    intro k g hk hg
    obtain ⟨g, rfl⟩ : ∃ z, g = z + 1 := ⟨g - 1, by omega⟩
    rw [fC4_takesTold_b3, x_argWidth hA hi hl, Option.bind_some, if_pos (by rw [leN (by omega) (by omega)]; omega)]
    refine isB_bind (x_argResult hA hi) (fun h1 => ?_) (fun h1 => ?_)
    · rw [if_neg z1]
      obtain ⟨v, q1, q2⟩ := x_valueOf hA hi
      obtain ⟨w, q3, q4⟩ := x_resultOf hM hf
      rw [q1, Option.bind_some, q3, Option.bind_some]
      have t1 : tyI T v.toInt := by rw [q2]; rcases wa.1 with g1 | g1; exact absurd g1 h1; exact va_ty g1
      have t2 : tyI T w.toInt := by rw [q4]; rcases wf.2.2.2.2.1 with g1 | g1; exact absurd (hr.mp g1) h1; exact va_ty g1
      have hac := x_acc hT t1 t2 hz
      rw [q2, q4] at hac
      refine isB_bind hac (fun h2 => ?_) (fun h2 => ?_)
      · rw [if_neg z1]; exact isB_1 ⟨fun j g1 g2 => by omega, Or.inr h2⟩
      · rw [if_pos rfl]; exact isB_0 (fun h => by rcases h.2 with q | q; exact h1 q; exact h2 q)
    · rw [if_pos rfl]
      exact isB_1 ⟨fun j g1 g2 => by omega, Or.inl (Classical.byContradiction h1)⟩
  | succ r ih =>
    intro k g hk hg
    obtain ⟨g, rfl⟩ : ∃ z, g = z + 1 := ⟨g - 1, by omega⟩
    rw [fC4_takesTold_b3, x_argWidth hA hi hl, Option.bind_some, if_neg (by rw [leN (by omega) (by omega)]; omega)]
    obtain ⟨v, q1, q2⟩ := x_parameterAt hM hW hf (k := k) (by omega)
    obtain ⟨w, q3, q4⟩ := x_argParam hA hWA hi hl (k := k) (by omega)
    rw [q1, Option.bind_some, q3, Option.bind_some, sc1]
    refine isB_ite (fun c => ?_) (fun c => isB_0 (fun h => c ?_))
    · rw [i32eq, q2, q4] at c
      refine isB_iff (ih (k + 1) g (by omega) (by omega)) ⟨fun h => ⟨fun j g1 g2 => ?_, h.2⟩, fun h => ⟨fun j g1 g2 => h.1 j (by omega) g2, h.2⟩⟩
      rcases Nat.lt_or_ge k j with q | q
      · exact h.1 j q g2
      · have : j = k := by omega
        subst this; exact c
    · rw [i32eq, q2, q4]; exact h.1 k (Nat.le_refl k) (by omega)
theorem x_takes (C : CX σ T n a d fc R e) {x : Int32} (hx : tyI T x.toInt) {i : Nat} (hi : i < a) {z : Int32} {b : Prop} (hz : z = 1 ∧ b ∨ z = 0 ∧ ¬ b) : isB (fC4_takes σ x (nI i) z) (TK d R T n fc e x.toInt i b) := by
  have C' := C
  obtain ⟨hW, hM, hT, hA, hWA, hF⟩ := C'
  have := hM.2.1
  have := hA.2.1
  have z1 : ¬ (1 : Int32) = 0 := by decide
  unfold fC4_takes TK
  refine isB_bind (x_isLambda hA hi) (fun h1 => ?_) (fun h1 => ?_)
  · rw [if_neg z1]
    refine isB_bind (x_hasShape C x hi h1) (fun h2 => ?_) (fun h2 => ?_)
    · rw [if_neg z1]
      refine isB_bind (x_isToldLambda hA hi) (fun h3 => ?_) (fun h3 => ?_)
      · rw [if_neg z1]
        obtain ⟨w, hw, hw2⟩ := x_functionOf hT hF x
        obtain ⟨e1, e2⟩ := FN_get hw2 (by omega) h2.1
        rw [hw, Option.bind_some, e1]
        unfold fC4_takesTold
        have ht := x_told_loop C e2 hi h1 h2.2.1 h2.2.2 hz (wi e i) 0 gF (by omega) (by have := ((hWA i hi).2.2 h1).2; unfold gF; omega)
        refine isB_bind ht (fun h4 => ?_) (fun h4 => ?_)
        · rw [if_neg z1]
          exact isB_1 (Or.inr ⟨h1, h2, fun _ => ⟨fun k hk => h4.1 k (Nat.zero_le k) hk, h4.2⟩⟩)
        · rw [if_pos rfl]
          refine isB_0 (fun h => h4 ?_)
          rcases h with q | q
          · exact absurd q.1 h1
          · exact ⟨fun k _ hk => (q.2.2 h3).1 k hk, (q.2.2 h3).2⟩
      · rw [if_pos rfl]
        exact isB_1 (Or.inr ⟨h1, h2, fun q => absurd q h3⟩)
    · rw [if_pos rfl]
      refine isB_0 (fun h => h2 ?_)
      rcases h with q | q
      · exact absurd q.1 h1
      · exact q.2.1
  · rw [if_pos rfl]
    have h1 : la e i = 0 := Classical.byContradiction h1
    obtain ⟨v, q1, q2⟩ := x_valueOf hA hi
    rw [q1, Option.bind_some]
    have hac := x_acc hT (x := v) (y := x) (by rw [q2]; exact (hWA i hi).2.1 h1) hx hz
    rw [q2] at hac
    refine isB_iff (isB_gd2 hac) ⟨fun h => Or.inl ⟨h1, h⟩, fun h => ?_⟩
    rcases h with q | q
    · exact q.2
    · exact absurd h1 q.1
theorem x_app_loop (C : CX σ T n a d fc R e) {m ph : Nat} (hm : m < n) (hp : 1 ≤ ph ∧ ph ≤ 3) {s : Int32} (hs : s = 1 ∧ ph = 3 ∨ s = 0 ∧ ¬ ph = 3) (h1 : ph = 3 → VA d m) (h2 : ¬ ph = 3 → cn d m = a) (h3 : cn d m ≤ a + 1) : ∀ (r k f : Nat), k + r = a → r < f → isB (fC4_applies_b52 σ f (nI m) (nI ph) s (nI k)) (∀ i, k ≤ i → i < a → TK d R T n fc e (FA d m i (ph = 3)) i (1 < ph)) := by
  have C' := C
  obtain ⟨hW, hM, hT, hA, hWA, hF⟩ := C'
  have := hM.2.1
  have := hA.2.1
  have z1 : ¬ (1 : Int32) = 0 := by decide
  intro r
  induction r with
  | zero =>
    intro k f hk hf
    obtain ⟨f, rfl⟩ : ∃ z, f = z + 1 := ⟨f - 1, by omega⟩
    rw [fC4_applies_b52]
    unfold fC3_size
    rw [hA.1, Option.bind_some, if_pos (by rw [leN (by omega) (by omega)]; omega)]
    exact isB_1 (fun i h1 h2 => by omega)
  | succ r ih =>
    intro k f hk hf
    obtain ⟨f, rfl⟩ : ∃ z, f = z + 1 := ⟨f - 1, by omega⟩
    rw [fC4_applies_b52]
    unfold fC3_size
    rw [hA.1, Option.bind_some, if_neg (by rw [leN (by omega) (by omega)]; omega)]
    have next := ih (k + 1) f (by omega) (by omega)
    have hidx : ¬ (ph = 3 ∧ cn d m ≤ k + 1) → k < cn d m := by
      intro q
      by_cases g : ph = 3
      · have h9 : ¬ cn d m ≤ k + 1 := fun z => q ⟨g, z⟩
        omega
      · have := h2 g; omega
    obtain ⟨w, hw, hw2⟩ := x_facing hM hW hm (i := k) (by omega) hs h1 hidx
    rw [hw, Option.bind_some]
    have hty := FA_ty hT.2.1 hW hm h1 hidx
    have fin : ∀ z : Int32, (z = 1 ∧ 1 < ph ∨ z = 0 ∧ ¬ 1 < ph) → isB (fC4_applies_b88 (fC4_applies_b52 σ f) σ (nI m) (nI ph) s (nI k) w (nI k) z) (∀ i, k ≤ i → i < a → TK d R T n fc e (FA d m i (ph = 3)) i (1 < ph)) := by
      intro z hz
      unfold fC4_applies_b88
      rw [sc1]
      have ht := x_takes C (x := w) (by rw [hw2]; exact hty) (i := k) (by omega) hz
      rw [hw2] at ht
      refine isB_bind ht (fun g1 => ?_) (fun g1 => ?_)
      · rw [if_neg z1]
        refine isB_iff next ⟨fun h i g2 g3 => ?_, fun h i g2 g3 => h i (by omega) g3⟩
        rcases Nat.lt_or_ge k i with q | q
        · exact h i q g3
        · have : i = k := by omega
          subst this; exact g1
      · rw [if_pos rfl]
        exact isB_0 (fun h => g1 (h k (Nat.le_refl k) (by omega)))
    refine isB_ite (fun c => fin 0 (Or.inr ⟨rfl, ?_⟩)) (fun c => fin 1 (Or.inl ⟨rfl, ?_⟩))
    · rw [i32le, tI_1, nIt (by omega)] at c; omega
    · rw [i32le, tI_1, nIt (by omega)] at c; omega
theorem x_applies (C : CX σ T n a d fc R e) {m ph : Nat} (hm : m < n) (hp : 1 ≤ ph ∧ ph ≤ 3) (hme : cn d m = a ∨ (VA d m ∧ cn d m ≤ a + 1)) : isB (fC4_applies σ (nI m) (nI ph)) (AP d R T n a fc e m ph) := by
  have C' := C
  obtain ⟨hW, hM, hT, hA, hWA, hF⟩ := C'
  have := hM.2.1
  have := hA.2.1
  have := (hW m hm).2.2.2.1
  have z1 : ¬ (1 : Int32) = 0 := by decide
  have h3 : cn d m ≤ a + 1 := by rcases hme with g | g; omega; exact g.2
  unfold fC4_applies fC4_applies_b10 fC4_applies_b49 AP
  refine isB_ite (fun c => ?_) (fun c => ?_)
  · have c : ph = 3 := by rw [i32eq, nIt (by omega), tI_3] at c; omega
    rw [if_neg z1, if_pos c]
    refine isB_bind (x_isVaried hM hW hm) (fun h1 => ?_) (fun h1 => ?_)
    · rw [if_neg z1]
      refine isB_iff (x_app_loop C hm hp (Or.inl ⟨rfl, c⟩) (fun _ => h1) (fun q => absurd c q) h3 a 0 gF (by omega) (by unfold gF; omega)) ⟨fun h => ⟨h1, fun i hi => h i (Nat.zero_le i) hi⟩, fun h i _ hi => h.2 i hi⟩
    · rw [if_pos rfl]; exact isB_0 (fun h => h1 h.1)
  · have c : ¬ ph = 3 := by rw [i32eq, nIt (by omega), tI_3] at c; omega
    unfold fC3_size
    rw [if_pos rfl, x_widthOf hM hm, Option.bind_some, hA.1, Option.bind_some, if_neg c]
    refine isB_ite (fun c1 => ?_) (fun c1 => ?_)
    · rw [eqN (by omega) (by omega)] at c1
      refine isB_iff (x_app_loop C hm hp (Or.inr ⟨rfl, c⟩) (fun q => absurd q c) (fun _ => c1) h3 a 0 gF (by omega) (by unfold gF; omega)) ⟨fun h => ⟨c1, fun i hi => h i (Nat.zero_le i) hi⟩, fun h i _ hi => h.2 i hi⟩
    · rw [eqN (by omega) (by omega)] at c1; exact isB_0 (fun h => c1 h.1)
theorem isI_pr {p q : Int} (hp : pri p) (hq : 4 ≤ q) : ¬ isI R T p q := by
  unfold pri at hp
  unfold isI isP
  omega
theorem isI_rp {p q : Int} (hp : 4 ≤ p) (hq : pri q) : ¬ isI R T p q := by
  unfold pri at hq
  unfold isI isP
  intro h
  rcases h with h | ⟨_, h, _⟩ | ⟨_, _, h⟩ | ⟨_, h, _⟩ | ⟨_, _, h⟩
  · omega
  · omega
  · omega
  · omega
  · rcases h with h | h | ⟨_, h, _⟩ <;> omega
theorem x_finerResult (C : CX σ T n a d fc R e) {f g : Nat} (hf : f < n) (hg : g < n) (h1 : rs d f ≠ -1) (h2 : rs d g ≠ -1) {z : Int32} (hz : tyI T z.toInt) : isB (fC4_isFinerResult σ (nI f) (nI g) z) (FRr R T (rs d f) (rs d g) z.toInt) := by
  obtain ⟨hW, hM, hT, hA, hWA, hF⟩ := C
  have z1 : ¬ (1 : Int32) = 0 := by decide
  obtain ⟨v, q1, q2⟩ := x_resultOf hM hf
  obtain ⟨w, q3, q4⟩ := x_resultOf hM hg
  have t1 : vaI T v.toInt := by rw [q2]; rcases (hW f hf).2.2.2.2.1 with g1 | g1; exact absurd g1 h1; exact g1
  have t2 : vaI T w.toInt := by rw [q4]; rcases (hW g hg).2.2.2.2.1 with g1 | g1; exact absurd g1 h2; exact g1
  have p1 := va_0 t1
  have p2 := va_0 t2
  have p3 := ty_0 hz
  unfold fC4_isFinerResult
  rw [q1, Option.bind_some, q3, Option.bind_some, ← q2, ← q4]
  have hA := isB_gd2 (x_isA hT.2.2.2 hT.2.1 v w (va_ty t1) (va_ty t2))
  have b86 : isB (fC4_isFinerResult_b86 σ v w) (isI R T v.toInt w.toInt) := hA
  unfold FRr
  refine isB_bind (x_isPrimitive v) (fun g1 => ?_) (fun g1 => ?_)
  · rw [if_neg z1]
    refine isB_bind (x_isReference w) (fun g2 => ?_) (fun g2 => ?_)
    · rw [if_neg z1]
      refine isB_iff (isB_gd2 (x_isPrimitive z)) ⟨fun h => Or.inr (Or.inl ⟨g1, fun q => by unfold pri at q; omega, h⟩), fun h => ?_⟩
      rcases h with h | h | h
      · exact absurd h (isI_pr g1 g2)
      · exact h.2.2
      · exact absurd g1 h.1
    · rw [if_pos rfl]
      unfold fC4_isFinerResult_b53
      refine isB_bind (x_isReference v) (fun g3 => by omega) (fun g3 => ?_)
      rw [if_pos rfl]
      refine isB_iff b86 ⟨fun h => Or.inl h, fun h => ?_⟩
      rcases h with h | h | h
      · exact h
      · exact absurd (show pri w.toInt from ⟨p2, by omega⟩) h.2.1
      · exact absurd g1 h.1
  · rw [if_pos rfl]
    unfold fC4_isFinerResult_b53
    refine isB_bind (x_isReference v) (fun g3 => ?_) (fun g3 => by omega)
    rw [if_neg z1]
    refine isB_bind (x_isPrimitive w) (fun g4 => ?_) (fun g4 => ?_)
    · rw [if_neg z1]
      refine isB_iff (isB_gd2 (x_isReference z)) ⟨fun h => Or.inr (Or.inr ⟨g1, g4, fun q => by unfold pri at q; omega⟩), fun h => ?_⟩
      rcases h with h | h | h
      · exact absurd h (isI_rp g3 g4)
      · exact absurd h.1 g1
      · have : ¬ pri z.toInt := h.2.2
        unfold pri at this
        omega
    · rw [if_pos rfl]
      refine isB_iff b86 ⟨fun h => Or.inl h, fun h => ?_⟩
      rcases h with h | h | h
      · exact h
      · exact absurd h.1 g1
      · exact absurd h.2.1 g4
theorem x_finer (C : CX σ T n a d fc R e) {x y : Int32} (hx : tyI T x.toInt) (hy : tyI T y.toInt) {i : Nat} (hi : i < a) (hsh : la e i = 2 → SH d R T n fc e x.toInt i) : isB (fC4_isFinerFunction σ x y (nI i)) (FR d R T n fc e x.toInt y.toInt i) := by
  have C' := C
  obtain ⟨hW, hM, hT, hA, hWA, hF⟩ := C'
  have := hM.2.1
  have z1 : ¬ (1 : Int32) = 0 := by decide
  unfold fC4_isFinerFunction FR
  obtain ⟨u, hu, hu2⟩ := x_functionOf hT hF x
  obtain ⟨w, hw, hw2⟩ := x_functionOf hT hF y
  rw [hu, Option.bind_some, hw, Option.bind_some]
  refine isB_bind (x_isToldLambda hA hi) (fun h1 => ?_) (fun h1 => isB_0 (fun h => h1 h.1))
  rw [if_neg z1]
  by_cases f1 : FN d R T n fc x.toInt = -1
  · rw [if_pos (by rw [i32eq, tI_m1, hu2]; exact f1)]; exact isB_0 (fun h => h.2.1 f1)
  rw [if_neg (by rw [i32eq, tI_m1, hu2]; exact f1)]
  by_cases f2 : FN d R T n fc y.toInt = -1
  · rw [if_pos (by rw [i32eq, tI_m1, hw2]; exact f2)]; exact isB_0 (fun h => h.2.2.1 f2)
  rw [if_neg (by rw [i32eq, tI_m1, hw2]; exact f2)]
  obtain ⟨e1, k1⟩ := FN_get hu2 (by omega) f1
  obtain ⟨e2, k2⟩ := FN_get hw2 (by omega) f2
  rw [e1, e2]
  have hs := hsh h1
  unfold SH at hs
  generalize (FN d R T n fc x.toInt).toNat = f at *
  generalize (FN d R T n fc y.toInt).toNat = g at *
  refine isB_bind (x_isA hT.2.2.2 hT.2.1 x y hx hy) (fun h2 => ?_) (fun h2 => ?_)
  · rw [if_neg z1]; exact isB_0 (fun h => h.2.2.2.1 h2)
  rw [if_pos rfl]
  refine isB_bind (x_isA hT.2.2.2 hT.2.1 y x hy hx) (fun h3 => ?_) (fun h3 => ?_)
  · rw [if_neg z1]; exact isB_0 (fun h => h.2.2.2.2.1 h3)
  rw [if_pos rfl]
  refine isB_bind (x_same hM hW k1 k2) (fun h4 => ?_) (fun h4 => ?_)
  · rw [if_neg z1]
    refine isB_bind (x_memResult hM k2) (fun h5 => ?_) (fun h5 => ?_)
    · rw [if_neg z1]
      refine isB_bind (x_memResult hM k1) (fun h6 => ?_) (fun h6 => ?_)
      · rw [if_neg z1]
        obtain ⟨v, q1, q2⟩ := x_valueOf hA hi
        rw [q1, Option.bind_some]
        have hv : tyI T v.toInt := by
          rw [q2]
          rcases ((hWA i hi).2.2 (by omega)).1 with g1 | g1
          · exact absurd (hs.2.2.mpr g1) h6
          · exact va_ty g1
        have hr := x_finerResult C k1 k2 h6 h5 hv
        rw [q2] at hr
        refine isB_bind hr (fun h7 => ?_) (fun h7 => ?_)
        · rw [if_neg z1]; exact isB_1 ⟨h1, f1, f2, h2, h3, h4, Or.inr ⟨h6, h7⟩⟩
        · rw [if_pos rfl]; exact isB_0 (fun h => by rcases h.2.2.2.2.2.2 with q | q; exact h5 q; exact h7 q.2)
      · rw [if_pos rfl]; exact isB_0 (fun h => by rcases h.2.2.2.2.2.2 with q | q; exact h5 q; exact h6 q.1)
    · rw [if_pos rfl]
      exact isB_1 ⟨h1, f1, f2, h2, h3, h4, Or.inl (Classical.byContradiction h5)⟩
  · rw [if_pos rfl]; exact isB_0 (fun h => h4 h.2.2.2.2.2.1)
end APPX
