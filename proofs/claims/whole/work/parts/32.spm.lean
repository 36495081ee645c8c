section SPM
variable {τ : xSt} {T n a : Nat} {d : MD} {fc : Nat → Prop} {R : Nat → Nat → Prop} {e : AD}
theorem FN_arr (hT2 : T ≤ 24) {z : Int} (h : 64 ≤ z) : FN d R T n fc z = -1 := by
  unfold FN
  rw [if_neg (fun q => by have := q.1; unfold toI at this; omega)]
theorem m_meant_loop {m : Nat} (hm : m < n) {s : Int32} (hs : s = 1 ∧ VA d m ∨ s = 0 ∧ ¬ VA d m) (hc : cn d m = a ∨ (VA d m ∧ cn d m ≤ a + 1)) : ∀ (r k f : Nat) (τ : xSt), k + r = a → r < f → CM τ T n a d fc R e → FM τ d R T n fc → isW (fCM_isMeant_b44 f τ (nI m) s (nI k)) (∀ i, k ≤ i → i < a → la e i ≠ 0 → SH d R T n fc e (FA d m i (VA d m)) i) (KM τ d R T n fc) := by
  have z1 : ¬ (1 : Int32) = 0 := by decide
  intro r
  induction r with
  | zero =>
    intro k f τ hk hf C hF
    obtain ⟨hW, hM, hT, hA, hWA⟩ := id C
    have := hA.2.1
    obtain ⟨f, rfl⟩ : ∃ z, f = z + 1 := ⟨f - 1, by omega⟩
    rw [fCM_isMeant_b44, hA.1, if_pos (by rw [leN (by omega) (by omega)]; omega)]
    exact isW_1 (KM_rf hF) (fun i g1 g2 => by omega)
  | succ r ih =>
    intro k f τ hk hf C hF
    obtain ⟨hW, hM, hT, hA, hWA⟩ := id C
    have hT2 := hT.2.1
    have := hM.2.1
    have := hA.2.1
    have wm := hW m hm
    have qm := hM.2.2 m hm
    have qa := hA.2.2 k (by omega)
    have wa := (hWA k (by omega)).1
    obtain ⟨f, rfl⟩ : ∃ z, f = z + 1 := ⟨f - 1, by omega⟩
    have next : ∀ τ1, KM τ d R T n fc τ1 → (la e k ≠ 0 → SH d R T n fc e (FA d m k (VA d m)) k) → isW (fCM_isMeant_b134 (fCM_isMeant_b44 f) τ1 (nI m) s (nI k)) (∀ i, k ≤ i → i < a → la e i ≠ 0 → SH d R T n fc e (FA d m i (VA d m)) i) (KM τ d R T n fc) := by
      intro τ1 K1 hk2
      unfold fCM_isMeant_b134
      rw [sc1]
      refine isW_iff (isW_K (ih (k + 1) f τ1 (by omega) (by omega) (KM_CM K1 C) K1.2) (fun τ2 h => KM_tr K1 h)) ⟨fun h i g2 g3 g4 => ?_, fun h i g2 g3 => h i (by omega) g3⟩
      rcases Nat.lt_or_ge k i with q | q
      · exact h i q g3 g4
      · have : i = k := by omega
        subst this; exact hk2 g4
    have yes : ∀ τ1, KM τ d R T n fc τ1 → SH d R T n fc e (FA d m k (VA d m)) k → isW (fCM_isMeant_b120 (fCM_isMeant_b44 f) τ1 (nI m) s (nI k)) (∀ i, k ≤ i → i < a → la e i ≠ 0 → SH d R T n fc e (FA d m i (VA d m)) i) (KM τ d R T n fc) := by
      intro τ1 K1 h
      unfold fCM_isMeant_b120 fCM_isMeant_b125
      rw [if_neg z1]
      exact next τ1 K1 (fun _ => h)
    have no : ∀ τ1, KM τ d R T n fc τ1 → la e k ≠ 0 → ¬ SH d R T n fc e (FA d m k (VA d m)) k → isW (fCM_isMeant_b124 (fCM_isMeant_b44 f) τ1 (nI m) s (nI k)) (∀ i, k ≤ i → i < a → la e i ≠ 0 → SH d R T n fc e (FA d m i (VA d m)) i) (KM τ d R T n fc) := by
      intro τ1 K1 hl h
      unfold fCM_isMeant_b124 fCM_isMeant_b125
      rw [if_pos rfl]
      exact isW_0 K1 (fun q => h (q k (Nat.le_refl k) (by omega) hl))
    rw [fCM_isMeant_b44, hA.1, if_neg (by rw [leN (by omega) (by omega)]; omega), ifin (by omega) (by omega), clN (by omega), qa.1]
    refine isW_ite (fun c => ?_) (fun c => ?_)
    · have c : la e k = 0 := by rw [i32le, nIt (by omega), tI_0] at c; omega
      exact next τ (KM_rf hF) (fun q => absurd c q)
    have c : la e k ≠ 0 := by rw [i32le, nIt (by omega), tI_0] at c; omega
    -- the second try: the spread type
    have b89 : ∀ τ1, KM τ d R T n fc τ1 → ((VA d m ∧ cn d m ≤ k + 1) ∨ ¬ SH d R T n fc e (FA d m k (VA d m)) k) → isW (fCM_isMeant_b89 (fCM_isMeant_b44 f) τ1 (nI m) s (nI k)) (∀ i, k ≤ i → i < a → la e i ≠ 0 → SH d R T n fc e (FA d m i (VA d m)) i) (KM τ d R T n fc) := by
      intro τ1 K1 hcase
      have C1 := KM_CM K1 C
      unfold fCM_isMeant_b89
      rcases hs with ⟨rfl, hv⟩ | ⟨rfl, hv⟩
      · obtain ⟨g1, g2⟩ := wm.2.2.2.2.2.2 hv
        rw [if_neg z1, ifin (by omega) (by omega), clN (by omega), (C1.2.1.2.2 m hm).2.2.2.2.1, predN _ g1]
        refine isW_ite (fun c1 => ?_) (fun c1 => ?_)
        · rw [ltN (by omega) (by omega)] at c1
          refine no τ1 K1 c ?_
          rcases hcase with q | q
          · omega
          · exact q
        · rw [ltN (by omega) (by omega)] at c1
          obtain ⟨w, hw, hw2⟩ := m_typeAt C1.2.1 hW hm (i := k) (by omega) (sp := VA d m) (s := 1) (Or.inl ⟨rfl, hv⟩) id (fun q => absurd (show VA d m ∧ cn d m ≤ k + 1 from ⟨hv, by omega⟩) q)
          rw [hw, Option.bind_some]
          have hS := m_hasShape C1 K1.2 w (i := k) (by omega) c
          rw [hw2] at hS
          refine isW_b2 hS (fun τ2 K2 h1 => ?_) (fun τ2 K2 h1 => ?_)
          · rw [if_neg z1]; exact yes τ2 (KM_tr K1 K2) h1
          · rw [if_pos rfl]; exact no τ2 (KM_tr K1 K2) c h1
      · rw [if_pos rfl]
        refine no τ1 K1 c ?_
        rcases hcase with q | q
        · exact absurd q.1 hv
        · exact q
    rw [ifin (by omega) (by omega), clN (by omega), qm.2.2.2.2.1]
    refine isW_ite (fun c1 => ?_) (fun c1 => ?_)
    · rw [leN (by omega) (by omega)] at c1
      refine b89 τ (KM_rf hF) (Or.inl ?_)
      rcases hc with g | g
      · omega
      · exact ⟨g.1, by omega⟩
    · rw [leN (by omega) (by omega)] at c1
      rw [ix4', ifin (by omega) (by omega), clN (by omega)]
      have hS := m_hasShape C hF (τ.1 11 (4 * m + k)) (i := k) (by omega) c
      rw [qm.2.2.2.2.2 k (by omega)] at hS
      refine isW_b2 hS (fun τ1 K1 h1 => ?_) (fun τ1 K1 h1 => ?_)
      · rw [if_neg z1]
        refine yes τ1 K1 ?_
        by_cases hv : VA d m ∧ cn d m ≤ k + 1
        · exfalso
          obtain ⟨g1, g2⟩ := wm.2.2.2.2.2.2 hv.1
          have : k = cn d m - 1 := by omega
          subst this
          exact h1.1 (FN_arr hT2 g2)
        · unfold FA
          rw [if_neg hv]
          exact h1
      · rw [if_pos rfl]
        refine b89 τ1 K1 ?_
        by_cases hv : VA d m ∧ cn d m ≤ k + 1
        · exact Or.inl hv
        · refine Or.inr ?_
          unfold FA
          rw [if_neg hv]
          exact h1
theorem m_meant (C : CM τ T n a d fc R e) (hF : FM τ d R T n fc) {m : Nat} (hm : m < n) : isW (fCM_isMeant τ (nI m)) (ME d R T n a fc e m) (KM τ d R T n fc) := by
  obtain ⟨hW, hM, hT, hA, hWA⟩ := id C
  have := hM.2.1
  have := hA.2.1
  have := (hW m hm).2.2.2.1
  have z1 : ¬ (1 : Int32) = 0 := by decide
  unfold fCM_isMeant fCM_isMeant_b42 ME
  obtain ⟨v, q1, q2⟩ := isB_some (m_has8 hM hW hm)
  rw [q1, Option.bind_some, ifin (by omega) (by omega), ifin (by omega) (by omega), clN (by omega), (hM.2.2 m hm).2.2.2.2.1, hA.1, sc1]
  refine isW_ite (fun c => ?_) (fun c => ?_)
  · rw [eqN (by omega) (by omega)] at c
    refine isW_iff (m_meant_loop hm q2 (Or.inl c) a 0 gF τ (by omega) (by unfold gF; omega) C hF) ⟨fun h => ⟨Or.inl c, fun i hi => h i (Nat.zero_le i) hi⟩, fun h i _ hi => h.2 i hi⟩
  · rw [eqN (by omega) (by omega)] at c
    rcases q2 with ⟨rfl, q2⟩ | ⟨rfl, q2⟩
    · rw [if_neg z1]
      refine isW_ite (fun c1 => ?_) (fun c1 => ?_)
      · rw [leN (by omega) (by omega)] at c1
        refine isW_iff (m_meant_loop hm (Or.inl ⟨rfl, q2⟩) (Or.inr ⟨q2, c1⟩) a 0 gF τ (by omega) (by unfold gF; omega) C hF) ⟨fun h => ⟨Or.inr ⟨q2, c1⟩, fun i hi => h i (Nat.zero_le i) hi⟩, fun h i _ hi => h.2 i hi⟩
      · rw [leN (by omega) (by omega)] at c1
        exact isW_0 (KM_rf hF) (fun h => by rcases h.1 with g | g; exact c g; exact c1 g.2)
    · rw [if_pos rfl]
      exact isW_0 (KM_rf hF) (fun h => by rcases h.1 with g | g; exact c g; exact q2 g.1)
theorem m_finer (C : CM τ T n a d fc R e) (hF : FM τ d R T n fc) {x y : Int32} (hx : tyI T x.toInt) (hy : tyI T y.toInt) {i : Nat} (hi : i < a) (hl : la e i = 2) (hsh : SH d R T n fc e x.toInt i) : isW (fCM_isFiner τ x y (nI i)) (FR d R T n fc e x.toInt y.toInt i) (KM τ d R T n fc) := by
  obtain ⟨hW, hM, hT, hA, hWA⟩ := id C
  have := hM.2.1
  have := hA.2.1
  have z1 : ¬ (1 : Int32) = 0 := by decide
  unfold fCM_isFiner FR
  obtain ⟨u, τ1, hu, hu2, hk1, hF1⟩ := m_functionOf hW hM hT hF x
  have K1 : KM τ d R T n fc τ1 := ⟨hk1, hF1⟩
  obtain ⟨w, τ2, hw, hw2, hk2, hF2⟩ := m_functionOf hW (KM_CM K1 C).2.1 (KM_CM K1 C).2.2.1 hF1 y
  have K2 : KM τ d R T n fc τ2 := KM_tr K1 ⟨hk2, hF2⟩
  rw [hu, b2S, hw, b2S]
  have r1 := FN_range d R T n fc x.toInt
  have r2 := FN_range d R T n fc y.toInt
  by_cases f1 : FN d R T n fc x.toInt = -1
  · rw [if_pos (by rw [i32lt, tI_0, hu2]; omega)]; exact isW_0 K2 (fun h => h.2.1 f1)
  rw [if_neg (by rw [i32lt, tI_0, hu2]; omega)]
  by_cases f2 : FN d R T n fc y.toInt = -1
  · rw [if_pos (by rw [i32lt, tI_0, hw2]; omega)]; exact isW_0 K2 (fun h => h.2.2.1 f2)
  rw [if_neg (by rw [i32lt, tI_0, hw2]; omega)]
  obtain ⟨e1, k1⟩ := FN_get hu2 (by omega) f1
  obtain ⟨e2, k2⟩ := FN_get hw2 (by omega) f2
  rw [e1, e2]
  have hs := hsh
  unfold SH at hs
  generalize (FN d R T n fc x.toInt).toNat = f at *
  generalize (FN d R T n fc y.toInt).toNat = g at *
  obtain ⟨-, hM2, hT2, hA2, -⟩ := KM_CM K2 C
  have x0 := ty_0 hx
  have y0 := ty_0 hy
  have I1 := m_isIt hT2.1 hT2.2.1 x y x0 y0
  have I2 := m_isIt hT2.1 hT2.2.1 y x y0 x0
  rw [hT2.2.2.2] at I1 I2
  refine isW_bind (m_same hM2 hW k1 k2) (fun h4 => ?_) (fun h4 => ?_)
  · rw [if_neg z1]
    refine isW_bind I1 (fun h2 => ?_) (fun h2 => ?_)
    · rw [if_neg z1]; exact isW_0 K2 (fun h => h.2.2.2.1 h2)
    rw [if_pos rfl]
    refine isW_bind I2 (fun h3 => ?_) (fun h3 => ?_)
    · rw [if_neg z1]; exact isW_0 K2 (fun h => h.2.2.2.2.1 h3)
    rw [if_pos rfl, ifin (by omega) (by omega), nmE, ifin (by omega) (by omega), nmE, clN (by omega), clN (by omega)]
    have q1 := (hM2.2.2 f k1).2.2.2.1
    have q2 := (hM2.2.2 g k2).2.2.2.1
    refine isW_ite (fun c => ?_) (fun c => ?_)
    · exact isW_1 K2 ⟨hl, f1, f2, h2, h3, h4, Or.inl (by rw [← q2, c]; exact tI_m1)⟩
    have c : rs d g ≠ -1 := fun z => c (by rw [i32eq, tI_m1, q2]; exact z)
    refine isW_ite (fun c1 => ?_) (fun c1 => ?_)
    · have c1 : rs d f = -1 := by rw [← q1, c1]; exact tI_m1
      exact isW_0 K2 (fun h => by rcases h.2.2.2.2.2.2 with q | q; exact c q; exact q.1 c1)
    have c1 : rs d f ≠ -1 := fun z => c1 (by rw [i32eq, tI_m1, q1]; exact z)
    have qa := (hA2.2.2 i hi).2.2 (by omega)
    have p1 : 0 ≤ rs d f := by rcases (hW f k1).2.2.2.2.1 with g1 | g1; exact absurd g1 c1; exact va_0 g1
    have p2 : 0 ≤ rs d g := by rcases (hW g k2).2.2.2.2.1 with g1 | g1; exact absurd g1 c; exact va_0 g1
    rw [ifin (by omega) (by omega), clN (by omega)]
    obtain ⟨v, v1, v2⟩ := isB_some (m_isPrimitive (σ := τ2) (τ2.1 16 i))
    rw [v1, Option.bind_some]
    rw [qa.1] at v2
    have I3 := m_isIt hT2.1 hT2.2.1 (τ2.1 9 f) (τ2.1 9 g) (by rw [q1]; exact p1) (by rw [q2]; exact p2)
    rw [hT2.2.2.2, q1, q2] at I3
    have P1 := m_isPrimitive (σ := τ2) (τ2.1 9 f)
    have P2 := m_isPrimitive (σ := τ2) (τ2.1 9 g)
    rw [q1] at P1
    rw [q2] at P2
    have tgt : FRr R T (rs d f) (rs d g) (va e i) ↔ (la e i = 2 ∧ FN d R T n fc x.toInt ≠ -1 ∧ FN d R T n fc y.toInt ≠ -1 ∧ ¬ isI R T x.toInt y.toInt ∧ ¬ isI R T y.toInt x.toInt ∧ SA d f g ∧ (rs d g = -1 ∨ rs d f ≠ -1 ∧ FRr R T (rs d f) (rs d g) (va e i))) := by
      constructor
      · intro h; exact ⟨hl, f1, f2, h2, h3, h4, Or.inr ⟨c1, h⟩⟩
      · intro h
        rcases h.2.2.2.2.2.2 with q | q
        · exact absurd q c
        · exact q.2
    refine isW_iff (P := FRr R T (rs d f) (rs d g) (va e i)) ?_ tgt
    unfold FRr
    have b132 : ¬ isI R T (rs d f) (rs d g) → ¬ (pri (rs d f) ∧ ¬ pri (rs d g) ∧ pri (va e i)) → isW (fCM_isFiner_b132 τ2 (τ2.1 9 f) (τ2.1 9 g) v) (isI R T (rs d f) (rs d g) ∨ (pri (rs d f) ∧ ¬ pri (rs d g) ∧ pri (va e i)) ∨ (¬ pri (rs d f) ∧ pri (rs d g) ∧ ¬ pri (va e i))) (KM τ d R T n fc) := by
      intro n1 n2
      unfold fCM_isFiner_b132
      refine isW_bind P1 (fun g1 => ?_) (fun g1 => ?_)
      · rw [if_neg z1]
        exact isW_0 K2 (fun h => by rcases h with q | q | q; exact n1 q; exact n2 q; exact q.1 g1)
      · rw [if_pos rfl]
        refine isW_bind P2 (fun g2 => ?_) (fun g2 => ?_)
        · rw [if_neg z1]
          rcases v2 with ⟨rfl, g3⟩ | ⟨rfl, g3⟩
          · rw [if_neg z1]
            exact isW_0 K2 (fun h => by rcases h with q | q | q; exact n1 q; exact n2 q; exact q.2.2 g3)
          · rw [if_pos rfl]
            exact isW_1 K2 (Or.inr (Or.inr ⟨g1, g2, g3⟩))
        · rw [if_pos rfl]
          exact isW_0 K2 (fun h => by rcases h with q | q | q; exact n1 q; exact n2 q; exact g2 q.2.1)
    refine isW_bind I3 (fun h5 => ?_) (fun h5 => ?_)
    · rw [if_neg z1]; exact isW_1 K2 (Or.inl h5)
    · rw [if_pos rfl]
      refine isW_bind P1 (fun g1 => ?_) (fun g1 => ?_)
      · rw [if_neg z1]
        refine isW_bind P2 (fun g2 => ?_) (fun g2 => ?_)
        · rw [if_neg z1]; exact b132 h5 (fun q => q.2.1 g2)
        · rw [if_pos rfl]
          by_cases hv : v = 0
          · rw [if_pos hv]
            refine b132 h5 (fun q => ?_)
            rcases v2 with g3 | g3
            · exact z1 (g3.1 ▸ hv)
            · exact g3.2 q.2.2
          · rw [if_neg hv]
            rcases v2 with g3 | g3
            · exact isW_1 K2 (Or.inr (Or.inl ⟨g1, g2, g3.2⟩))
            · exact absurd g3.1 hv
      · rw [if_pos rfl]; exact b132 h5 (fun q => g1 q.1)
  · rw [if_pos rfl]; exact isW_0 K2 (fun h => h4 h.2.2.2.2.2.1)
theorem m_sp_loop {m o : Nat} {sp : Prop} (hm : OKs d R T n a fc e m sp) (ho : OKs d R T n a fc e o sp) {s : Int32} (hs : s = 1 ∧ sp ∨ s = 0 ∧ ¬ sp) : ∀ (r k f : Nat) (τ : xSt), k + r = a → r < f → CM τ T n a d fc R e → FM τ d R T n fc → isW (fCM_isSpecial_b17 f τ (nI m) (nI o) s (nI k)) ((∀ i, k ≤ i → i < a → isI R T (FA d m i sp) (FA d o i sp) ∨ FR d R T n fc e (FA d m i sp) (FA d o i sp) i) ∧ (sp → isI R T (pa d m (cn d m - 1) - 64) (pa d o (cn d o - 1) - 64))) (KM τ d R T n fc) := by
  have z1 : ¬ (1 : Int32) = 0 := by decide
  intro r
  induction r with
  | zero =>
    intro k f τ hk hf C hF
    obtain ⟨hW, hM, hT, hA, hWA⟩ := id C
    have := hM.2.1
    have := hA.2.1
    have o1 := hm.1
    have o2 := ho.1
    obtain ⟨f, rfl⟩ : ∃ z, f = z + 1 := ⟨f - 1, by omega⟩
    rw [fCM_isSpecial_b17, hA.1, if_pos (by rw [leN (by omega) (by omega)]; omega)]
    rcases hs with ⟨rfl, hs⟩ | ⟨rfl, hs⟩
    · have v1 := (hm.2.1 hs).1
      have v2 := (ho.2.1 hs).1
      obtain ⟨g1, g2⟩ := (hW m hm.1).2.2.2.2.2.2 v1
      obtain ⟨g3, g4⟩ := (hW o ho.1).2.2.2.2.2.2 v2
      have c1 := (hW m hm.1).2.2.2.1
      have c2 := (hW o ho.1).2.2.2.1
      have q1 := hM.2.2 m hm.1
      have q2 := hM.2.2 o ho.1
      have l1 : nI (4 * m + cn d m) - (1 : Int32) = nI (4 * m + (cn d m - 1)) := by rw [predN _ (by omega)]; congr 1; omega
      have l2 : nI (4 * o + cn d o) - (1 : Int32) = nI (4 * o + (cn d o - 1)) := by rw [predN _ (by omega)]; congr 1; omega
      rw [if_neg z1, ifin (by omega) (by omega), clN (by omega), q1.2.2.2.2.1, ix4', l1, ifin (by omega) (by omega), ifin (by omega) (by omega), clN (by omega), q2.2.2.2.2.1, ix4', l2, ifin (by omega) (by omega), clN (by omega), clN (by omega)]
      have u1 := q1.2.2.2.2.2 (cn d m - 1) (by omega)
      have u2 := q2.2.2.2.2.2 (cn d o - 1) (by omega)
      have w1 : (τ.1 11 (4 * m + (cn d m - 1)) - (64 : Int32)).toInt = pa d m (cn d m - 1) - 64 := by rw [sb64 (by rw [u1]; omega), u1]
      have w2 : (τ.1 11 (4 * o + (cn d o - 1)) - (64 : Int32)).toInt = pa d o (cn d o - 1) - 64 := by rw [sb64 (by rw [u2]; omega), u2]
      have hI := m_isIt hT.1 hT.2.1 (τ.1 11 (4 * m + (cn d m - 1)) - (64 : Int32)) (τ.1 11 (4 * o + (cn d o - 1)) - (64 : Int32)) (by rw [w1]; omega) (by rw [w2]; omega)
      rw [w1, w2, hT.2.2.2] at hI
      refine isW_bind hI (fun h1 => ?_) (fun h1 => ?_)
      · rw [if_neg z1]; exact isW_1 (KM_rf hF) ⟨fun i g1 g2 => by omega, fun _ => h1⟩
      · rw [if_pos rfl]; exact isW_0 (KM_rf hF) (fun h => h1 (h.2 hs))
    · rw [if_pos rfl]
      exact isW_1 (KM_rf hF) ⟨fun i g1 g2 => by omega, fun q => absurd q hs⟩
  | succ r ih =>
    intro k f τ hk hf C hF
    obtain ⟨hW, hM, hT, hA, hWA⟩ := id C
    have := hM.2.1
    have := hA.2.1
    obtain ⟨f, rfl⟩ : ∃ z, f = z + 1 := ⟨f - 1, by omega⟩
    rw [fCM_isSpecial_b17, hA.1, if_neg (by rw [leN (by omega) (by omega)]; omega)]
    have i1 := OKs_ix hm (k := k) (by omega)
    have i2 := OKs_ix ho (k := k) (by omega)
    obtain ⟨u, hu, hu2⟩ := m_typeAt hM hW hm.1 (i := k) (by omega) hs (fun q => (hm.2.1 q).1) i1
    obtain ⟨w, hw, hw2⟩ := m_typeAt hM hW ho.1 (i := k) (by omega) hs (fun q => (ho.2.1 q).1) i2
    rw [hu, Option.bind_some, hw, Option.bind_some]
    have t1 : tyI T u.toInt := by rw [hu2]; exact FA_ty hT.2.1 hW hm.1 (fun q => (hm.2.1 q).1) i1
    have t2 : tyI T w.toInt := by rw [hw2]; exact FA_ty hT.2.1 hW ho.1 (fun q => (ho.2.1 q).1) i2
    have hI := m_isIt hT.1 hT.2.1 u w (ty_0 t1) (ty_0 t2)
    rw [hT.2.2.2, hu2, hw2] at hI
    have go : ∀ τ1, KM τ d R T n fc τ1 → (isI R T (FA d m k sp) (FA d o k sp) ∨ FR d R T n fc e (FA d m k sp) (FA d o k sp) k) → isW (fCM_isSpecial_b83 (fCM_isSpecial_b17 f) τ1 (nI m) (nI o) s (nI k)) ((∀ i, k ≤ i → i < a → isI R T (FA d m i sp) (FA d o i sp) ∨ FR d R T n fc e (FA d m i sp) (FA d o i sp) i) ∧ (sp → isI R T (pa d m (cn d m - 1) - 64) (pa d o (cn d o - 1) - 64))) (KM τ d R T n fc) := by
      intro τ1 K1 g
      unfold fCM_isSpecial_b83
      rw [sc1]
      refine isW_iff (isW_K (ih (k + 1) f τ1 (by omega) (by omega) (KM_CM K1 C) K1.2) (fun τ2 h => KM_tr K1 h)) ⟨fun h => ⟨fun i g2 g3 => ?_, h.2⟩, fun h => ⟨fun i g2 g3 => h.1 i (by omega) g3, h.2⟩⟩
      rcases Nat.lt_or_ge k i with q | q
      · exact h.1 i q g3
      · have : i = k := by omega
        subst this; exact g
    refine isW_bind hI (fun h1 => ?_) (fun h1 => ?_)
    · rw [if_neg z1]; exact go τ (KM_rf hF) (Or.inl h1)
    · rw [if_pos rfl, ifin (by omega) (by omega), clN (by omega), (hA.2.2 k (by omega)).1]
      have wa := (hWA k (by omega)).1
      refine isW_ite (fun c => ?_) (fun c => ?_)
      · have c : la e k = 2 := by rw [i32eq, nIt (by omega), tI_2] at c; omega
        have hFr := m_finer C hF t1 t2 (i := k) (by omega) c (by rw [hu2]; exact hm.2.2.2 k (by omega) c)
        rw [hu2, hw2] at hFr
        refine isW_b2 hFr (fun τ1 K1 h2 => ?_) (fun τ1 K1 h2 => ?_)
        · rw [if_neg z1]; exact go τ1 K1 (Or.inr h2)
        · rw [if_pos rfl]
          exact isW_0 K1 (fun h => by rcases h.1 k (Nat.le_refl k) (by omega) with q | q; exact h1 q; exact h2 q)
      · have c : ¬ la e k = 2 := by rw [i32eq, nIt (by omega), tI_2] at c; omega
        exact isW_0 (KM_rf hF) (fun h => by rcases h.1 k (Nat.le_refl k) (by omega) with q | q; exact h1 q; exact c q.1)
theorem m_special (C : CM τ T n a d fc R e) (hF : FM τ d R T n fc) {m o ph : Nat} (hph : τ.1 0 19 = nI ph) (hp : ph ≤ 3) (hm : OKs d R T n a fc e m (ph = 3)) (ho : OKs d R T n a fc e o (ph = 3)) : isW (fCM_isSpecial τ (nI m) (nI o)) (SP d R T n a fc e m o (ph = 3)) (KM τ d R T n fc) := by
  have ha := C.2.2.2.1.2.1
  unfold fCM_isSpecial fCM_isSpecial_b13 SP
  rw [hph]
  refine isW_ite (fun c => ?_) (fun c => ?_)
  · have c : ph = 3 := by rw [i32eq, nIt (by omega), tI_3] at c; omega
    exact isW_iff (m_sp_loop hm ho (Or.inl ⟨rfl, c⟩) a 0 gF τ (by omega) (by unfold gF; omega) C hF) ⟨fun h => ⟨fun i hi => h.1 i (Nat.zero_le i) hi, h.2⟩, fun h => ⟨fun i _ hi => h.1 i hi, h.2⟩⟩
  · have c : ¬ ph = 3 := by rw [i32eq, nIt (by omega), tI_3] at c; omega
    exact isW_iff (m_sp_loop hm ho (Or.inr ⟨rfl, c⟩) a 0 gF τ (by omega) (by unfold gF; omega) C hF) ⟨fun h => ⟨fun i hi => h.1 i (Nat.zero_le i) hi, h.2⟩, fun h => ⟨fun i _ hi => h.1 i hi, h.2⟩⟩
end SPM
