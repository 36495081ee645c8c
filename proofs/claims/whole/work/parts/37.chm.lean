def fl (s : Int32) (P : Prop) : Prop := s = 1 ∧ P ∨ s = 0 ∧ ¬ P
theorem fl_iff {s : Int32} {P Q : Prop} (h : fl s P) (e : P ↔ Q) : fl s Q := by
  rcases h with ⟨h1, h2⟩ | ⟨h1, h2⟩
  · exact Or.inl ⟨h1, e.mp h2⟩
  · exact Or.inr ⟨h1, fun z => h2 (e.mpr z)⟩
theorem nb1 : vp_nar .boolean (1 : Int32) = 1 := by decide
theorem nb0 : vp_nar .boolean (0 : Int32) = 0 := by decide
theorem nbf {s : Int32} {P : Prop} (h : fl s P) : vp_nar .boolean s = s := by
  rcases h with ⟨rfl, _⟩ | ⟨rfl, _⟩
  · exact nb1
  · exact nb0
theorem isB_fl {o : Option Int32} {P : Prop} (h : isB o P) : ∃ v, o = some v ∧ fl v P := by
  obtain ⟨v, h1, h2⟩ := isB_some h
  exact ⟨v, h1, h2⟩
theorem isW_fl {o : Option (Int32 × xSt)} {P : Prop} {K : xSt → Prop} (h : isW o P K) : ∃ v τ', o = some (v, τ') ∧ K τ' ∧ fl v P := by
  obtain ⟨τ', hk, ⟨p, e⟩ | ⟨p, e⟩⟩ := h
  · exact ⟨1, τ', e, hk, Or.inl ⟨rfl, p⟩⟩
  · exact ⟨0, τ', e, hk, Or.inr ⟨rfl, p⟩⟩
/-- the reference's state but for what the choice writes -/
def KN (τ τ' : xSt) : Prop := (∀ c, c ≠ 0 → c ≠ 17 → c ≠ 18 → c ≠ 19 → τ'.1 c = τ.1 c) ∧ (∀ j, j ≠ 19 → τ'.1 0 j = τ.1 0 j) ∧ τ'.2 = τ.2
theorem KN_rf (τ : xSt) : KN τ τ := ⟨fun _ _ _ _ _ => rfl, fun _ _ => rfl, rfl⟩
theorem KN_tr {a b c : xSt} (h1 : KN a b) (h2 : KN b c) : KN a c := ⟨fun q g1 g2 g3 g4 => (h2.1 q g1 g2 g3 g4).trans (h1.1 q g1 g2 g3 g4), fun j hj => (h2.2.1 j hj).trans (h1.2.1 j hj), h2.2.2.trans h1.2.2⟩
theorem KN_I {τ : xSt} {k j : Nat} {v : Int32} (h : k = 17 ∨ k = 18 ∨ (k = 0 ∧ j = 19)) : KN τ (sI τ k j v) := ⟨fun c g1 g2 g3 g4 => sI_off (by omega), fun i hi => sI_ne (by omega), rfl⟩
theorem KC_KN {τ τ' : xSt} (h : KC τ τ') : KN τ τ' := ⟨fun c _ _ _ g => h.1 c g, fun j _ => by rw [h.1 0 (by decide)], h.2⟩
section CHM
variable {T n a : Nat} {d : MD} {fc : Nat → Prop} {R : Nat → Nat → Prop} {e : AD}
theorem KN_CM {τ τ' : xSt} (h : KN τ τ') (C : CM τ T n a d fc R e) : CM τ' T n a d fc R e := ⟨C.1, MM_of (h.2.1 6 (by decide)) (fun c g1 g2 => h.1 c (by omega) (by omega) (by omega) (by omega)) C.2.1, TM_of (h.2.1 0 (by decide)) (h.1 1 (by decide) (by decide) (by decide) (by decide)) (h.1 5 (by decide) (by decide) (by decide) (by decide)) C.2.2.1, AM_of (h.2.1 13 (by decide)) (fun c g1 g2 => h.1 c (by omega) (by omega) (by omega) (by omega)) C.2.2.2.1, C.2.2.2.2⟩
theorem FM_I {τ : xSt} {k j : Nat} {v : Int32} (h : k ≠ 19) (hF : FM τ d R T n fc) : FM (sI τ k j v) d R T n fc := by
  unfold FM
  rw [sI_off (Ne.symm h)]
  exact hF
theorem m_b133 (k38 : xSt → Int32 → Int32 → Int32 → Int32 → Int32 → Int32 → Int32 → Option (Int32 × xSt)) (τ : xSt) (x y z x4 s5 s6 s2 : Int32) {m : Nat} (hm : m < 60) {P6 P2 : Prop} (h6 : fl s6 P6) (h2 : fl s2 P2) : ∃ s, fCM_choose_b133 k38 τ x y z x4 s5 s6 (nI m) (nI m) s2 = k38 (sI τ 17 m s2) x y z x4 s5 s (nI (m + 1)) ∧ fl s (P6 ∨ P2) := by
  have z1 : ¬ (1 : Int32) = 0 := by decide
  unfold fCM_choose_b133 fCM_choose_b149 fCM_choose_b154
  rw [ifin (by omega) (by omega), nmE, ifin (by omega) (by omega), clN (by omega), nbf h2, sI_on, sc1]
  rcases h6 with ⟨rfl, p6⟩ | ⟨rfl, p6⟩
  · rw [if_neg z1]; exact ⟨1, rfl, Or.inl ⟨rfl, Or.inl p6⟩⟩
  · rw [if_pos rfl]
    rcases h2 with ⟨rfl, p2⟩ | ⟨rfl, p2⟩
    · rw [if_neg z1]; exact ⟨1, rfl, Or.inl ⟨rfl, Or.inr p2⟩⟩
    · rw [if_pos rfl]; exact ⟨0, rfl, Or.inr ⟨rfl, fun q => q.elim p6 p2⟩⟩
theorem m_ch1 {P : Nat → Prop} {x y z x4 : Int32} (hx : toI T x.toInt) (hP : ∀ k, P k ↔ PS d R T n x.toInt z.toInt y k) : ∀ (r m f : Nat) (τ : xSt) (s5 s6 : Int32), m + r = n → r < f → CM τ T n a d fc R e → FM τ d R T n fc → (∀ k, k < m → fl (τ.1 17 k) (P k ∧ ME d R T n a fc e k)) → fl s5 (∃ k, k < m ∧ P k) → fl s6 (∃ k, k < m ∧ P k ∧ ME d R T n a fc e k) → ∃ τ' t5 t6, fCM_choose_b38 f τ x y z x4 s5 s6 (nI m) = fCM_choose_b168 gF τ' x4 t5 t6 (nI n) ∧ KN τ τ' ∧ FM τ' d R T n fc ∧ (∀ k, k < n → fl (τ'.1 17 k) (P k ∧ ME d R T n a fc e k)) ∧ fl t5 (∃ k, k < n ∧ P k) ∧ fl t6 (∃ k, k < n ∧ P k ∧ ME d R T n a fc e k) ∧ τ'.1 0 19 = τ.1 0 19 := by
  have z1 : ¬ (1 : Int32) = 0 := by decide
  intro r
  induction r with
  | zero =>
    intro m f τ s5 s6 hm hf C hF h17 h5 h6
    have hn := C.2.1.2.1
    obtain ⟨f, rfl⟩ : ∃ z, f = z + 1 := ⟨f - 1, by omega⟩
    have e : m = n := by omega
    subst e
    rw [fCM_choose_b38, C.2.1.1, if_pos (by rw [leN (by omega) (by omega)]; omega), nmE]
    exact ⟨τ, s5, s6, rfl, KN_rf τ, hF, h17, h5, h6, rfl⟩
  | succ r ih =>
    intro m f τ s5 s6 hm hf C hF h17 h5 h6
    obtain ⟨hW, hM, hT, hA, hWA⟩ := id C
    have hn := hM.2.1
    obtain ⟨f, rfl⟩ : ∃ z, f = z + 1 := ⟨f - 1, by omega⟩
    rw [fCM_choose_b38, hM.1, if_neg (by rw [leN (by omega) (by omega)]; omega), ifin (by omega) (by omega), clN (by omega), (hM.2.2 m (by omega)).2.1]
    unfold fCM_choose_b79
    -- behind the seen flag
    have b80 : ∀ s2 : Int32, fl s2 (P m) → ∃ τ' t5 t6, fCM_choose_b80 (fCM_choose_b38 f) τ x y z x4 s5 s6 (nI m) (nI m) s2 = fCM_choose_b168 gF τ' x4 t5 t6 (nI n) ∧ KN τ τ' ∧ FM τ' d R T n fc ∧ (∀ k, k < n → fl (τ'.1 17 k) (P k ∧ ME d R T n a fc e k)) ∧ fl t5 (∃ k, k < n ∧ P k) ∧ fl t6 (∃ k, k < n ∧ P k ∧ ME d R T n a fc e k) ∧ τ'.1 0 19 = τ.1 0 19 := by
      intro s2 hs2
      unfold fCM_choose_b80 fCM_choose_b96
      rw [ifin (by omega) (by omega), nmE, ifin (by omega) (by omega), clN (by omega), nbf hs2, sI_on]
      have b101 : ∀ t5 : Int32, fl t5 (∃ k, k < m + 1 ∧ P k) → ∃ τ' u5 u6, fCM_choose_b101 (fCM_choose_b38 f) (sI τ 17 m s2) x y z x4 s6 (nI m) t5 = fCM_choose_b168 gF τ' x4 u5 u6 (nI n) ∧ KN τ τ' ∧ FM τ' d R T n fc ∧ (∀ k, k < n → fl (τ'.1 17 k) (P k ∧ ME d R T n a fc e k)) ∧ fl u5 (∃ k, k < n ∧ P k) ∧ fl u6 (∃ k, k < n ∧ P k ∧ ME d R T n a fc e k) ∧ τ'.1 0 19 = τ.1 0 19 := by
        intro t5 ht5
        unfold fCM_choose_b101 fCM_choose_b132
        rw [ifin (by omega) (by omega), clN (by omega), sI_on]
        have step : ∀ (τ1 : xSt) (s3 : Int32), KN τ τ1 → FM τ1 d R T n fc → (∀ k, k < m → τ1.1 17 k = τ.1 17 k) → τ1.1 0 19 = τ.1 0 19 → fl s3 (P m ∧ ME d R T n a fc e m) → ∃ τ' u5 u6, fCM_choose_b133 (fCM_choose_b38 f) τ1 x y z x4 t5 s6 (nI m) (nI m) s3 = fCM_choose_b168 gF τ' x4 u5 u6 (nI n) ∧ KN τ τ' ∧ FM τ' d R T n fc ∧ (∀ k, k < n → fl (τ'.1 17 k) (P k ∧ ME d R T n a fc e k)) ∧ fl u5 (∃ k, k < n ∧ P k) ∧ fl u6 (∃ k, k < n ∧ P k ∧ ME d R T n a fc e k) ∧ τ'.1 0 19 = τ.1 0 19 := by
          intro τ1 s3 K1 F1 h1 h19 hs3
          obtain ⟨s, e1, e2⟩ := m_b133 (fCM_choose_b38 f) τ1 x y z x4 t5 s6 s3 (m := m) (by omega) h6 hs3
          rw [e1]
          have K2 : KN τ (sI τ1 17 m s3) := KN_tr K1 (KN_I (Or.inl rfl))
          obtain ⟨τ', u5, u6, g1, g2, g3, g4, g5, g6, g7⟩ := ih (m + 1) f (sI τ1 17 m s3) t5 s (by omega) (by omega) (KN_CM K2 C) (FM_I (by decide) F1) (fun k hk => by
            by_cases q : k = m
            · subst q; rw [sI_on]; exact hs3
            · rw [sI_ne (fun z => q z.2), h1 k (by omega)]; exact h17 k (by omega)) ht5 (fl_iff e2 ⟨fun q => by
              rcases q with ⟨k, k1, k2⟩ | q
              · exact ⟨k, by omega, k2⟩
              · exact ⟨m, by omega, q⟩, fun ⟨k, k1, k2⟩ => by
              by_cases q : k = m
              · subst q; exact Or.inr k2
              · exact Or.inl ⟨k, by omega, k2⟩⟩)
          exact ⟨τ', u5, u6, g1, KN_tr K2 g2, g3, g4, g5, g6, by rw [g7, sI_off (by decide), h19]⟩
        have K1 : KN τ (sI τ 17 m s2) := KN_I (Or.inl rfl)
        have F1 : FM (sI τ 17 m s2) d R T n fc := FM_I (by decide) hF
        have o1 : ∀ k, k < m → (sI τ 17 m s2).1 17 k = τ.1 17 k := fun k hk => sI_ne (fun z => by omega)
        have o2 : (sI τ 17 m s2).1 0 19 = τ.1 0 19 := by rw [sI_off (by decide)]
        rcases hs2 with ⟨q1, q2⟩ | ⟨q1, q2⟩
        · rw [if_neg (by rw [q1]; exact z1)]
          obtain ⟨v, τ1, e1, K2, hv⟩ := isW_fl (m_meant (KN_CM K1 C) F1 (m := m) (by omega))
          rw [e1, b2S]
          have K3 := KN_tr K1 (KC_KN K2.1)
          have o3 : ∀ k, k < m → τ1.1 17 k = τ.1 17 k := fun k hk => by rw [K2.1.1 17 (by decide)]; exact o1 k hk
          have o4 : τ1.1 0 19 = τ.1 0 19 := by rw [K2.1.1 0 (by decide)]; exact o2
          rcases hv with ⟨rfl, hv⟩ | ⟨rfl, hv⟩
          · rw [if_neg z1]; exact step τ1 1 K3 K2.2 o3 o4 (Or.inl ⟨rfl, q2, hv⟩)
          · rw [if_pos rfl]; exact step τ1 0 K3 K2.2 o3 o4 (Or.inr ⟨rfl, fun q => hv q.2⟩)
        · rw [if_pos q1]; exact step _ 0 K1 F1 o1 o2 (Or.inr ⟨rfl, fun q => q2 q.1⟩)
      rcases h5 with ⟨rfl, p5⟩ | ⟨rfl, p5⟩
      · rw [if_neg z1]
        obtain ⟨k, k1, k2⟩ := p5
        exact b101 1 (Or.inl ⟨rfl, k, by omega, k2⟩)
      · rw [if_pos rfl]
        rcases hs2 with ⟨q1, q2⟩ | ⟨q1, q2⟩
        · rw [if_neg (by rw [q1]; exact z1)]; exact b101 1 (Or.inl ⟨rfl, m, by omega, q2⟩)
        · rw [if_pos q1]
          refine b101 0 (Or.inr ⟨rfl, fun ⟨k, k1, k2⟩ => ?_⟩)
          by_cases q : k = m
          · subst q; exact q2 k2
          · exact p5 ⟨k, by omega, k2⟩
    by_cases hy : nI (na d m) = y
    · rw [if_pos hy]
      have hS := m_isSeen hM hW hT.1 hT.2.1 (m := m) (by omega) (x := x) (y := z) hx
      rw [hT.2.2.2] at hS
      rcases hS with ⟨h1, e1⟩ | ⟨h1, e1⟩
      · rw [e1, Option.bind_some, if_neg z1]; exact b80 1 (Or.inl ⟨rfl, (hP m).mpr ⟨hy, h1⟩⟩)
      · rw [e1, Option.bind_some, if_pos rfl]; exact b80 0 (Or.inr ⟨rfl, fun q => h1 ((hP m).mp q).2⟩)
    · rw [if_neg hy]; exact b80 0 (Or.inr ⟨rfl, fun q => hy ((hP m).mp q).1⟩)
theorem m_ch2 {x4 s5 s6 : Int32} : ∀ (r m f : Nat) (τ : xSt), m + r = 60 → r < f → ∃ τ', fCM_choose_b168 f τ x4 s5 s6 (nI m) = fCM_choose_b195 gF τ' x4 s5 s6 (-1) 1 ∧ KN τ τ' ∧ τ'.1 19 = τ.1 19 ∧ τ'.1 0 19 = τ.1 0 19 ∧ (∀ k, k < m → τ'.1 17 k = τ.1 17 k) ∧ (∀ k, m ≤ k → k < 60 → τ'.1 17 k = 0) := by
  intro r
  induction r with
  | zero =>
    intro m f τ hm hf
    obtain ⟨f, rfl⟩ : ∃ z, f = z + 1 := ⟨f - 1, by omega⟩
    have e : m = 60 := by omega
    subst e
    rw [fCM_choose_b168, if_pos (by decide)]
    exact ⟨τ, rfl, KN_rf τ, rfl, rfl, fun _ _ => rfl, fun k g1 g2 => by omega⟩
  | succ r ih =>
    intro m f τ hm hf
    obtain ⟨f, rfl⟩ : ∃ z, f = z + 1 := ⟨f - 1, by omega⟩
    rw [fCM_choose_b168, if_neg (by rw [i32le, tI_60, nIt (by omega)]; omega), ifin (by omega) (by omega), nmE, clN (by omega), nb0, sc1]
    obtain ⟨τ', g1, g2, g3, g4, g5, g6⟩ := ih (m + 1) f (sI τ 17 m 0) (by omega) (by omega)
    refine ⟨τ', g1, KN_tr (KN_I (Or.inl rfl)) g2, by rw [g3, sI_off (by decide)], by rw [g4, sI_off (by decide)], fun k hk => by rw [g5 k (by omega), sI_ne (fun z => by omega)], fun k h1 h2 => ?_⟩
    by_cases q : k = m
    · subst q; rw [g5 k (by omega), sI_on]
    · exact g6 k (by omega) h2
theorem m_ch3in {Q : Nat → Prop} {ph : Nat} (hp : 1 ≤ ph ∧ ph ≤ 3) (hQ : ∀ k, Q k → cn d k = a ∨ (VA d k ∧ cn d k ≤ a + 1)) (k195 : xSt → Int32 → Int32 → Int32 → Int32 → Int32 → Option (Int32 × xSt)) {x4 s5 s6 : Int32} : ∀ (r m f : Nat) (τ : xSt) (x7 : Int32), m + r = n → r < f → CM τ T n a d fc R e → FM τ d R T n fc → (∀ k, k < n → fl (τ.1 17 k) (Q k)) → ((x7.toInt = -1 ∧ ∀ k, k < m → ¬ (Q k ∧ AP d R T n a fc e k ph)) ∨ (0 ≤ x7.toInt ∧ ∃ k, k < n ∧ Q k ∧ AP d R T n a fc e k ph)) → ∃ τ' y7, fCM_choose_b214 k195 f τ x4 s5 s6 x7 (nI ph) (nI m) = k195 τ' x4 s5 s6 y7 (nI (ph + 1)) ∧ KN τ τ' ∧ FM τ' d R T n fc ∧ τ'.1 17 = τ.1 17 ∧ ((y7.toInt = -1 ∧ τ'.1 0 19 = 0 ∧ ∀ k, k < n → ¬ (Q k ∧ AP d R T n a fc e k ph)) ∨ (0 ≤ y7.toInt ∧ τ'.1 0 19 = nI ph ∧ ∃ k, k < n ∧ Q k ∧ AP d R T n a fc e k ph)) := by
  have z1 : ¬ (1 : Int32) = 0 := by decide
  intro r
  induction r with
  | zero =>
    intro m f τ x7 hm hf C hF h17 h7
    have hn := C.2.1.2.1
    obtain ⟨f, rfl⟩ : ∃ z, f = z + 1 := ⟨f - 1, by omega⟩
    have e : m = n := by omega
    subst e
    rw [fCM_choose_b214, C.2.1.1, if_pos (by rw [leN (by omega) (by omega)]; omega)]
    unfold fCM_choose_b276
    rw [nmE, nmE, sc1]
    rcases h7 with ⟨g1, g2⟩ | ⟨g1, g2⟩
    · rw [if_neg (by rw [i32le, tI_0]; omega)]
      exact ⟨sI τ 0 19 0, x7, rfl, KN_I (Or.inr (Or.inr ⟨rfl, rfl⟩)), FM_I (by decide) hF, sI_off (by decide), Or.inl ⟨g1, sI_on, g2⟩⟩
    · rw [if_pos (by rw [i32le, tI_0]; omega)]
      exact ⟨sI τ 0 19 (nI ph), x7, rfl, KN_I (Or.inr (Or.inr ⟨rfl, rfl⟩)), FM_I (by decide) hF, sI_off (by decide), Or.inr ⟨g1, sI_on, g2⟩⟩
  | succ r ih =>
    intro m f τ x7 hm hf C hF h17 h7
    have hn := C.2.1.2.1
    obtain ⟨f, rfl⟩ : ∃ z, f = z + 1 := ⟨f - 1, by omega⟩
    rw [fCM_choose_b214, C.2.1.1, if_neg (by rw [leN (by omega) (by omega)]; omega)]
    unfold fCM_choose_b254 fCM_choose_b256
    rw [sc1]
    rcases h7 with ⟨g1, g2⟩ | ⟨g1, g2⟩
    · rw [if_neg (by rw [i32le, tI_0]; omega), ifin (by omega) (by omega), clN (by omega)]
      have skip : ∀ τ1, KN τ τ1 → FM τ1 d R T n fc → τ1.1 17 = τ.1 17 → ¬ (Q m ∧ AP d R T n a fc e m ph) → ∃ τ' y7, fCM_choose_b214 k195 f τ1 x4 s5 s6 x7 (nI ph) (nI (m + 1)) = k195 τ' x4 s5 s6 y7 (nI (ph + 1)) ∧ KN τ τ' ∧ FM τ' d R T n fc ∧ τ'.1 17 = τ.1 17 ∧ ((y7.toInt = -1 ∧ τ'.1 0 19 = 0 ∧ ∀ k, k < n → ¬ (Q k ∧ AP d R T n a fc e k ph)) ∨ (0 ≤ y7.toInt ∧ τ'.1 0 19 = nI ph ∧ ∃ k, k < n ∧ Q k ∧ AP d R T n a fc e k ph)) := by
        intro τ1 K1 F1 o1 hno
        obtain ⟨τ', y7, e1, e2, e3, e4, e5⟩ := ih (m + 1) f τ1 x7 (by omega) (by omega) (KN_CM K1 C) F1 (fun k hk => by rw [o1]; exact h17 k hk) (Or.inl ⟨g1, fun k hk => by
          by_cases q : k = m
          · subst q; exact hno
          · exact g2 k (by omega)⟩)
        exact ⟨τ', y7, e1, KN_tr K1 e2, e3, by rw [e4, o1], e5⟩
      rcases h17 m (by omega) with ⟨q1, q2⟩ | ⟨q1, q2⟩
      · rw [if_neg (by rw [q1]; exact z1)]
        obtain ⟨v, τ1, e1, K2, hv⟩ := isW_fl (m_applies C hF (m := m) (ph := ph) (by omega) hp (hQ m q2))
        rw [e1, b2S]
        have o1 : τ1.1 17 = τ.1 17 := K2.1.1 17 (by decide)
        rcases hv with ⟨rfl, hv⟩ | ⟨rfl, hv⟩
        · rw [if_neg z1]
          obtain ⟨τ', y7, e1, e2, e3, e4, e5⟩ := ih (m + 1) f τ1 (nI m) (by omega) (by omega) (KM_CM K2 C) K2.2 (fun k hk => by rw [o1]; exact h17 k hk) (Or.inr ⟨by rw [nIt (by omega)]; omega, m, by omega, q2, hv⟩)
          exact ⟨τ', y7, e1, KN_tr (KC_KN K2.1) e2, e3, by rw [e4, o1], e5⟩
        · rw [if_pos rfl]; exact skip τ1 (KC_KN K2.1) K2.2 o1 (fun q => hv q.2)
      · rw [if_pos q1]; exact skip τ (KN_rf τ) hF rfl (fun q => q2 q.1)
    · rw [if_pos (by rw [i32le, tI_0]; omega)]
      exact ih (m + 1) f τ x7 (by omega) (by omega) C hF h17 (Or.inr ⟨g1, g2⟩)
theorem m_ch3 {Q : Nat → Prop} (hQ : ∀ k, Q k → cn d k = a ∨ (VA d k ∧ cn d k ≤ a + 1)) {x4 s5 s6 : Int32} (h6 : fl s6 (∃ k, k < n ∧ Q k)) : ∀ (r p f : Nat) (τ : xSt) (x7 : Int32), p + r = 4 → 1 ≤ p → r < f → CM τ T n a d fc R e → FM τ d R T n fc → (∀ k, k < n → fl (τ.1 17 k) (Q k)) → ((x7.toInt = -1 ∧ τ.1 0 19 = 0 ∧ ∀ q, 1 ≤ q → q < p → ∀ k, k < n → ¬ (Q k ∧ AP d R T n a fc e k q)) ∨ (0 ≤ x7.toInt ∧ ∃ ph, τ.1 0 19 = nI ph ∧ 1 ≤ ph ∧ ph ≤ 3 ∧ PH d R T n a fc e Q ph)) → ∃ τ' ph, fCM_choose_b195 f τ x4 s5 s6 x7 (nI p) = fCM_choose_b285 τ' x4 s5 s6 ∧ KN τ τ' ∧ FM τ' d R T n fc ∧ τ'.1 17 = τ.1 17 ∧ τ'.1 0 19 = nI ph ∧ PH d R T n a fc e Q ph := by
  have z1 : ¬ (1 : Int32) = 0 := by decide
  intro r
  induction r with
  | zero =>
    intro p f τ x7 hp1 hp2 hf C hF h17 h7
    obtain ⟨f, rfl⟩ : ∃ z, f = z + 1 := ⟨f - 1, by omega⟩
    have e : p = 4 := by omega
    subst e
    rw [fCM_choose_b195, if_pos (by decide)]
    rcases h7 with ⟨_, g1, g2⟩ | ⟨_, ph, g1, g2, g3, g4⟩
    · exact ⟨τ, 0, rfl, KN_rf τ, hF, rfl, g1, Or.inl ⟨rfl, fun q q1 q2 => g2 q q1 (by omega)⟩⟩
    · exact ⟨τ, ph, rfl, KN_rf τ, hF, rfl, g1, g4⟩
  | succ r ih =>
    intro p f τ x7 hp1 hp2 hf C hF h17 h7
    have hn := C.2.1.2.1
    obtain ⟨f, rfl⟩ : ∃ z, f = z + 1 := ⟨f - 1, by omega⟩
    rw [fCM_choose_b195, if_neg (by rw [i32le, tI_4, nIt (by omega)]; omega)]
    rcases h7 with ⟨g0, g1, g2⟩ | ⟨g0, ph, g1, g2, g3, g4⟩
    · rcases h6 with ⟨rfl, h6⟩ | ⟨rfl, h6⟩
      · rw [if_neg z1, if_neg (by rw [i32le, tI_0]; omega)]
        obtain ⟨τ1, y7, e1, e2, e3, e4, e5⟩ := m_ch3in (Q := Q) (ph := p) ⟨hp2, by omega⟩ hQ (fCM_choose_b195 f) (x4 := x4) (s5 := s5) (s6 := 1) n 0 gF τ x7 (by omega) (by unfold gF; omega) C hF h17 (Or.inl ⟨g0, fun k hk => by omega⟩)
        have e1' : fCM_choose_b214 (fCM_choose_b195 f) gF τ x4 s5 1 x7 (nI p) 0 = fCM_choose_b195 f τ1 x4 s5 1 y7 (nI (p + 1)) := e1
        rw [e1']
        obtain ⟨τ', ph, k1, k2, k3, k4, k5, k6⟩ := ih (p + 1) f τ1 y7 (by omega) (by omega) (by omega) (KN_CM e2 C) e3 (fun k hk => by rw [e4]; exact h17 k hk) (by
          rcases e5 with ⟨f1, f2, f3⟩ | ⟨f1, f2, f3⟩
          · refine Or.inl ⟨f1, f2, fun q q1 q2 => ?_⟩
            by_cases z : q = p
            · subst z; exact f3
            · exact g2 q q1 (by omega)
          · exact Or.inr ⟨f1, p, f2, hp2, by omega, Or.inr ⟨hp2, by omega, f3, g2⟩⟩)
        exact ⟨τ', ph, k1, KN_tr e2 k2, k3, by rw [k4, e4], k5, k6⟩
      · rw [if_pos rfl]
        exact ⟨τ, 0, rfl, KN_rf τ, hF, rfl, g1, Or.inl ⟨rfl, fun q _ _ k hk z => h6 ⟨k, hk, z.1⟩⟩⟩
    · have ex : (if s6 = 0 then fCM_choose_b285 τ x4 s5 s6 else if 0 ≤ x7 then fCM_choose_b285 τ x4 s5 s6 else fCM_choose_b214 (fCM_choose_b195 f) gF τ x4 s5 s6 x7 (nI p) 0) = fCM_choose_b285 τ x4 s5 s6 := by
        by_cases q : s6 = 0
        · rw [if_pos q]
        · rw [if_neg q, if_pos (by rw [i32le, tI_0]; omega)]
      rw [ex]
      exact ⟨τ, ph, rfl, KN_rf τ, hF, rfl, g1, g4⟩
theorem m_ch4 {Q : Nat → Prop} {ph : Nat} (hp : ph ≤ 3) (hQ : ∀ k, Q k → cn d k = a ∨ (VA d k ∧ cn d k ≤ a + 1)) {x4 s5 s6 : Int32} : ∀ (r m f : Nat) (τ : xSt), m + r = n → r < f → CM τ T n a d fc R e → FM τ d R T n fc → τ.1 0 19 = nI ph → (∀ k, k < m → fl (τ.1 17 k) (AF d R T n a fc e Q ph k)) → (∀ k, m ≤ k → k < n → fl (τ.1 17 k) (Q k)) → ∃ τ', fCM_choose_b288 f τ x4 s5 s6 (nI m) = fCM_choose_b348 gF τ' x4 s5 s6 0 ∧ KN τ τ' ∧ FM τ' d R T n fc ∧ τ'.1 0 19 = nI ph ∧ (∀ k, k < n → fl (τ'.1 17 k) (AF d R T n a fc e Q ph k)) ∧ (∀ k, n ≤ k → τ'.1 17 k = τ.1 17 k) := by
  have z1 : ¬ (1 : Int32) = 0 := by decide
  intro r
  induction r with
  | zero =>
    intro m f τ hm hf C hF h19 h1 h2
    have hn := C.2.1.2.1
    obtain ⟨f, rfl⟩ : ∃ z, f = z + 1 := ⟨f - 1, by omega⟩
    have e : m = n := by omega
    subst e
    rw [fCM_choose_b288, C.2.1.1, if_pos (by rw [leN (by omega) (by omega)]; omega)]
    exact ⟨τ, rfl, KN_rf τ, hF, h19, h1, fun _ _ => rfl⟩
  | succ r ih =>
    intro m f τ hm hf C hF h19 h1 h2
    have hn := C.2.1.2.1
    obtain ⟨f, rfl⟩ : ∃ z, f = z + 1 := ⟨f - 1, by omega⟩
    rw [fCM_choose_b288, C.2.1.1, if_neg (by rw [leN (by omega) (by omega)]; omega), ifin (by omega) (by omega), clN (by omega)]
    unfold fCM_choose_b337
    have step : ∀ (τ1 : xSt) (s : Int32), KN τ τ1 → FM τ1 d R T n fc → τ1.1 17 = τ.1 17 → τ1.1 0 19 = nI ph → fl s (AF d R T n a fc e Q ph m) → ∃ τ', fCM_choose_b338 (fCM_choose_b288 f) τ1 x4 s5 s6 (nI m) (nI m) s = fCM_choose_b348 gF τ' x4 s5 s6 0 ∧ KN τ τ' ∧ FM τ' d R T n fc ∧ τ'.1 0 19 = nI ph ∧ (∀ k, k < n → fl (τ'.1 17 k) (AF d R T n a fc e Q ph k)) ∧ (∀ k, n ≤ k → τ'.1 17 k = τ.1 17 k) := by
      intro τ1 s K1 F1 o1 o2 hs
      unfold fCM_choose_b338
      rw [ifin (by omega) (by omega), nmE, clN (by omega), nbf hs, sc1]
      have K2 : KN τ (sI τ1 17 m s) := KN_tr K1 (KN_I (Or.inl rfl))
      obtain ⟨τ', g1, g2, g3, g4, g5, g6⟩ := ih (m + 1) f (sI τ1 17 m s) (by omega) (by omega) (KN_CM K2 C) (FM_I (by decide) F1) (by rw [sI_off (by decide)]; exact o2) (fun k hk => by
        by_cases q : k = m
        · subst q; rw [sI_on]; exact hs
        · rw [sI_ne (fun z => q z.2), o1]; exact h1 k (by omega)) (fun k g1 g2 => by rw [sI_ne (fun z => by omega), o1]; exact h2 k (by omega) g2)
      exact ⟨τ', g1, KN_tr K2 g2, g3, g4, g5, fun k hk => by rw [g6 k hk, sI_ne (fun z => by omega), o1]⟩
    rcases h2 m (Nat.le_refl m) (by omega) with ⟨q1, q2⟩ | ⟨q1, q2⟩
    · rw [if_neg (by rw [q1]; exact z1), h19]
      by_cases h0 : ph = 0
      · rw [if_pos (by rw [i32le, nIt (by omega), tI_0]; omega)]
        exact step τ 0 (KN_rf τ) hF rfl h19 (Or.inr ⟨rfl, fun q => by have := q.2.1; omega⟩)
      · rw [if_neg (by rw [i32le, nIt (by omega), tI_0]; omega)]
        obtain ⟨v, τ1, e1, K2, hv⟩ := isW_fl (m_applies C hF (m := m) (ph := ph) (by omega) ⟨by omega, hp⟩ (hQ m q2))
        rw [e1, b2S]
        have o1 : τ1.1 17 = τ.1 17 := K2.1.1 17 (by decide)
        have o2 : τ1.1 0 19 = nI ph := by rw [K2.1.1 0 (by decide)]; exact h19
        rcases hv with ⟨rfl, hv⟩ | ⟨rfl, hv⟩
        · rw [if_neg z1]; exact step τ1 1 (KC_KN K2.1) K2.2 o1 o2 (Or.inl ⟨rfl, by omega, by omega, q2, hv⟩)
        · rw [if_pos rfl]; exact step τ1 0 (KC_KN K2.1) K2.2 o1 o2 (Or.inr ⟨rfl, fun q => hv q.2.2.2⟩)
    · rw [if_pos q1]; exact step τ 0 (KN_rf τ) hF rfl h19 (Or.inr ⟨rfl, fun q => q2 q.2.2.1⟩)
end CHM
