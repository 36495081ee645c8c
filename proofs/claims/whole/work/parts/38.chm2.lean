theorem ix60 (m k : Nat) : (60 : Int32) * nI m + nI k = nI (60 * m + k) := by
  show nI 60 * nI m + nI k = _
  rw [pk_mul, nI_add]
/-- the latest choice, as the reference keeps it -/
def LM (τ : xSt) (ph : Nat) (A : Nat → Prop) (S : Nat → Nat → Prop) : Prop := τ.1 0 19 = nI ph ∧ (∀ k, k < 60 → fl (τ.1 17 k) (A k)) ∧ ∀ k o, A k → A o → fl (τ.1 18 (60 * k + o)) (S k o)
/-- the reference's end of choose -/
def chF (σ : xSt) (x4 x5 x6 : Int32) : Option (Int32 × xSt) :=
  if (σ.1 0 19) = 0 then
    if x5 = 0 then some ((-3 : Int32), σ) else if x6 = 0 then some ((-4 : Int32), σ) else some ((-5 : Int32), σ)
  else
    (fCM_mostSpecial σ).bind fun v4 =>
    if 0 ≤ v4 then
      if x4 = (1 : Int32) then
        (fCM_has σ v4 (1 : Int32)).bind fun v5 =>
        if v5 = 0 then some ((-7 : Int32), σ) else some (v4, σ)
      else some (v4, σ)
    else some ((-6 : Int32), σ)
section CHM2
variable {T n a : Nat} {d : MD} {fc : Nat → Prop} {R : Nat → Nat → Prop} {e : AD}
theorem m_ch5in {A : Nat → Prop} {ph : Nat} (hp : ph ≤ 3) (hA : ∀ k, k < n → A k → OKs d R T n a fc e k (ph = 3)) (k348 : xSt → Int32 → Int32 → Int32 → Int32 → Option (Int32 × xSt)) {x4 s5 s6 : Int32} {m : Nat} (hm : m < n) : ∀ (r o f : Nat) (τ : xSt), o + r = n → r < f → CM τ T n a d fc R e → FM τ d R T n fc → τ.1 0 19 = nI ph → (∀ k, k < n → fl (τ.1 17 k) (A k)) → (∀ k, k < o → fl (τ.1 18 (60 * m + k)) (A m ∧ A k ∧ SP d R T n a fc e m k (ph = 3))) → ∃ τ', fCM_choose_b360 k348 f τ x4 s5 s6 (nI m) (nI o) = k348 τ' x4 s5 s6 (nI (m + 1)) ∧ KN τ τ' ∧ FM τ' d R T n fc ∧ τ'.1 0 19 = nI ph ∧ τ'.1 17 = τ.1 17 ∧ (∀ k, k < n → fl (τ'.1 18 (60 * m + k)) (A m ∧ A k ∧ SP d R T n a fc e m k (ph = 3))) ∧ (∀ j, (j < 60 * m ∨ 60 * m + 60 ≤ j) → τ'.1 18 j = τ.1 18 j) := by
  have z1 : ¬ (1 : Int32) = 0 := by decide
  intro r
  induction r with
  | zero =>
    intro o f τ ho hf C hF h19 h17 h18
    have hn := C.2.1.2.1
    obtain ⟨f, rfl⟩ : ∃ z, f = z + 1 := ⟨f - 1, by omega⟩
    have e : o = n := by omega
    subst e
    rw [fCM_choose_b360, C.2.1.1, if_pos (by rw [leN (by omega) (by omega)]; omega), sc1]
    exact ⟨τ, rfl, KN_rf τ, hF, h19, rfl, h18, fun _ _ => rfl⟩
  | succ r ih =>
    intro o f τ ho hf C hF h19 h17 h18
    have hn := C.2.1.2.1
    obtain ⟨f, rfl⟩ : ∃ z, f = z + 1 := ⟨f - 1, by omega⟩
    rw [fCM_choose_b360, C.2.1.1, if_neg (by rw [leN (by omega) (by omega)]; omega), ifin (by omega) (by omega), ifin (by omega) (by omega), clN (by omega), clN (by omega), ix60]
    unfold fCM_choose_b416
    have step : ∀ (τ1 : xSt) (s : Int32), KN τ τ1 → FM τ1 d R T n fc → τ1.1 17 = τ.1 17 → τ1.1 18 = τ.1 18 → τ1.1 0 19 = nI ph → fl s (A m ∧ A o ∧ SP d R T n a fc e m o (ph = 3)) → ∃ τ', fCM_choose_b417 k348 (fCM_choose_b360 k348 f) τ1 x4 s5 s6 (nI m) (nI o) (nI (60 * m + o)) s = k348 τ' x4 s5 s6 (nI (m + 1)) ∧ KN τ τ' ∧ FM τ' d R T n fc ∧ τ'.1 0 19 = nI ph ∧ τ'.1 17 = τ.1 17 ∧ (∀ k, k < n → fl (τ'.1 18 (60 * m + k)) (A m ∧ A k ∧ SP d R T n a fc e m k (ph = 3))) ∧ (∀ j, (j < 60 * m ∨ 60 * m + 60 ≤ j) → τ'.1 18 j = τ.1 18 j) := by
      intro τ1 s K1 F1 o1 o3 o2 hs
      unfold fCM_choose_b417
      rw [ifin (by omega) (by omega), nmE, clN (by omega), nbf hs, sc1]
      have K2 : KN τ (sI τ1 18 (60 * m + o) s) := KN_tr K1 (KN_I (Or.inr (Or.inl rfl)))
      obtain ⟨τ', g1, g2, g3, g4, g5, g6, g7⟩ := ih (o + 1) f (sI τ1 18 (60 * m + o) s) (by omega) (by omega) (KN_CM K2 C) (FM_I (by decide) F1) (by rw [sI_off (by decide)]; exact o2) (fun k hk => by rw [sI_off (by decide), o1]; exact h17 k hk) (fun k hk => by
        by_cases q : k = o
        · subst q; rw [sI_on]; exact hs
        · rw [sI_ne (fun z => by omega), o3]; exact h18 k (by omega))
      exact ⟨τ', g1, KN_tr K2 g2, g3, g4, by rw [g5, sI_off (by decide), o1], g6, fun j hj => by rw [g7 j hj, sI_ne (fun z => by omega), o3]⟩
    rcases h17 m hm with ⟨q1, q2⟩ | ⟨q1, q2⟩
    · rw [if_neg (by rw [q1]; exact z1)]
      rcases h17 o (by omega) with ⟨p1, p2⟩ | ⟨p1, p2⟩
      · rw [if_neg (by rw [p1]; exact z1)]
        obtain ⟨v, τ1, e1, K2, hv⟩ := isW_fl (m_special C hF h19 hp (hA m hm q2) (hA o (by omega) p2))
        rw [e1, b2S]
        have o1 : τ1.1 17 = τ.1 17 := K2.1.1 17 (by decide)
        have o3 : τ1.1 18 = τ.1 18 := K2.1.1 18 (by decide)
        have o2 : τ1.1 0 19 = nI ph := by rw [K2.1.1 0 (by decide)]; exact h19
        rcases hv with ⟨rfl, hv⟩ | ⟨rfl, hv⟩
        · rw [if_neg z1]; exact step τ1 1 (KC_KN K2.1) K2.2 o1 o3 o2 (Or.inl ⟨rfl, q2, p2, hv⟩)
        · rw [if_pos rfl]; exact step τ1 0 (KC_KN K2.1) K2.2 o1 o3 o2 (Or.inr ⟨rfl, fun q => hv q.2.2⟩)
      · rw [if_pos p1]; exact step τ 0 (KN_rf τ) hF rfl rfl h19 (Or.inr ⟨rfl, fun q => p2 q.2.1⟩)
    · rw [if_pos q1]; exact step τ 0 (KN_rf τ) hF rfl rfl h19 (Or.inr ⟨rfl, fun q => q2 q.1⟩)
theorem m_ch5 {A : Nat → Prop} {ph : Nat} (hp : ph ≤ 3) (hA : ∀ k, k < n → A k → OKs d R T n a fc e k (ph = 3)) {x4 s5 s6 : Int32} : ∀ (r m f : Nat) (τ : xSt), m + r = n → r < f → CM τ T n a d fc R e → FM τ d R T n fc → τ.1 0 19 = nI ph → (∀ k, k < n → fl (τ.1 17 k) (A k)) → (∀ k, k < m → ∀ o, o < n → fl (τ.1 18 (60 * k + o)) (A k ∧ A o ∧ SP d R T n a fc e k o (ph = 3))) → ∃ τ', fCM_choose_b348 f τ x4 s5 s6 (nI m) = chF τ' x4 s5 s6 ∧ KN τ τ' ∧ FM τ' d R T n fc ∧ τ'.1 0 19 = nI ph ∧ τ'.1 17 = τ.1 17 ∧ (∀ k, k < n → ∀ o, o < n → fl (τ'.1 18 (60 * k + o)) (A k ∧ A o ∧ SP d R T n a fc e k o (ph = 3))) := by
  intro r
  induction r with
  | zero =>
    intro m f τ hm hf C hF h19 h17 h18
    have hn := C.2.1.2.1
    obtain ⟨f, rfl⟩ : ∃ z, f = z + 1 := ⟨f - 1, by omega⟩
    have e : m = n := by omega
    subst e
    rw [fCM_choose_b348, C.2.1.1, if_pos (by rw [leN (by omega) (by omega)]; omega)]
    exact ⟨τ, rfl, KN_rf τ, hF, h19, rfl, h18⟩
  | succ r ih =>
    intro m f τ hm hf C hF h19 h17 h18
    have hn := C.2.1.2.1
    obtain ⟨f, rfl⟩ : ∃ z, f = z + 1 := ⟨f - 1, by omega⟩
    rw [fCM_choose_b348, C.2.1.1, if_neg (by rw [leN (by omega) (by omega)]; omega)]
    obtain ⟨τ1, g1, g2, g3, g4, g5, g6, g7⟩ := m_ch5in hp hA (fCM_choose_b348 f) (x4 := x4) (s5 := s5) (s6 := s6) (m := m) (by omega) n 0 gF τ (by omega) (by unfold gF; omega) C hF h19 h17 (fun k hk => by omega)
    have g1' : fCM_choose_b360 (fCM_choose_b348 f) gF τ x4 s5 s6 (nI m) 0 = fCM_choose_b348 f τ1 x4 s5 s6 (nI (m + 1)) := g1
    rw [g1']
    obtain ⟨τ', k1, k2, k3, k4, k5, k6⟩ := ih (m + 1) f τ1 (by omega) (by omega) (KN_CM g2 C) g3 g4 (fun k hk => by rw [g5]; exact h17 k hk) (fun k hk o ho => by
      by_cases q : k = m
      · subst q; exact g6 o ho
      · rw [g7 _ (by omega)]; exact h18 k (by omega) o ho)
    exact ⟨τ', k1, KN_tr g2 k2, k3, k4, by rw [k5, g5], k6⟩
theorem m_most_in {A : Nat → Prop} {S : Nat → Nat → Prop} {τ : xSt} (hM : MM τ n d) (h17 : ∀ k, k < n → fl (τ.1 17 k) (A k)) (h18 : ∀ k, k < n → ∀ o, o < n → fl (τ.1 18 (60 * k + o)) (A k ∧ A o ∧ S k o)) (k15 : Int32 → Int32 → Int32 → Int32 → Int32 → Int32 → Option Int32) {x1 x2 x3 x4 x5 : Int32} {m : Nat} (hm : m < n) : ∀ (r o f : Nat) (x7 : Int32), o + r = n → r < f → fl x7 (A m ∧ ∀ k, k < o → A k → S m k) → (¬ MO A S n m → fCM_mostSpecial_b36 k15 τ f x1 x2 x3 x4 x5 (nI m) x7 (nI o) = k15 x1 x2 x3 x4 x5 (nI (m + 1))) ∧ (MO A S n m → fCM_mostSpecial_b36 k15 τ f x1 x2 x3 x4 x5 (nI m) x7 (nI o) = (if x5 = 0 then fCM_mostSpecial_b117 k15 τ x1 x2 x3 x4 (nI m) else if x1 < 0 then fCM_mostSpecial_b113 k15 τ x1 x2 x3 x4 (nI m) else (fCM_sameParams τ x1 (nI m)).bind fun v13 => if v13 = 0 then fCM_mostSpecial_b117 k15 τ x1 x2 x3 x4 (nI m) else fCM_mostSpecial_b113 k15 τ x1 x2 x3 x4 (nI m))) := by
  have z1 : ¬ (1 : Int32) = 0 := by decide
  have hn := hM.2.1
  intro r
  induction r with
  | zero =>
    intro o f x7 ho hf h7
    obtain ⟨f, rfl⟩ : ∃ z, f = z + 1 := ⟨f - 1, by omega⟩
    have e : o = n := by omega
    subst e
    rw [fCM_mostSpecial_b36, hM.1, if_pos (by rw [leN (by omega) (by omega)]; omega)]
    unfold fCM_mostSpecial_b169
    rw [sc1]
    rcases h7 with ⟨rfl, h7⟩ | ⟨rfl, h7⟩
    · exact ⟨fun q => absurd (show MO A S o m from h7) q, fun _ => by rw [if_neg z1]⟩
    · exact ⟨fun _ => by rw [if_pos rfl], fun q => absurd q h7⟩
  | succ r ih =>
    intro o f x7 ho hf h7
    obtain ⟨f, rfl⟩ : ∃ z, f = z + 1 := ⟨f - 1, by omega⟩
    rw [fCM_mostSpecial_b36, hM.1, if_neg (by rw [leN (by omega) (by omega)]; omega)]
    unfold fCM_mostSpecial_b76 fCM_mostSpecial_b80 fCM_mostSpecial_b81
    rw [sc1]
    rcases h7 with ⟨rfl, h7⟩ | ⟨rfl, h7⟩
    · rw [if_neg z1, ifin (by omega) (by omega), clN (by omega), ix60, ifin (by omega) (by omega), clN (by omega)]
      rcases h17 o (by omega) with ⟨q1, q2⟩ | ⟨q1, q2⟩
      · rw [if_neg (by rw [q1]; exact z1)]
        rcases h18 m hm o (by omega) with ⟨p1, p2⟩ | ⟨p1, p2⟩
        · rw [if_neg (by rw [p1]; exact z1)]
          exact ih (o + 1) f 1 (by omega) (by omega) (Or.inl ⟨rfl, h7.1, fun k hk hak => by
            by_cases q : k = o
            · subst q; exact p2.2.2
            · exact h7.2 k (by omega) hak⟩)
        · rw [if_pos p1]
          exact ih (o + 1) f 0 (by omega) (by omega) (Or.inr ⟨rfl, fun q => p2 ⟨h7.1, q2, q.2 o (by omega) q2⟩⟩)
      · rw [if_pos q1]
        exact ih (o + 1) f 1 (by omega) (by omega) (Or.inl ⟨rfl, h7.1, fun k hk hak => by
          by_cases q : k = o
          · subst q; exact absurd hak q2
          · exact h7.2 k (by omega) hak⟩)
    · rw [if_pos rfl]
      exact ih (o + 1) f 0 (by omega) (by omega) (Or.inr ⟨rfl, fun q => h7 ⟨q.1, fun k hk hak => q.2 k (by omega) hak⟩⟩)
/-- the rest of a turn of mostSpecial, with one more that is as special as all -/
theorem m_b118 {τ : xSt} (hW : WD T n d) (hM : MM τ n d) (k15 : Int32 → Int32 → Int32 → Int32 → Int32 → Int32 → Option Int32) (x1 x2 : Int32) {cs q m : Nat} (hm : m < n) (hcs : cs < 100) (s0 : Int32) : fCM_mostSpecial_b118 k15 τ x1 x2 (nI cs) (nI q) (nI m) s0 = k15 (if 0 ≤ x1 then x1 else nI m) (@ite _ (AB d m) (Classical.propDecidable _) x2 (nI m)) (nI (@ite _ (AB d m) (Classical.propDecidable _) cs (cs + 1))) (nI (q + 1)) s0 (nI (m + 1)) := by
  have z1 : ¬ (1 : Int32) = 0 := by decide
  have z0 : nI cs + (0 : Int32) = nI cs := nI_add cs 0
  have b130 : ∀ b : Int32, fCM_mostSpecial_b130 k15 τ x2 (nI cs) (nI q) s0 (nI m) b = k15 b (@ite _ (AB d m) (Classical.propDecidable _) x2 (nI m)) (nI (@ite _ (AB d m) (Classical.propDecidable _) cs (cs + 1))) (nI (q + 1)) s0 (nI (m + 1)) := by
    intro b
    unfold fCM_mostSpecial_b130 fCM_mostSpecial_b147 fCM_mostSpecial_b164 fCM_mostSpecial_b169
    rcases m_has4 hM hW hm with ⟨g, e1⟩ | ⟨g, e1⟩
    · simp only [e1, Option.bind_some, if_neg z1, nmE]
      rw [if_pos g, if_pos g, z0, sc1, sc1]
    · rw [if_neg g, if_neg g]
      simp only [e1, Option.bind_some, if_true, nmE]
      rw [sc1, sc1, sc1]
  unfold fCM_mostSpecial_b118
  by_cases h : 0 ≤ x1
  · rw [if_pos h, if_pos h]; exact b130 x1
  · rw [if_neg h, if_neg h]; exact b130 (nI m)
theorem m_most_bad {A : Nat → Prop} {S : Nat → Nat → Prop} {τ : xSt} (hW : WD T n d) (hM : MM τ n d) (h17 : ∀ k, k < n → fl (τ.1 17 k) (A k)) (h18 : ∀ k, k < n → ∀ o, o < n → fl (τ.1 18 (60 * k + o)) (A k ∧ A o ∧ S k o)) : ∀ (r m f : Nat) (x1 x2 : Int32) (cs q : Nat), m + r = n → r < f → cs ≤ m → 2 ≤ q → q ≤ m → fCM_mostSpecial_b15 τ f x1 x2 (nI cs) (nI q) 0 (nI m) = some (-1) := by
  have z1 : ¬ (1 : Int32) = 0 := by decide
  have hn := hM.2.1
  intro r
  induction r with
  | zero =>
    intro m f x1 x2 cs q hm hf hcs hq hq2
    obtain ⟨f, rfl⟩ : ∃ z, f = z + 1 := ⟨f - 1, by omega⟩
    rw [fCM_mostSpecial_b15, hM.1, if_pos (by rw [leN (by omega) (by omega)]; omega), if_pos (by rw [i32le, tI_2, nIt (by omega)]; omega), if_pos rfl]
  | succ r ih =>
    intro m f x1 x2 cs q hm hf hcs hq hq2
    obtain ⟨f, rfl⟩ : ∃ z, f = z + 1 := ⟨f - 1, by omega⟩
    rw [fCM_mostSpecial_b15, hM.1, if_neg (by rw [leN (by omega) (by omega)]; omega), ifin (by omega) (by omega), nmE, clN (by omega)]
    have hin := m_most_in hM h17 h18 (fCM_mostSpecial_b15 τ f) (x1 := x1) (x2 := x2) (x3 := nI cs) (x4 := nI q) (x5 := 0) (m := m) (by omega) n 0 gF (τ.1 17 m) (by omega) (by unfold gF; omega) (fl_iff (h17 m (by omega)) ⟨fun h => ⟨h, fun k hk => by omega⟩, fun h => h.1⟩)
    have e0 : fCM_mostSpecial_b36 (fCM_mostSpecial_b15 τ f) τ gF x1 x2 (nI cs) (nI q) 0 (nI m) (τ.1 17 m) (0 : Int32) = fCM_mostSpecial_b36 (fCM_mostSpecial_b15 τ f) τ gF x1 x2 (nI cs) (nI q) 0 (nI m) (τ.1 17 m) (nI 0) := rfl
    rw [e0]
    by_cases hmo : MO A S n m
    · rw [hin.2 hmo, if_pos rfl]
      unfold fCM_mostSpecial_b117
      rw [m_b118 hW hM _ x1 x2 (by omega) (by omega) 0]
      refine ih (m + 1) f _ _ _ (q + 1) (by omega) (by omega) ?_ (by omega) (by omega)
      by_cases hab : AB d m
      · rw [if_pos hab]; omega
      · rw [if_neg hab]; omega
    · rw [hin.1 hmo]
      exact ih (m + 1) f x1 x2 cs q (by omega) (by omega) (by omega) hq (by omega)
theorem m_most_loop {A : Nat → Prop} {S : Nat → Nat → Prop} {τ : xSt} (hW : WD T n d) (hM : MM τ n d) (h17 : ∀ k, k < n → fl (τ.1 17 k) (A k)) (h18 : ∀ k, k < n → ∀ o, o < n → fl (τ.1 18 (60 * k + o)) (A k ∧ A o ∧ S k o)) : ∀ (r m f : Nat) (x1 x2 : Int32) (cs q : Nat), m + r = n → r < f → cs ≤ q → q ≤ m → (x1.toInt = -1 ∨ (0 ≤ x1.toInt ∧ x1.toInt < m)) → (x1.toInt = -1 ↔ q = 0) → (q = 1 → cs = 1 → x2.toInt = x1.toInt) → isV (fCM_mostSpecial_b15 τ f x1 x2 (nI cs) (nI q) 1 (nI m)) (pk (MO A S n) d r m x1.toInt x2.toInt cs) := by
  have z1 : ¬ (1 : Int32) = 0 := by decide
  have hn := hM.2.1
  intro r
  induction r with
  | zero =>
    intro m f x1 x2 cs q hm hf hcs hq hv h0 h1
    obtain ⟨f, rfl⟩ : ∃ z, f = z + 1 := ⟨f - 1, by omega⟩
    rw [fCM_mostSpecial_b15, hM.1, if_pos (by rw [leN (by omega) (by omega)]; omega)]
    unfold pk
    by_cases g0 : q < 2
    · rw [if_neg (by rw [i32le, tI_2, nIt (by omega)]; omega)]
      refine ⟨x1, rfl, ?_⟩
      by_cases g1 : x1.toInt = -1
      · rw [if_pos g1]; exact g1
      · have hq1 : q = 1 := by
          have : q ≠ 0 := fun z => g1 (h0.mpr z)
          omega
        rw [if_neg g1, if_neg (by omega)]
        by_cases g2 : cs = 1
        · rw [if_pos g2]; exact (h1 hq1 g2).symm
        · rw [if_neg g2]
    · rw [if_pos (by rw [i32le, tI_2, nIt (by omega)]; omega), if_neg z1]
      have g1 : ¬ x1.toInt = -1 := fun z => by have := h0.mp z; omega
      rw [if_neg g1]
      by_cases g2 : 1 < cs
      · rw [if_neg (by rw [i32le, nIt (by omega), tI_1]; omega), if_pos g2]
        exact ⟨-1, rfl, tI_m1⟩
      · rw [if_pos (by rw [i32le, nIt (by omega), tI_1]; omega), if_neg g2]
        by_cases g3 : cs = 1
        · rw [if_pos (by rw [i32eq, nIt (by omega), tI_1]; omega), if_pos g3]; exact ⟨x2, rfl, rfl⟩
        · rw [if_neg (by rw [i32eq, nIt (by omega), tI_1]; omega), if_neg g3]; exact ⟨x1, rfl, rfl⟩
  | succ r ih =>
    intro m f x1 x2 cs q hm hf hcs hq hv h0 h1
    obtain ⟨f, rfl⟩ : ∃ z, f = z + 1 := ⟨f - 1, by omega⟩
    rw [fCM_mostSpecial_b15, hM.1, if_neg (by rw [leN (by omega) (by omega)]; omega), ifin (by omega) (by omega), nmE, clN (by omega)]
    have hin := m_most_in hM h17 h18 (fCM_mostSpecial_b15 τ f) (x1 := x1) (x2 := x2) (x3 := nI cs) (x4 := nI q) (x5 := 1) (m := m) (by omega) n 0 gF (τ.1 17 m) (by omega) (by unfold gF; omega) (fl_iff (h17 m (by omega)) ⟨fun h => ⟨h, fun k hk => by omega⟩, fun h => h.1⟩)
    have e0 : fCM_mostSpecial_b36 (fCM_mostSpecial_b15 τ f) τ gF x1 x2 (nI cs) (nI q) 1 (nI m) (τ.1 17 m) (0 : Int32) = fCM_mostSpecial_b36 (fCM_mostSpecial_b15 τ f) τ gF x1 x2 (nI cs) (nI q) 1 (nI m) (τ.1 17 m) (nI 0) := rfl
    rw [e0]
    unfold pk
    by_cases hmo : MO A S n m
    · rw [hin.2 hmo, if_neg z1, if_pos hmo]
      have go : ∀ b : Int32, (0 ≤ b.toInt ∧ b.toInt < ((m + 1 : Nat) : Int)) → (if 0 ≤ x1 then x1 else nI m) = b → (x1.toInt = -1 → b = nI m) → isV (fCM_mostSpecial_b113 (fCM_mostSpecial_b15 τ f) τ x1 x2 (nI cs) (nI q) (nI m)) (pk (MO A S n) d r (m + 1) b.toInt (@ite _ (AB d m) (Classical.propDecidable _) x2.toInt m) (@ite _ (AB d m) (Classical.propDecidable _) cs (cs + 1))) := by
        intro b hb1 hb2 hb3
        unfold fCM_mostSpecial_b113
        rw [m_b118 hW hM _ x1 x2 (by omega) (by omega) 1, hb2]
        by_cases hab : AB d m
        · rw [if_pos hab, if_pos hab, if_pos hab]
          exact ih (m + 1) f b x2 cs (q + 1) (by omega) (by omega) (by omega) (by omega) (Or.inr hb1) ⟨fun z => by omega, fun z => by omega⟩ (fun g1 g2 => by
            have : q = 0 := by omega
            omega)
        · rw [if_neg hab, if_neg hab, if_neg hab]
          have h := ih (m + 1) f b (nI m) (cs + 1) (q + 1) (by omega) (by omega) (by omega) (by omega) (Or.inr hb1) ⟨fun z => by omega, fun z => by omega⟩ (fun g1 g2 => by
            have : q = 0 := by omega
            rw [hb3 (h0.mpr this)])
          rw [nIt (n := m) (by omega)] at h
          exact h
      by_cases g1 : x1.toInt = -1
      · rw [if_pos (show x1 < 0 by rw [i32lt, tI_0]; omega), if_pos (Or.inl g1), if_pos g1]
        have h := go (nI m) (by rw [nIt (by omega)]; omega) (if_neg (by rw [i32le, tI_0]; omega)) (fun _ => rfl)
        rw [nIt (n := m) (by omega)] at h
        exact h
      · obtain ⟨j, hj, rfl⟩ : ∃ j : Nat, j < m ∧ x1 = nI j := ⟨x1.toInt.toNat, by omega, by rw [i32eq, nIt (by omega)]; omega⟩
        rw [if_neg (show ¬ nI j < 0 from nI_pos (by omega)), if_neg g1]
        have ej : (nI j).toInt.toNat = j := by rw [nIt (by omega)]; omega
        rw [ej]
        rcases m_same hM hW (m := j) (o := m) (by omega) (by omega) with ⟨g, e1⟩ | ⟨g, e1⟩
        · rw [e1, Option.bind_some, if_neg z1, if_pos (Or.inr g)]
          exact go (nI j) (by rw [nIt (by omega)]; omega) (if_pos (nI_pos' (by omega))) (fun z => absurd z g1)
        · rw [e1, Option.bind_some, if_pos rfl, if_neg (fun z => by rcases z with z | z; exact g1 z; exact g z)]
          unfold fCM_mostSpecial_b117
          rw [m_b118 hW hM _ _ x2 (by omega) (by omega) 0]
          have hq1 : q ≠ 0 := fun z => g1 (h0.mpr z)
          refine ⟨-1, m_most_bad hW hM h17 h18 r (m + 1) f _ _ _ (q + 1) (by omega) (by omega) ?_ (by omega) (by omega), tI_m1⟩
          by_cases hab : AB d m
          · rw [if_pos hab]; omega
          · rw [if_neg hab]; omega
    · rw [hin.1 hmo, if_neg hmo]
      exact ih (m + 1) f x1 x2 cs q (by omega) (by omega) hcs (by omega) (by omega) h0 h1
end CHM2
