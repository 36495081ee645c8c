def b32 (w : Int32) (u : Nat) : Bool := w.toBitVec.getLsbD u
/-- told edges: the parent, and the faces that a type was put below -/
def ED (p : Nat → Int) (c : Nat → Nat) (g : Nat → Nat → Nat) (k j : Nat) : Prop := p k = ((16 + j : Nat) : Int) ∨ ∃ i, i < c k ∧ g k i = j
/-- R is the least reflexive and transitive relation with the edges E, among T -/
def CL (T : Nat) (E R : Nat → Nat → Prop) : Prop := (∀ k, k < T → R k k) ∧ (∀ i j k, i < T → j < T → k < T → R i j → R j k → R i k) ∧ (∀ k j, k < T → j < T → E k j → R k j) ∧ ∀ Q : Nat → Nat → Prop, (∀ k, k < T → Q k k) → (∀ i j k, i < T → j < T → k < T → Q i j → Q j k → Q i k) → (∀ k j, k < T → j < T → E k j → Q k j) → ∀ k j, k < T → j < T → R k j → Q k j
def EM (τ : xSt) (T : Nat) (p : Nat → Int) (c : Nat → Nat) (g : Nat → Nat → Nat) : Prop := ∀ k, k < T → (τ.1 2 k).toInt = p k ∧ p k < 16 + T ∧ τ.1 3 k = nI (c k) ∧ c k ≤ 4 ∧ ∀ i, i < c k → τ.1 4 (4 * k + i) = nI (16 + g k i) ∧ g k i < T
def EX (σ : xSt) (T : Nat) (c : Nat → Nat) (g : Nat → Nat → Nat) : Prop := ∀ k, k < T → (∀ u, u < 32 → (b32 (σ.1 7 k) u = true ↔ ∃ i, i < c k ∧ g k i = u)) ∧ cntP (fun u => ∃ i, i < c k ∧ g k i = u) 24 = c k
/-- all but the latest choice -/
def RB (σ τ : xSt) (T n a : Nat) (d : MD) (fc : Nat → Prop) (R : Nat → Nat → Prop) (e : AD) (p : Nat → Int) (c : Nat → Nat) (g : Nat → Nat → Nat) : Prop := (WD T n d ∧ MX σ n d ∧ TX σ T fc R ∧ AX σ a e ∧ WA T a e) ∧ (MM τ n d ∧ TM τ T fc R ∧ AM τ a e) ∧ ((σ.1 2 8 = 1 ∧ FS σ d R T n fc) ∨ σ.1 2 8 = 0) ∧ (∀ j, T ≤ j → j < 24 → σ.1 15 j = -1 ∧ σ.1 7 j = 0) ∧ FM τ d R T n fc ∧ EM τ T p c g ∧ EX σ T c g ∧ CL T (ED p c g) R
def Rel (σ τ : xSt) : Prop := ∃ (T n a : Nat) (d : MD) (fc : Nat → Prop) (R : Nat → Nat → Prop) (e : AD) (p : Nat → Int) (c : Nat → Nat) (g : Nat → Nat → Nat) (ph : Nat) (A : Nat → Prop) (S : Nat → Nat → Prop), RB σ τ T n a d fc R e p c g ∧ LX σ ph A S ∧ LM τ ph A S
theorem isB2 {o1 o2 : Option Int32} {P : Prop} (h1 : isB o1 P) (h2 : isB o2 P) : (P ∧ o1 = some 1 ∧ o2 = some 1) ∨ (¬ P ∧ o1 = some 0 ∧ o2 = some 0) := by
  rcases h1 with ⟨a, b⟩ | ⟨a, b⟩ <;> rcases h2 with ⟨c, d⟩ | ⟨c, d⟩
  · exact Or.inl ⟨a, b, d⟩
  · exact absurd a c
  · exact absurd c a
  · exact Or.inr ⟨a, b, d⟩
theorem z10 : ¬ (1 : Int32) = 0 := by decide
theorem EM_of {τ τ' : xSt} {T : Nat} {p : Nat → Int} {c : Nat → Nat} {g : Nat → Nat → Nat} (h2 : τ'.1 2 = τ.1 2) (h3 : τ'.1 3 = τ.1 3) (h4 : τ'.1 4 = τ.1 4) (h : EM τ T p c g) : EM τ' T p c g := by
  unfold EM
  rw [h2, h3, h4]
  exact h
theorem EX_of {σ σ' : xSt} {T : Nat} {c : Nat → Nat} {g : Nat → Nat → Nat} (h : σ'.1 7 = σ.1 7) (hE : EX σ T c g) : EX σ' T c g := by
  unfold EX
  rw [h]
  exact hE
theorem LX_of {σ σ' : xSt} {ph : Nat} {A : Nat → Prop} {S : Nat → Nat → Prop} (h4 : σ'.1 4 = σ.1 4) (h22 : σ'.1 22 = σ.1 22) (h2 : σ'.2 = σ.2) (h : LX σ ph A S) : LX σ' ph A S := by
  unfold LX
  rw [h4, h22, h2]
  exact h
theorem LM_of {τ τ' : xSt} {ph : Nat} {A : Nat → Prop} {S : Nat → Nat → Prop} (h0 : τ'.1 0 19 = τ.1 0 19) (h17 : τ'.1 17 = τ.1 17) (h18 : τ'.1 18 = τ.1 18) (h : LM τ ph A S) : LM τ' ph A S := by
  unfold LM
  rw [h0, h17, h18]
  exact h
theorem FS_of {σ σ' : xSt} {d : MD} {R : Nat → Nat → Prop} {T n : Nat} {fc : Nat → Prop} (h : σ'.1 15 = σ.1 15) (hF : FS σ d R T n fc) : FS σ' d R T n fc := by
  unfold FS
  rw [h]
  exact hF
theorem FM_of {τ τ' : xSt} {d : MD} {R : Nat → Nat → Prop} {T n : Nat} {fc : Nat → Prop} (h : τ'.1 19 = τ.1 19) (hF : FM τ d R T n fc) : FM τ' d R T n fc := by
  unfold FM
  rw [h]
  exact hF
theorem rel_is : rl_is Rel := by
  intro σ τ x y ⟨T, n, a, d, fc, R, e, p, c, g, ph, A, S, hB, hX, hM⟩
  obtain ⟨⟨hW, hMX, hTX, hAX, hWA⟩, ⟨hMM, hTM, hAM⟩, hs, hj, hF, hEM, hEX, hC⟩ := hB
  unfold fC0_is fCM_is
  rcases isB2 (x_isType hTX.1 hTX.2.1 x) (m_isType hTM.1 hTM.2.1 x) with ⟨h1, e1, e2⟩ | ⟨h1, e1, e2⟩
  · rw [e1, e2, Option.bind_some, Option.bind_some, if_neg z10, if_neg z10]
    rcases isB2 (x_isType hTX.1 hTX.2.1 y) (m_isType hTM.1 hTM.2.1 y) with ⟨h2, e3, e4⟩ | ⟨h2, e3, e4⟩
    · rw [e3, e4, Option.bind_some, Option.bind_some, if_neg z10, if_neg z10]
      have k1 := x_accepts hTX.2.2.2 hTX.2.1 x y 0 h1 h2 (Or.inl tI_0)
      have k2 := m_isIt hTM.1 hTM.2.1 x y (ty_0 h1) (ty_0 h2)
      rw [hTM.2.2.2] at k2
      rw [if_pos tI_0] at k1
      rcases isB2 k1 k2 with ⟨_, e5, e6⟩ | ⟨_, e5, e6⟩
      · rw [e5, e6]; exact ⟨1, rfl, rfl⟩
      · rw [e5, e6]; exact ⟨0, rfl, rfl⟩
    · rw [e3, e4]; exact ⟨-2, rfl, rfl⟩
  · rw [e1, e2]; exact ⟨-2, rfl, rfl⟩
theorem rel_fits : rl_fits Rel := by
  intro σ τ x y ⟨T, n, a, d, fc, R, e, p, c, g, ph, A, S, hB, hX, hM⟩
  obtain ⟨⟨hW, hMX, hTX, hAX, hWA⟩, ⟨hMM, hTM, hAM⟩, hs, hj, hF, hEM, hEX, hC⟩ := hB
  unfold fC0_fits fCM_fits
  rcases isB2 (x_isType hTX.1 hTX.2.1 x) (m_isType hTM.1 hTM.2.1 x) with ⟨h1, e1, e2⟩ | ⟨h1, e1, e2⟩
  · rw [e1, e2, Option.bind_some, Option.bind_some, if_neg z10, if_neg z10]
    rcases isB2 (x_isType hTX.1 hTX.2.1 y) (m_isType hTM.1 hTM.2.1 y) with ⟨h2, e3, e4⟩ | ⟨h2, e3, e4⟩
    · rw [e3, e4, Option.bind_some, Option.bind_some, if_neg z10, if_neg z10]
      have k1 := x_accepts hTX.2.2.2 hTX.2.1 x y 1 h1 h2 (Or.inr tI_1)
      have k2 := m_fitsIt hTM.1 hTM.2.1 x y (ty_0 h1) (ty_0 h2)
      rw [hTM.2.2.2] at k2
      rw [if_neg (by decide)] at k1
      rcases isB2 k1 k2 with ⟨_, e5, e6⟩ | ⟨_, e5, e6⟩
      · rw [e5, e6]; exact ⟨1, rfl, rfl⟩
      · rw [e5, e6]; exact ⟨0, rfl, rfl⟩
    · rw [e3, e4]; exact ⟨-2, rfl, rfl⟩
  · rw [e1, e2]; exact ⟨-2, rfl, rfl⟩
theorem rel_phase : rl_phase Rel := by
  intro σ τ ⟨T, n, a, d, fc, R, e, p, c, g, ph, A, S, hB, hX, hM⟩
  refine ⟨nI ph, ?_, ?_⟩
  · show some (σ.1 4 9) = _
    rw [hX.1]
  · show some (τ.1 0 19) = _
    rw [hM.1]
theorem rel_count : rl_count Rel := by
  intro σ τ x ⟨T, n, a, d, fc, R, e, p, c, g, ph, A, S, hB, hX, hM⟩
  obtain ⟨⟨hW, hMX, hTX, hAX, hWA⟩, ⟨hMM, hTM, hAM⟩, hs, hj, hF, hEM, hEX, hC⟩ := hB
  unfold fC0_count fCM_count
  by_cases h0 : x = 0
  · rw [if_pos h0, if_pos h0]
    refine ⟨nI T, ?_, ?_⟩
    · show some (σ.1 1 3) = _
      rw [hTX.1]
    · rw [hTM.1]
  · rw [if_neg h0, if_neg h0]
    by_cases h1 : x = 1
    · rw [if_pos h1, if_pos h1]
      refine ⟨nI n, ?_, ?_⟩
      · show some (σ.1 2 9) = _
        rw [hMX.1]
      · rw [hMM.1]
    · rw [if_neg h1, if_neg h1]
      by_cases h2 : x = 2
      · rw [if_pos h2, if_pos h2]
        refine ⟨nI a, ?_, ?_⟩
        · show some (σ.1 3 5) = _
          rw [hAX.1]
        · rw [hAM.1]
      · rw [if_neg h2, if_neg h2]; exact ⟨-2, rfl, rfl⟩
theorem m_applied_loop {τ : xSt} {ph : Nat} {A : Nat → Prop} {S : Nat → Nat → Prop} (hM : LM τ ph A S) {w : Int32} : ∀ (r m f : Nat), m + r = 60 → r < f → (∀ k, k < m → A k → (cntP A k : Int) ≠ w.toInt) → ∃ v : Int32, fCM_applied_b4 τ f w (nI (cntP A m)) (nI m) = some v ∧ NT A 60 w.toInt v.toInt := by
  intro r
  induction r with
  | zero =>
    intro m f hm hf hno
    obtain ⟨f, rfl⟩ : ∃ z, f = z + 1 := ⟨f - 1, by omega⟩
    have e : m = 60 := by omega
    subst e
    rw [fCM_applied_b4, if_pos (by decide)]
    exact ⟨-1, rfl, Or.inr ⟨tI_m1, hno⟩⟩
  | succ r ih =>
    intro m f hm hf hno
    obtain ⟨f, rfl⟩ : ∃ z, f = z + 1 := ⟨f - 1, by omega⟩
    have hc := cnt_le (P := A) m
    rw [fCM_applied_b4, if_neg (by rw [i32le, tI_60, nIt (by omega)]; omega), ifin (by omega) (by omega), clN (by omega)]
    unfold fCM_applied_b29
    rw [sc1, sc1]
    rcases hM.2.1 m (by omega) with ⟨q1, q2⟩ | ⟨q1, q2⟩
    · rw [if_neg (by rw [q1]; exact z10)]
      by_cases hw : nI (cntP A m) = w
      · rw [if_pos hw]
        exact ⟨nI m, rfl, Or.inl ⟨m, by omega, q2, by rw [← hw, nIt (by omega)], by rw [nIt (by omega)]⟩⟩
      · rw [if_neg hw]
        have h := ih (m + 1) f (by omega) (by omega) (fun k hk hpk => by
          rcases Nat.lt_or_ge k m with q | q
          · exact hno k q hpk
          · have : k = m := by omega
            subst this
            intro z9
            exact hw (by rw [i32eq, nIt (by omega)]; exact z9))
        rw [cnt_y q2] at h
        exact h
    · rw [if_pos q1]
      have h := ih (m + 1) f (by omega) (by omega) (fun k hk hpk => by
        rcases Nat.lt_or_ge k m with q | q
        · exact hno k q hpk
        · have : k = m := by omega
          subst this; exact absurd hpk q2)
      rw [cnt_n q2] at h
      exact h
theorem rel_applied : rl_applied Rel := by
  intro σ τ x ⟨T, n, a, d, fc, R, e, p, c, g, ph, A, S, hB, hX, hM⟩
  obtain ⟨v, v1, v2⟩ := row_NT (n := 60) (P := A) (row := σ.1 22) (by omega) (fun k _ hk => hX.2.2.2.1 k hk) x
  obtain ⟨w, w1, w2⟩ := m_applied_loop hM (w := x) 60 0 gF (by omega) (by unfold gF; omega) (fun k hk => by omega)
  have e : v = w := i32eq.mpr (NT_fun v2 w2)
  subst e
  refine ⟨v, ?_, w1⟩
  unfold fC0_applied fC4_applyingAt
  rw [hX.2.1, v1, Option.bind_some]
theorem x_didApply {σ : xSt} {ph : Nat} {A : Nat → Prop} {S : Nat → Nat → Prop} (hX : LX σ ph A S) (x : Int32) : isB (fC4_didApply σ x) (0 ≤ x.toInt ∧ x.toInt < 60 ∧ A x.toInt.toNat) := by
  unfold fC4_didApply
  refine isB_ite (fun h => isB_0 (fun q => ?_)) (fun h => isB_ite (fun h2 => isB_0 (fun q => ?_)) (fun h2 => ?_))
  · rw [i32lt, tI_0] at h; omega
  · rw [i32le, tI_60] at h2; omega
  · rw [i32lt, tI_0] at h
    rw [i32le, tI_60] at h2
    have hb := xbit (σ.2 4 8) x (by omega) (by omega)
    have ha := hX.2.2.2.2.1 x.toInt.toNat (by omega)
    refine isB_ite (fun c => isB_0 (fun q => ?_)) (fun c => isB_1 ⟨by omega, by omega, ?_⟩)
    · rw [hb] at c
      rw [ha.mpr q.2.2] at c; cases c
    · rw [hb] at c
      exact ha.mp (ts_nf c)
theorem m_special_y {τ : xSt} {ph : Nat} {A : Nat → Prop} {S : Nat → Nat → Prop} (hM : LM τ ph A S) {k o : Nat} (hk : k < 60) (ho : o < 60) (h3 : A k) (g3 : A o) : fCM_special τ (nI k) (nI o) = if τ.1 18 (60 * k + o) = 0 then some 0 else some 1 := by
  have q17 : τ.1 17 k = 1 := by
    rcases hM.2.1 k hk with q | q
    · exact q.1
    · exact absurd h3 q.2
  have q18 : τ.1 17 o = 1 := by
    rcases hM.2.1 o ho with q | q
    · exact q.1
    · exact absurd g3 q.2
  unfold fCM_special fCM_special_b42
  rw [if_neg (nI_pos (by omega)), if_neg (by rw [i32le, tI_60, nIt (by omega)]; omega), if_neg (nI_pos (by omega)), if_neg (by rw [i32le, tI_60, nIt (by omega)]; omega), ifin (by omega) (by omega), clN (by omega), if_neg (by rw [q17]; exact z10), ifin (by omega) (by omega), clN (by omega), if_neg (by rw [q18]; exact z10)]
  unfold fCM_special_b43
  rw [if_neg z10, ix60, ifin (by omega) (by omega), clN (by omega)]
theorem m_special_n {τ : xSt} {ph : Nat} {A : Nat → Prop} {S : Nat → Nat → Prop} (hM : LM τ ph A S) {x y : Int32} (h : ¬ ((0 ≤ x.toInt ∧ x.toInt < 60 ∧ A x.toInt.toNat) ∧ (0 ≤ y.toInt ∧ y.toInt < 60 ∧ A y.toInt.toNat))) : fCM_special τ x y = some (-1) := by
  have neg : fCM_special_b43 τ x y 0 = some (-1 : Int32) := by unfold fCM_special_b43; rw [if_pos rfl]
  unfold fCM_special fCM_special_b42
  rw [neg]
  by_cases k1 : x < 0
  · rw [if_pos k1]
  · rw [if_neg k1]
    by_cases k2 : (60 : Int32) ≤ x
    · rw [if_pos k2]
    · rw [if_neg k2]
      by_cases k3 : y < 0
      · rw [if_pos k3]
      · rw [if_neg k3]
        by_cases k4 : (60 : Int32) ≤ y
        · rw [if_pos k4]
        · rw [if_neg k4]
          rw [i32lt, tI_0] at k1 k3
          rw [i32le, tI_60] at k2 k4
          obtain ⟨k, hk, rfl⟩ : ∃ k : Nat, k < 60 ∧ x = nI k := ⟨x.toInt.toNat, by omega, by rw [i32eq, nIt (by omega)]; omega⟩
          obtain ⟨o, ho, rfl⟩ : ∃ k : Nat, k < 60 ∧ y = nI k := ⟨y.toInt.toNat, by omega, by rw [i32eq, nIt (by omega)]; omega⟩
          have ek : (nI k).toInt.toNat = k := by rw [nIt (by omega)]; omega
          have eo : (nI o).toInt.toNat = o := by rw [nIt (by omega)]; omega
          rw [ek, eo] at h
          rw [ifin (by omega) (by omega), clN (by omega)]
          rcases hM.2.1 k hk with ⟨q1, q2⟩ | ⟨q1, q2⟩
          · rw [if_neg (by rw [q1]; exact z10), ifin (by omega) (by omega), clN (by omega)]
            rcases hM.2.1 o ho with ⟨q3, q4⟩ | ⟨q3, q4⟩
            · exact absurd ⟨⟨by omega, by omega, q2⟩, by omega, by omega, q4⟩ h
            · rw [if_pos q3]
          · rw [if_pos q1]
theorem rel_special : rl_special Rel := by
  intro σ τ x y ⟨T, n, a, d, fc, R, e, p, c, g, ph, A, S, hB, hX, hM⟩
  unfold fC0_special fC4_compared
  rcases x_didApply hX x with ⟨⟨h1, h2, h3⟩, e1⟩ | ⟨h1, e1⟩
  · rw [e1, Option.bind_some, if_neg z10]
    rcases x_didApply hX y with ⟨⟨g1, g2, g3⟩, e2⟩ | ⟨g1, e2⟩
    · rw [e2, Option.bind_some, if_neg z10]
      obtain ⟨k, hk, rfl⟩ : ∃ k : Nat, k < 60 ∧ x = nI k := ⟨x.toInt.toNat, by omega, by rw [i32eq, nIt (by omega)]; omega⟩
      have ek : (nI k).toInt.toNat = k := by rw [nIt (by omega)]; omega
      rw [ek] at h3
      obtain ⟨o, ho, rfl⟩ : ∃ k : Nat, k < 60 ∧ y = nI k := ⟨y.toInt.toNat, by omega, by rw [i32eq, nIt (by omega)]; omega⟩
      have eo : (nI o).toInt.toNat = o := by rw [nIt (by omega)]; omega
      rw [eo] at g3
      rw [ifin (by omega) (by omega), clN (by omega), m_special_y hM hk ho h3 g3]
      have hb := xbit (σ.2 23 k) (nI o) (by omega) (by omega)
      rw [eo] at hb
      have ha := hX.2.2.2.2.2 k h3 o (by omega)
      rcases hM.2.2 k o h3 g3 with ⟨s1, s2⟩ | ⟨s1, s2⟩
      · rw [if_neg (show ¬ τ.1 18 (60 * k + o) = 0 by rw [s1]; exact z10), if_neg (by rw [hb, ha.mpr ⟨g3, s2⟩]; decide)]
        exact ⟨1, rfl, rfl⟩
      · rw [if_pos s1, if_pos (by rw [hb]; exact ts_nt (fun q => s2 (ha.mp q).2))]
        exact ⟨0, rfl, rfl⟩
    · rw [e2, Option.bind_some, if_pos rfl, m_special_n hM (fun q => g1 q.2)]
      exact ⟨-1, rfl, rfl⟩
  · rw [e1, Option.bind_some, if_pos rfl, m_special_n hM (fun q => h1 q.1)]
    exact ⟨-1, rfl, rfl⟩
