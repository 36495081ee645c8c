noncomputable def cntP (P : Nat → Prop) : Nat → Nat
  | 0 => 0
  | m + 1 => cntP P m + @ite _ (P m) (Classical.propDecidable _) 1 0
theorem cnt_y {P : Nat → Prop} {m : Nat} (h : P m) : cntP P (m + 1) = cntP P m + 1 := by rw [cntP, if_pos h]
theorem cnt_n {P : Nat → Prop} {m : Nat} (h : ¬ P m) : cntP P (m + 1) = cntP P m := by rw [cntP, if_neg h]; rfl
theorem cnt_le {P : Nat → Prop} : ∀ m, cntP P m ≤ m := by
  intro m
  induction m with
  | zero => exact Nat.le_refl 0
  | succ m ih =>
    by_cases h : P m
    · rw [cnt_y h]; omega
    · rw [cnt_n h]; omega
theorem cnt_mono {P : Nat → Prop} {m : Nat} : ∀ k, cntP P m ≤ cntP P (m + k) := by
  intro k
  induction k with
  | zero => exact Nat.le_refl _
  | succ k ih =>
    have e : m + (k + 1) = (m + k) + 1 := rfl
    rw [e]
    by_cases h : P (m + k)
    · rw [cnt_y h]; omega
    · rw [cnt_n h]; exact ih
theorem cnt_lt {P : Nat → Prop} {m n : Nat} (h : P m) (hm : m < n) : cntP P m < cntP P n := by
  have := cnt_mono (P := P) (m := m + 1) (n - (m + 1))
  rw [show m + 1 + (n - (m + 1)) = n by omega, cnt_y h] at this
  omega
theorem cnt_inj {P : Nat → Prop} {m k : Nat} (h1 : P m) (h2 : P k) (e : cntP P m = cntP P k) : m = k := by
  rcases Nat.lt_trichotomy m k with q | q | q
  · have := cnt_lt h1 q; omega
  · exact q
  · have := cnt_lt h2 q; omega
theorem cnt_ex {P : Nat → Prop} : ∀ n k, k < cntP P n → ∃ m, m < n ∧ P m ∧ cntP P m = k := by
  intro n
  induction n with
  | zero => intro k h; exact absurd h (Nat.not_lt_zero k)
  | succ n ih =>
    intro k h
    by_cases hp : P n
    · rw [cnt_y hp] at h
      rcases Nat.lt_or_ge k (cntP P n) with q | q
      · obtain ⟨m, g1, g2, g3⟩ := ih k q; exact ⟨m, by omega, g2, g3⟩
      · exact ⟨n, by omega, hp, by omega⟩
    · rw [cnt_n hp] at h
      obtain ⟨m, g1, g2, g3⟩ := ih k h; exact ⟨m, by omega, g2, g3⟩
theorem cnt_congr {P Q : Nat → Prop} : ∀ n, (∀ m, m < n → (P m ↔ Q m)) → cntP P n = cntP Q n := by
  intro n
  induction n with
  | zero => intro _; rfl
  | succ n ih =>
    intro h
    have e := ih (fun m hm => h m (by omega))
    by_cases hp : P n
    · rw [cnt_y hp, cnt_y ((h n (by omega)).mp hp), e]
    · rw [cnt_n hp, cnt_n (fun q => hp ((h n (by omega)).mpr q)), e]
/-- members seen of a name -/
def PS (d : MD) (R : Nat → Nat → Prop) (T n : Nat) (t f : Int) (y : Int32) (m : Nat) : Prop := nI (na d m) = y ∧ SN d R T n t f m
section LIST
variable {T n : Nat} {d : MD} {R : Nat → Nat → Prop}
theorem x_list5_loop (hW : WD T n d) (hT2 : T ≤ 24) {x y z : Int32} (hx : toI T x.toInt) : ∀ (r m f : Nat) (σ : xSt), m + r = n → r < f → MX σ n d → XB σ T R → (∀ k, k < m → PS d R T n x.toInt z.toInt y k → σ.1 5 (cntP (PS d R T n x.toInt z.toInt y) k) = nI k) → ∃ σ', fC2_listSeen_5_b6 f σ x y z (nI (cntP (PS d R T n x.toInt z.toInt y) m)) (nI m) = some (nI (cntP (PS d R T n x.toInt z.toInt y) n), σ') ∧ (∀ k, k < n → PS d R T n x.toInt z.toInt y k → σ'.1 5 (cntP (PS d R T n x.toInt z.toInt y) k) = nI k) ∧ (∀ k, k ≠ 5 → σ'.1 k = σ.1 k) ∧ σ'.2 = σ.2 := by
  have z1 : ¬ (1 : Int32) = 0 := by decide
  generalize hP : PS d R T n x.toInt z.toInt y = P
  intro r
  induction r with
  | zero =>
    intro m f σ hm hf hM hX hr
    have hn := hM.2.1
    obtain ⟨f, rfl⟩ : ∃ z, f = z + 1 := ⟨f - 1, by omega⟩
    have e : m = n := by omega
    subst e
    rw [fC2_listSeen_5_b6, hM.1, if_pos (by rw [leN (by omega) (by omega)]; omega)]
    exact ⟨σ, rfl, hr, fun _ _ => rfl, rfl⟩
  | succ r ih =>
    intro m f σ hm hf hM hX hr
    have hn := hM.2.1
    obtain ⟨f, rfl⟩ : ∃ z, f = z + 1 := ⟨f - 1, by omega⟩
    have hc := cnt_le (P := P) m
    rw [fC2_listSeen_5_b6, hM.1, if_neg (by rw [leN (by omega) (by omega)]; omega), if_neg (by rw [i32le, tI_60, nIt (by omega)]; omega), ifin (by omega) (by omega), clN (by omega), (hM.2.2 m (by omega)).2.1]
    unfold fC2_listSeen_5_b55
    rw [sc1, sc1]
    have skip : ¬ P m → ∃ σ', fC2_listSeen_5_b6 f σ x y z (nI (cntP P m)) (nI (m + 1)) = some (nI (cntP P n), σ') ∧ (∀ k, k < n → P k → σ'.1 5 (cntP P k) = nI k) ∧ (∀ k, k ≠ 5 → σ'.1 k = σ.1 k) ∧ σ'.2 = σ.2 := by
      intro hp
      have h := ih (m + 1) f σ (by omega) (by omega) hM hX (fun k hk hpk => by
        rcases Nat.lt_or_ge k m with q | q
        · exact hr k q hpk
        · have : k = m := by omega
          subst this; exact absurd hpk hp)
      rw [cnt_n hp] at h
      exact h
    by_cases hy : nI (na d m) = y
    · rw [if_pos hy]
      rcases x_isSeen hM hW hX hT2 (m := m) (by omega) (x := x) (y := z) hx with ⟨h1, e1⟩ | ⟨h1, e1⟩
      · have hp : P m := by rw [← hP]; exact ⟨hy, h1⟩
        rw [e1, Option.bind_some, if_neg z1, ifin (by omega) (by omega), nmE, clN (by omega)]
        have h := ih (m + 1) f (sI σ 5 (cntP P m) (nI m)) (by omega) (by omega) (MX_of (by rw [sI_off (by decide)]) (fun c g1 g2 => sI_off (by omega)) hM) hX (fun k hk hpk => by
          by_cases q : k = m
          · subst q; rw [sI_on]
          · rw [sI_ne (fun z => q (cnt_inj hpk hp z.2))]; exact hr k (by omega) hpk)
        rw [cnt_y hp] at h
        obtain ⟨σ', g1, g2, g3, g4⟩ := h
        exact ⟨σ', g1, g2, fun k hk => by rw [g3 k hk, sI_off hk], g4⟩
      · rw [e1, Option.bind_some, if_pos rfl]
        exact skip (by rw [← hP]; exact fun q => h1 q.2)
    · rw [if_neg hy]
      exact skip (by rw [← hP]; exact fun q => hy q.1)
theorem x_list5 {σ : xSt} (hW : WD T n d) (hT2 : T ≤ 24) (hM : MX σ n d) (hX : XB σ T R) {x y z : Int32} (hx : toI T x.toInt) : ∃ σ', fC2_listSeen_5 σ x y z = some (nI (cntP (PS d R T n x.toInt z.toInt y) n), σ') ∧ (∀ k, k < n → PS d R T n x.toInt z.toInt y k → σ'.1 5 (cntP (PS d R T n x.toInt z.toInt y) k) = nI k) ∧ (∀ k, k ≠ 5 → σ'.1 k = σ.1 k) ∧ σ'.2 = σ.2 := by
  have hn := hM.2.1
  exact x_list5_loop hW hT2 hx n 0 gF σ (by omega) (by unfold gF; omega) hM hX (fun k hk => by omega)
theorem x_list21_loop (hW : WD T n d) (hT2 : T ≤ 24) {x y z : Int32} (hx : toI T x.toInt) : ∀ (r m f : Nat) (σ : xSt), m + r = n → r < f → MX σ n d → XB σ T R → (∀ k, k < m → PS d R T n x.toInt z.toInt y k → σ.1 21 (cntP (PS d R T n x.toInt z.toInt y) k) = nI k) → ∃ σ', fC2_listSeen_21_b6 f σ x y z (nI (cntP (PS d R T n x.toInt z.toInt y) m)) (nI m) = some (nI (cntP (PS d R T n x.toInt z.toInt y) n), σ') ∧ (∀ k, k < n → PS d R T n x.toInt z.toInt y k → σ'.1 21 (cntP (PS d R T n x.toInt z.toInt y) k) = nI k) ∧ (∀ k, k ≠ 21 → σ'.1 k = σ.1 k) ∧ σ'.2 = σ.2 := by
  have z1 : ¬ (1 : Int32) = 0 := by decide
  generalize hP : PS d R T n x.toInt z.toInt y = P
  intro r
  induction r with
  | zero =>
    intro m f σ hm hf hM hX hr
    have hn := hM.2.1
    obtain ⟨f, rfl⟩ : ∃ z, f = z + 1 := ⟨f - 1, by omega⟩
    have e : m = n := by omega
    subst e
    rw [fC2_listSeen_21_b6, hM.1, if_pos (by rw [leN (by omega) (by omega)]; omega)]
    exact ⟨σ, rfl, hr, fun _ _ => rfl, rfl⟩
  | succ r ih =>
    intro m f σ hm hf hM hX hr
    have hn := hM.2.1
    obtain ⟨f, rfl⟩ : ∃ z, f = z + 1 := ⟨f - 1, by omega⟩
    have hc := cnt_le (P := P) m
    rw [fC2_listSeen_21_b6, hM.1, if_neg (by rw [leN (by omega) (by omega)]; omega), if_neg (by rw [i32le, tI_60, nIt (by omega)]; omega), ifin (by omega) (by omega), clN (by omega), (hM.2.2 m (by omega)).2.1]
    unfold fC2_listSeen_21_b55
    rw [sc1, sc1]
    have skip : ¬ P m → ∃ σ', fC2_listSeen_21_b6 f σ x y z (nI (cntP P m)) (nI (m + 1)) = some (nI (cntP P n), σ') ∧ (∀ k, k < n → P k → σ'.1 21 (cntP P k) = nI k) ∧ (∀ k, k ≠ 21 → σ'.1 k = σ.1 k) ∧ σ'.2 = σ.2 := by
      intro hp
      have h := ih (m + 1) f σ (by omega) (by omega) hM hX (fun k hk hpk => by
        rcases Nat.lt_or_ge k m with q | q
        · exact hr k q hpk
        · have : k = m := by omega
          subst this; exact absurd hpk hp)
      rw [cnt_n hp] at h
      exact h
    by_cases hy : nI (na d m) = y
    · rw [if_pos hy]
      rcases x_isSeen hM hW hX hT2 (m := m) (by omega) (x := x) (y := z) hx with ⟨h1, e1⟩ | ⟨h1, e1⟩
      · have hp : P m := by rw [← hP]; exact ⟨hy, h1⟩
        rw [e1, Option.bind_some, if_neg z1, ifin (by omega) (by omega), nmE, clN (by omega)]
        have h := ih (m + 1) f (sI σ 21 (cntP P m) (nI m)) (by omega) (by omega) (MX_of (by rw [sI_off (by decide)]) (fun c g1 g2 => sI_off (by omega)) hM) hX (fun k hk hpk => by
          by_cases q : k = m
          · subst q; rw [sI_on]
          · rw [sI_ne (fun z => q (cnt_inj hpk hp z.2))]; exact hr k (by omega) hpk)
        rw [cnt_y hp] at h
        obtain ⟨σ', g1, g2, g3, g4⟩ := h
        exact ⟨σ', g1, g2, fun k hk => by rw [g3 k hk, sI_off hk], g4⟩
      · rw [e1, Option.bind_some, if_pos rfl]
        exact skip (by rw [← hP]; exact fun q => h1 q.2)
    · rw [if_neg hy]
      exact skip (by rw [← hP]; exact fun q => hy q.1)
theorem x_list21 {σ : xSt} (hW : WD T n d) (hT2 : T ≤ 24) (hM : MX σ n d) (hX : XB σ T R) {x y z : Int32} (hx : toI T x.toInt) : ∃ σ', fC2_listSeen_21 σ x y z = some (nI (cntP (PS d R T n x.toInt z.toInt y) n), σ') ∧ (∀ k, k < n → PS d R T n x.toInt z.toInt y k → σ'.1 21 (cntP (PS d R T n x.toInt z.toInt y) k) = nI k) ∧ (∀ k, k ≠ 21 → σ'.1 k = σ.1 k) ∧ σ'.2 = σ.2 := by
  have hn := hM.2.1
  exact x_list21_loop hW hT2 hx n 0 gF σ (by omega) (by unfold gF; omega) hM hX (fun k hk => by omega)
theorem m_seen_loop2 {τ : xSt} (hW : WD T n d) (hM : MM τ n d) (hT : τ.1 0 0 = nI T) (hT2 : T ≤ 24) {x y z : Int32} (hx : toI T x.toInt) : ∀ (r m f : Nat), m + r = n → r < f → fCM_seen_b19 τ f x y z (nI (cntP (PS d (Rm τ) T n x.toInt z.toInt y) m)) (nI m) = some (nI (cntP (PS d (Rm τ) T n x.toInt z.toInt y) n)) := by
  have z1 : ¬ (1 : Int32) = 0 := by decide
  have hn := hM.2.1
  generalize hP : PS d (Rm τ) T n x.toInt z.toInt y = P
  intro r
  induction r with
  | zero =>
    intro m f hm hf
    obtain ⟨f, rfl⟩ : ∃ z, f = z + 1 := ⟨f - 1, by omega⟩
    have e : m = n := by omega
    subst e
    rw [fCM_seen_b19, hM.1, if_pos (by rw [leN (by omega) (by omega)]; omega)]
  | succ r ih =>
    intro m f hm hf
    obtain ⟨f, rfl⟩ : ∃ z, f = z + 1 := ⟨f - 1, by omega⟩
    rw [fCM_seen_b19, hM.1, if_neg (by rw [leN (by omega) (by omega)]; omega), ifin (by omega) (by omega), clN (by omega), (hM.2.2 m (by omega)).2.1]
    unfold fCM_seen_b56 fCM_seen_b57
    have z0 : nI (cntP P m) + (0 : Int32) = nI (cntP P m) := nI_add _ 0
    have h := ih (m + 1) f (by omega) (by omega)
    rw [nmE, nmE, z0, sc1, sc1]
    by_cases hy : nI (na d m) = y
    · rw [if_pos hy]
      rcases m_isSeen hM hW hT hT2 (m := m) (by omega) (x := x) (y := z) hx with ⟨h1, e1⟩ | ⟨h1, e1⟩
      · have hp : P m := by rw [← hP]; exact ⟨hy, h1⟩
        rw [e1, Option.bind_some, if_neg z1]
        rw [cnt_y hp] at h
        exact h
      · have hp : ¬ P m := by rw [← hP]; exact fun q => h1 q.2
        rw [e1, Option.bind_some, if_pos rfl]
        rw [cnt_n hp] at h
        exact h
    · have hp : ¬ P m := by rw [← hP]; exact fun q => hy q.1
      rw [if_neg hy]
      rw [cnt_n hp] at h
      exact h
/-- the j-th with P, by numbers, or -1 -/
def NT (P : Nat → Prop) (n : Nat) (j v : Int) : Prop := (∃ m : Nat, m < n ∧ P m ∧ (cntP P m : Int) = j ∧ v = m) ∨ (v = -1 ∧ ∀ m, m < n → P m → (cntP P m : Int) ≠ j)
theorem NT_fun {P : Nat → Prop} {n : Nat} {j v w : Int} (h1 : NT P n j v) (h2 : NT P n j w) : v = w := by
  rcases h1 with ⟨m, g1, g2, g3, g4⟩ | ⟨g4, g5⟩ <;> rcases h2 with ⟨k, k1, k2, k3, k4⟩ | ⟨k4, k5⟩
  · have := cnt_inj g2 k2 (by omega); omega
  · exact absurd g3 (k5 m g1 g2)
  · exact absurd k3 (g5 k k1 k2)
  · omega
theorem m_seenAt_loop {τ : xSt} (hW : WD T n d) (hM : MM τ n d) (hT : τ.1 0 0 = nI T) (hT2 : T ≤ 24) {x y z w : Int32} (hx : toI T x.toInt) : ∀ (r m f : Nat), m + r = n → r < f → (∀ k, k < m → PS d (Rm τ) T n x.toInt z.toInt y k → (cntP (PS d (Rm τ) T n x.toInt z.toInt y) k : Int) ≠ w.toInt) → ∃ v : Int32, fCM_seenAt_b19 τ f x y z w (nI (cntP (PS d (Rm τ) T n x.toInt z.toInt y) m)) (nI m) = some v ∧ NT (PS d (Rm τ) T n x.toInt z.toInt y) n w.toInt v.toInt := by
  have z1 : ¬ (1 : Int32) = 0 := by decide
  have hn := hM.2.1
  generalize hP : PS d (Rm τ) T n x.toInt z.toInt y = P
  intro r
  induction r with
  | zero =>
    intro m f hm hf hno
    obtain ⟨f, rfl⟩ : ∃ z, f = z + 1 := ⟨f - 1, by omega⟩
    have e : m = n := by omega
    subst e
    rw [fCM_seenAt_b19, hM.1, if_pos (by rw [leN (by omega) (by omega)]; omega)]
    exact ⟨-1, rfl, Or.inr ⟨tI_m1, hno⟩⟩
  | succ r ih =>
    intro m f hm hf hno
    obtain ⟨f, rfl⟩ : ∃ z, f = z + 1 := ⟨f - 1, by omega⟩
    have hc := cnt_le (P := P) m
    rw [fCM_seenAt_b19, hM.1, if_neg (by rw [leN (by omega) (by omega)]; omega), ifin (by omega) (by omega), clN (by omega), (hM.2.2 m (by omega)).2.1]
    unfold fCM_seenAt_b63
    rw [sc1, sc1]
    have skip : ¬ P m → ∃ v : Int32, fCM_seenAt_b19 τ f x y z w (nI (cntP P m)) (nI (m + 1)) = some v ∧ NT P n w.toInt v.toInt := by
      intro hp
      have h := ih (m + 1) f (by omega) (by omega) (fun k hk hpk => by
        rcases Nat.lt_or_ge k m with q | q
        · exact hno k q hpk
        · have : k = m := by omega
          subst this; exact absurd hpk hp)
      rw [cnt_n hp] at h
      exact h
    by_cases hy : nI (na d m) = y
    · rw [if_pos hy]
      rcases m_isSeen hM hW hT hT2 (m := m) (by omega) (x := x) (y := z) hx with ⟨h1, e1⟩ | ⟨h1, e1⟩
      · have hp : P m := by rw [← hP]; exact ⟨hy, h1⟩
        rw [e1, Option.bind_some, if_neg z1]
        by_cases hw : nI (cntP P m) = w
        · rw [if_pos hw]
          exact ⟨nI m, rfl, Or.inl ⟨m, by omega, hp, by rw [← hw, nIt (by omega)], by rw [nIt (by omega)]⟩⟩
        · rw [if_neg hw]
          have h := ih (m + 1) f (by omega) (by omega) (fun k hk hpk => by
            rcases Nat.lt_or_ge k m with q | q
            · exact hno k q hpk
            · have : k = m := by omega
              subst this
              intro z9
              exact hw (by rw [i32eq, nIt (by omega)]; exact z9))
          rw [cnt_y hp] at h
          exact h
      · rw [e1, Option.bind_some, if_pos rfl]
        exact skip (by rw [← hP]; exact fun q => h1 q.2)
    · rw [if_neg hy]
      exact skip (by rw [← hP]; exact fun q => hy q.1)
/-- a row that lists those with P, read at any place -/
theorem row_NT {P : Nat → Prop} {row : Nat → Int32} (hn : n ≤ 60) (hr : ∀ k, k < n → P k → row (cntP P k) = nI k) (w : Int32) : ∃ v : Int32, (if w < 0 then some (-1 : Int32) else if nI (cntP P n) ≤ w then some (-1 : Int32) else if w < 0 ∨ 60 ≤ w.toNatClampNeg then none else some (row w.toNatClampNeg)) = some v ∧ NT P n w.toInt v.toInt := by
  have hc := cnt_le (P := P) n
  by_cases h0 : w.toInt < 0
  · rw [if_pos (by rw [i32lt, tI_0]; exact h0)]
    exact ⟨-1, rfl, Or.inr ⟨tI_m1, fun m _ _ => by omega⟩⟩
  · rw [if_neg (by rw [i32lt, tI_0]; exact h0)]
    by_cases h1 : (cntP P n : Int) ≤ w.toInt
    · rw [if_pos (by rw [i32le, nIt (by omega)]; exact h1)]
      exact ⟨-1, rfl, Or.inr ⟨tI_m1, fun m hm hp => by have := cnt_lt hp hm; omega⟩⟩
    · rw [if_neg (by rw [i32le, nIt (by omega)]; exact h1)]
      obtain ⟨j, hj, rfl⟩ : ∃ j : Nat, j < cntP P n ∧ w = nI j := ⟨w.toInt.toNat, by omega, by rw [i32eq, nIt (by omega)]; omega⟩
      rw [ifin (by omega) (by omega), clN (by omega), nIt (by omega)]
      obtain ⟨m, g1, g2, g3⟩ := cnt_ex n j hj
      refine ⟨_, rfl, Or.inl ⟨m, g1, g2, by omega, ?_⟩⟩
      rw [← g3, hr m g1 g2, nIt (by omega)]
end LIST
