def isV (o : Option Int32) (z : Int) : Prop := ∃ w : Int32, o = some w ∧ w.toInt = z
/-- the first of those with P, if all others with P agree with it by C; -1 else -/
noncomputable def fnd (P : Nat → Prop) (C : Nat → Nat → Prop) : Nat → Nat → Int → Int
  | 0, _, v => v
  | r + 1, m, v => @ite _ (P m) (Classical.propDecidable _) (if v = -1 then fnd P C r (m + 1) m else @ite _ (C m v.toNat) (Classical.propDecidable _) (fnd P C r (m + 1) v) (-1)) (fnd P C r (m + 1) v)
def AS (d : MD) (R : Nat → Nat → Prop) (T n : Nat) (t : Int) (m : Nat) : Prop := AB d m ∧ SN d R T n t t m
def CF (d : MD) (m f : Nat) : Prop := na d m = na d f ∧ SA d m f
noncomputable def FU (d : MD) (R : Nat → Nat → Prop) (T n : Nat) (t : Int) : Int := fnd (AS d R T n t) (CF d) n 0 (-1)
theorem fnd_range {P : Nat → Prop} {C : Nat → Nat → Prop} : ∀ (r m : Nat) (v : Int), (v = -1 ∨ (0 ≤ v ∧ v < m)) → (fnd P C r m v = -1 ∨ (0 ≤ fnd P C r m v ∧ fnd P C r m v < m + r)) := by
  intro r
  induction r with
  | zero => intro m v h; unfold fnd; rcases h with h | h; exact Or.inl h; exact Or.inr (by omega)
  | succ r ih =>
    intro m v h
    unfold fnd
    have fix : ∀ w : Int, (w = -1 ∨ (0 ≤ w ∧ w < ((m + 1 : Nat) : Int))) → (fnd P C r (m + 1) w = -1 ∨ (0 ≤ fnd P C r (m + 1) w ∧ fnd P C r (m + 1) w < m + (r + 1 : Nat))) := by
      intro w hw
      rcases ih (m + 1) w hw with q | q
      · exact Or.inl q
      · exact Or.inr ⟨q.1, by omega⟩
    by_cases hp : P m
    · rw [if_pos hp]
      by_cases h1 : v = -1
      · rw [if_pos h1]; exact fix _ (Or.inr (by omega))
      · rw [if_neg h1]
        by_cases hc : C m v.toNat
        · rw [if_pos hc]; exact fix _ (Or.inr (by omega))
        · rw [if_neg hc]; exact Or.inl rfl
    · rw [if_neg hp]; exact fix _ (by omega)
theorem FU_range (d : MD) (R : Nat → Nat → Prop) (T n : Nat) (t : Int) : FU d R T n t = -1 ∨ (0 ≤ FU d R T n t ∧ FU d R T n t < n) := by
  have := fnd_range (P := AS d R T n t) (C := CF d) n 0 (-1) (Or.inl rfl)
  unfold FU
  rcases this with h | h
  · exact Or.inl h
  · exact Or.inr (by omega)
section FUN
variable {σ : xSt} {T n : Nat} {d : MD} {R : Nat → Nat → Prop}
theorem x_find_loop (hM : MX σ n d) (hW : WD T n d) (hXB : XB σ T R) (hT2 : T ≤ 24) {x : Int32} (hx : toI T x.toInt) : ∀ (e k f : Nat) (v : Int32), k + e = n → e < f → (v.toInt = -1 ∨ (0 ≤ v.toInt ∧ v.toInt < k)) → isV (fC2_findFunction_b4 σ f x v (nI k)) (fnd (AS d R T n x.toInt) (CF d) e k v.toInt) := by
  have hn := hM.2.1
  have z1 : ¬ (1 : Int32) = 0 := by decide
  intro e
  induction e with
  | zero =>
    intro k f v hk hf hv
    obtain ⟨f, rfl⟩ : ∃ z, f = z + 1 := ⟨f - 1, by omega⟩
    rw [fC2_findFunction_b4, hM.1, if_pos (by rw [leN (by omega) (by omega)]; omega)]
    exact ⟨v, rfl, rfl⟩
  | succ e ih =>
    intro k f v hk hf hv
    obtain ⟨f, rfl⟩ : ∃ z, f = z + 1 := ⟨f - 1, by omega⟩
    rw [fC2_findFunction_b4, hM.1, if_neg (by rw [leN (by omega) (by omega)]; omega)]
    unfold fC2_findFunction_b69
    rw [sc1]
    unfold fnd
    have keep := ih (k + 1) f v (by omega) (by omega) (by omega)
    rcases x_isAbstract hM hW (m := k) (by omega) with ⟨h1, e1⟩ | ⟨h1, e1⟩
    · rw [e1]
      simp only [Option.bind_some]
      rw [if_neg z1]
      rcases x_isSeen hM hW hXB hT2 (m := k) (by omega) (x := x) (y := x) hx with ⟨h2, e2⟩ | ⟨h2, e2⟩
      · rw [e2]
        simp only [Option.bind_some]
        rw [if_neg z1, if_pos (show AS d R T n x.toInt k from ⟨h1, h2⟩)]
        by_cases hv1 : v.toInt = -1
        · rw [if_pos (by rw [i32eq, tI_m1]; exact hv1), if_pos hv1]
          have := ih (k + 1) f (nI k) (by omega) (by omega) (by rw [nIt (by omega)]; omega)
          rw [nIt (n := k) (by omega)] at this
          exact this
        · rw [if_neg (by rw [i32eq, tI_m1]; exact hv1), if_neg hv1]
          obtain ⟨j, hj, rfl⟩ : ∃ j : Nat, j < k ∧ v = nI j := ⟨v.toInt.toNat, by omega, by rw [i32eq, nIt (by omega)]; omega⟩
          rw [nIt (n := j) (by omega)] at *
          have hj2 : ((j : Int)).toNat = j := by omega
          rw [hj2, ifin (by omega) (by omega), ifin (by omega) (by omega), clN (by omega), clN (by omega), (hM.2.2 k (by omega)).2.1, (hM.2.2 j (by omega)).2.1]
          have wk := (hW k (by omega)).2.1
          have wj := (hW j (by omega)).2.1
          by_cases hna : na d k = na d j
          · rw [if_pos (by rw [hna])]
            rcases x_same hM hW (m := k) (o := j) (by omega) (by omega) with ⟨h3, e3⟩ | ⟨h3, e3⟩
            · rw [e3]
              simp only [Option.bind_some]
              rw [if_neg z1, if_pos (show CF d k j from ⟨hna, h3⟩)]
              exact keep
            · rw [e3]
              simp only [Option.bind_some]
              rw [if_pos trivial, if_neg (show ¬ CF d k j from fun h => h3 h.2)]
              exact ⟨-1, rfl, tI_m1⟩
          · rw [if_neg (by rw [eqN (by omega) (by omega)]; exact hna), if_neg (show ¬ CF d k j from fun h => hna h.1)]
            exact ⟨-1, rfl, tI_m1⟩
      · rw [e2]
        simp only [Option.bind_some]
        rw [if_pos trivial, if_neg (show ¬ AS d R T n x.toInt k from fun h => h2 h.2)]
        exact keep
    · rw [e1]
      simp only [Option.bind_some]
      rw [if_pos trivial, if_neg (show ¬ AS d R T n x.toInt k from fun h => h1 h.1)]
      exact keep
theorem x_find (hM : MX σ n d) (hW : WD T n d) (hXB : XB σ T R) (hT2 : T ≤ 24) {x : Int32} (hx : toI T x.toInt) : isV (fC2_findFunction σ x) (FU d R T n x.toInt) := by
  have hn := hM.2.1
  unfold fC2_findFunction FU
  have := x_find_loop hM hW hXB hT2 hx n 0 gF (-1) (by omega) (by unfold gF; omega) (Or.inl tI_m1)
  rw [tI_m1] at this
  exact this
theorem m_find_loop (hM : MM σ n d) (hW : WD T n d) (hT : σ.1 0 0 = nI T) (hT2 : T ≤ 24) {x : Int32} (hx : toI T x.toInt) : ∀ (e k f : Nat) (v : Int32), k + e = n → e < f → (v.toInt = -1 ∨ (0 ≤ v.toInt ∧ v.toInt < k)) → isV (fCM_findFunction_b4 σ f x v (nI k)) (fnd (AS d (Rm σ) T n x.toInt) (CF d) e k v.toInt) := by
  have hn := hM.2.1
  have z1 : ¬ (1 : Int32) = 0 := by decide
  intro e
  induction e with
  | zero =>
    intro k f v hk hf hv
    obtain ⟨f, rfl⟩ : ∃ z, f = z + 1 := ⟨f - 1, by omega⟩
    rw [fCM_findFunction_b4, hM.1, if_pos (by rw [leN (by omega) (by omega)]; omega)]
    exact ⟨v, rfl, rfl⟩
  | succ e ih =>
    intro k f v hk hf hv
    obtain ⟨f, rfl⟩ : ∃ z, f = z + 1 := ⟨f - 1, by omega⟩
    rw [fCM_findFunction_b4, hM.1, if_neg (by rw [leN (by omega) (by omega)]; omega)]
    unfold fCM_findFunction_b61 fCM_findFunction_b70 fCM_findFunction_b71
    rw [sc1]
    unfold fnd
    have keep := ih (k + 1) f v (by omega) (by omega) (by omega)
    rcases m_has4 hM hW (m := k) (by omega) with ⟨h1, e1⟩ | ⟨h1, e1⟩
    · rw [e1]
      simp only [Option.bind_some]
      rw [if_neg z1]
      rcases m_isSeen hM hW hT hT2 (m := k) (by omega) (x := x) (y := x) hx with ⟨h2, e2⟩ | ⟨h2, e2⟩
      · rw [e2]
        simp only [Option.bind_some]
        rw [if_neg z1, if_pos (show AS d (Rm σ) T n x.toInt k from ⟨h1, h2⟩)]
        by_cases hv1 : v.toInt = -1
        · rw [if_pos (show v < 0 by rw [i32lt, tI_0]; omega), if_neg (show ¬ 0 ≤ v by rw [i32le, tI_0]; omega), if_pos hv1]
          have := ih (k + 1) f (nI k) (by omega) (by omega) (by rw [nIt (by omega)]; omega)
          rw [nIt (n := k) (by omega)] at this
          exact this
        · rw [if_neg (show ¬ v < 0 by rw [i32lt, tI_0]; omega), if_pos (show 0 ≤ v by rw [i32le, tI_0]; omega), if_neg hv1]
          obtain ⟨j, hj, rfl⟩ : ∃ j : Nat, j < k ∧ v = nI j := ⟨v.toInt.toNat, by omega, by rw [i32eq, nIt (by omega)]; omega⟩
          rw [nIt (n := j) (by omega)] at *
          have hj2 : ((j : Int)).toNat = j := by omega
          rw [hj2, ifin (by omega) (by omega), ifin (by omega) (by omega), clN (by omega), clN (by omega), (hM.2.2 k (by omega)).2.1, (hM.2.2 j (by omega)).2.1]
          have wk := (hW k (by omega)).2.1
          have wj := (hW j (by omega)).2.1
          by_cases hna : na d k = na d j
          · rw [if_pos (by rw [hna])]
            rcases m_same hM hW (m := k) (o := j) (by omega) (by omega) with ⟨h3, e3⟩ | ⟨h3, e3⟩
            · rw [e3]
              simp only [Option.bind_some]
              rw [if_neg z1, if_pos (show CF d k j from ⟨hna, h3⟩)]
              exact keep
            · rw [e3]
              simp only [Option.bind_some]
              rw [if_pos trivial, if_neg (show ¬ CF d k j from fun h => h3 h.2)]
              exact ⟨-1, rfl, tI_m1⟩
          · rw [if_neg (by rw [eqN (by omega) (by omega)]; exact hna), if_neg (show ¬ CF d k j from fun h => hna h.1)]
            exact ⟨-1, rfl, tI_m1⟩
      · rw [e2]
        simp only [Option.bind_some]
        rw [if_pos trivial, if_neg (show ¬ AS d (Rm σ) T n x.toInt k from fun h => h2 h.2)]
        exact keep
    · rw [e1]
      simp only [Option.bind_some]
      rw [if_pos trivial, if_neg (show ¬ AS d (Rm σ) T n x.toInt k from fun h => h1 h.1)]
      exact keep
theorem m_find (hM : MM σ n d) (hW : WD T n d) (hT : σ.1 0 0 = nI T) (hT2 : T ≤ 24) {x : Int32} (hx : toI T x.toInt) : isV (fCM_findFunction σ x) (FU d (Rm σ) T n x.toInt) := by
  have hn := hM.2.1
  unfold fCM_findFunction FU
  have := m_find_loop hM hW hT hT2 hx n 0 gF (-1) (by omega) (by unfold gF; omega) (Or.inl tI_m1)
  rw [tI_m1] at this
  exact this
end FUN
