def pnI (T : Nat) (z : Int) : Prop := (0 ≤ z ∧ z ≤ 10) ∨ toI T z
/-- the class's rows of bits say what IS what -/
def XB (σ : xSt) (T : Nat) (R : Nat → Nat → Prop) : Prop := ∀ s t : Nat, (s ≤ 10 ∨ (16 ≤ s ∧ s < 16 + T)) → (t ≤ 10 ∨ (16 ≤ t ∧ t < 40)) → (b64 (σ.2 6 s) t = true ↔ isP R T (s : Int) (t : Int))
theorem x_b104 {σ : xSt} {T : Nat} {R : Nat → Nat → Prop} (hXB : XB σ T R) (hT2 : T ≤ 24) (x y : Int32) (hx : pnI T x.toInt) (hy : pnI T y.toInt) : isB (fC1_isA_b104 σ x y) (isP R T x.toInt y.toInt) := by
  unfold pnI toI at hx hy
  unfold fC1_isA_b104
  rw [if_neg (by rw [i32lt, tI_0]; omega), if_neg (by rw [i32le, tI_40]; omega), if_neg (by rw [i32lt, tI_0]; omega), if_neg (by rw [i32le, tI_40]; omega), if_neg (by rw [i32cl, i32lt, tI_0]; omega)]
  have key := hXB x.toInt.toNat y.toInt.toNat (by omega) (by omega)
  have e1 : ((x.toInt.toNat : Nat) : Int) = x.toInt := by omega
  have e2 : ((y.toInt.toNat : Nat) : Int) = y.toInt := by omega
  rw [e1, e2] at key
  have hb := xbit (σ.2 6 x.toInt.toNat) y (by omega) (by omega)
  rw [i32cl]
  refine isB_ite (fun c => isB_0 (fun h => ?_)) (fun c => isB_1 ?_)
  · rw [hb] at c; rw [key.mpr h] at c; cases c
  · rw [hb] at c
    exact key.mp (by cases h : b64 (σ.2 6 x.toInt.toNat) y.toInt.toNat with | true => rfl | false => exact absurd h c)
theorem x_isA {σ : xSt} {T : Nat} {R : Nat → Nat → Prop} (hXB : XB σ T R) (hT2 : T ≤ 24) (x y : Int32) (hx : tyI T x.toInt) (hy : tyI T y.toInt) : isB (fC1_isA σ x y) (isI R T x.toInt y.toInt) := by
  unfold tyI plI toI at hx hy
  unfold fC1_isA
  by_cases e : x.toInt = y.toInt
  · rw [if_pos (i32eq.mpr e)]
    exact isB_1 (Or.inl e)
  rw [if_neg (fun h => e (i32eq.mp h))]
  have z0 : ¬ (0 : Int32) = 1 := by decide
  have z1 : ¬ (1 : Int32) = 0 := by decide
  by_cases h1 : x.toInt < 64
  · rw [if_pos (by rw [i32lt, tI_64]; exact h1)]
    unfold fC1_isA_b18
    by_cases h2 : y.toInt < 64
    · rw [if_pos (by rw [i32lt, tI_64]; exact h2)]
      unfold fC1_isA_b31
      rw [if_pos rfl, if_pos rfl]
      unfold fC1_isA_b76
      rw [if_pos rfl]
      unfold fC1_isA_b90
      rw [if_pos rfl]
      refine isB_iff (x_b104 hXB hT2 x y (by unfold pnI toI; omega) (by unfold pnI toI; omega)) ?_
      unfold isI
      constructor
      · intro h; exact Or.inr (Or.inr (Or.inr (Or.inr ⟨by omega, by omega, h⟩)))
      · rintro (h | ⟨h, -⟩ | ⟨h, -⟩ | ⟨-, h, -⟩ | ⟨-, -, h⟩)
        · exact absurd h e
        · omega
        · omega
        · omega
        · exact h
    · rw [if_neg (by rw [i32lt, tI_64]; exact h2)]
      unfold fC1_isA_b31
      rw [if_neg z0, if_pos rfl]
      refine isB_ite (fun c => isB_1 ?_) (fun c => isB_0 ?_)
      · rw [i32eq, tI_10] at c
        exact Or.inr (Or.inr (Or.inr (Or.inl ⟨by omega, by omega, c⟩)))
      · rw [i32eq, tI_10] at c
        unfold isI
        rintro (h | ⟨h, -⟩ | ⟨h, -⟩ | ⟨-, h, h3⟩ | ⟨-, h, -⟩) <;> omega
  · rw [if_neg (by rw [i32lt, tI_64]; exact h1)]
    unfold fC1_isA_b18
    by_cases h2 : y.toInt < 64
    · rw [if_pos (by rw [i32lt, tI_64]; exact h2)]
      unfold fC1_isA_b31
      rw [if_neg z1, if_neg z1]
      refine isB_ite (fun c => isB_1 ?_) (fun c => isB_0 ?_)
      · rw [i32eq, tI_8] at c
        exact Or.inr (Or.inr (Or.inl ⟨by omega, by omega, c⟩))
      · rw [i32eq, tI_8] at c
        unfold isI
        rintro (h | ⟨_, h, -⟩ | ⟨h, _, h3⟩ | ⟨h, -⟩ | ⟨h, -⟩) <;> omega
    · rw [if_neg (by rw [i32lt, tI_64]; exact h2)]
      unfold fC1_isA_b31
      rw [if_pos rfl, if_neg z1]
      unfold fC1_isA_b76
      rw [if_neg z1]
      unfold fC1_isA_b90
      rw [if_neg z1]
      have u1 : (x - (64 : Int32)).toInt = x.toInt - 64 := sb64 (by omega)
      have u2 : (y - (64 : Int32)).toInt = y.toInt - 64 := sb64 (by omega)
      refine isB_ite (fun c => ?_) (fun c => isB_0 ?_)
      · rw [i32lt, u1, tI_3] at c
        refine isB_iff (x_b104 hXB hT2 _ _ (by rw [u1]; unfold pnI toI; omega) (by rw [u2]; unfold pnI toI; omega)) ?_
        rw [u1, u2]
        unfold isI
        constructor
        · intro h; exact Or.inr (Or.inl ⟨by omega, by omega, by omega, h⟩)
        · rintro (h | ⟨-, -, -, h⟩ | ⟨_, h, -⟩ | ⟨h, -⟩ | ⟨h, -⟩)
          · exact absurd h e
          · exact h
          · omega
          · omega
          · omega
      · rw [i32lt, u1, tI_3] at c
        unfold isI
        rintro (h | ⟨-, -, h, -⟩ | ⟨_, h, -⟩ | ⟨h, -⟩ | ⟨h, -⟩) <;> omega
set_option maxHeartbeats 2000000 in
theorem x_accepts_b35 {σ : xSt} {T : Nat} {R : Nat → Nat → Prop} (hXB : XB σ T R) (hT2 : T ≤ 24) (x y z w : Int32) (hx : tyI T x.toInt) (hy : tyI T y.toInt) (hw : tyI T w.toInt) : isB (fC1_accepts_b35 σ x y z w) (isI R T x.toInt y.toInt ∨ (¬ z.toInt = 0 ∧ isI R T w.toInt y.toInt)) := by
  unfold fC1_accepts_b35
  repeat' (first
    | refine isB_ite (fun _ => ?_) (fun _ => ?_)
    | refine isB_bind (x_isA hXB hT2 _ _ hx hy) (fun _ => ?_) (fun _ => ?_)
    | refine isB_bind (x_isA hXB hT2 _ _ hw hy) (fun _ => ?_) (fun _ => ?_)
    | apply isB_1
    | apply isB_0)
  all_goals (try simp only [i32eq, i32lt, i32le, tI_m7, tI_m6, tI_m5, tI_m4, tI_m3, tI_m2, tI_m1, tI_0, tI_1, tI_2, tI_3, tI_4, tI_5, tI_6, tI_7, tI_8, tI_9, tI_10, tI_11, tI_12, tI_13, tI_14, tI_15, tI_16, tI_17, tI_18, tI_19, tI_20, tI_21, tI_22, tI_23, tI_24, tI_25, tI_26, tI_27, tI_28, tI_29, tI_30, tI_31, tI_32, tI_33, tI_34, tI_35, tI_36, tI_37, tI_38, tI_39, tI_40, tI_60, tI_61, tI_63, tI_64, tI_96, tI_240, tI_244, tI_576, tI_3600] at *)
  all_goals (try simp (disch := omega) only [sb64, sb16, sb4, sb1, ad4, ad1, nIt] at *)
  all_goals (first | omega | grind)
set_option maxHeartbeats 2000000 in
theorem x_accepts {σ : xSt} {T : Nat} {R : Nat → Nat → Prop} (hXB : XB σ T R) (hT2 : T ≤ 24) (x y z : Int32) (hx : tyI T x.toInt) (hy : tyI T y.toInt) (hz : z.toInt = 0 ∨ z.toInt = 1) : isB (fC1_accepts σ x y z) (if z.toInt = 0 then isI R T x.toInt y.toInt else fiI R T x.toInt y.toInt) := by
  unfold fC1_accepts nm
  have u0 : 0 ≤ x.toInt := by unfold tyI plI toI at hx; omega
  have u1 : x.toInt < 1000 := by unfold tyI plI toI at hx; omega
  have u2 : (x - (4 : Int32)).toInt = x.toInt - 4 := sb4 u0
  have u3 : (x + (4 : Int32)).toInt = x.toInt + 4 := ad4 (by omega)
  repeat' (first
    | refine isB_iff (x_accepts_b35 hXB hT2 x y z x hx hy hx) ?_
    | refine isB_iff (x_accepts_b35 hXB hT2 x y z (x - (4 : Int32)) hx hy (by simp only [i32eq, i32lt, i32le, tI_m7, tI_m6, tI_m5, tI_m4, tI_m3, tI_m2, tI_m1, tI_0, tI_1, tI_2, tI_3, tI_4, tI_5, tI_6, tI_7, tI_8, tI_9, tI_10, tI_11, tI_12, tI_13, tI_14, tI_15, tI_16, tI_17, tI_18, tI_19, tI_20, tI_21, tI_22, tI_23, tI_24, tI_25, tI_26, tI_27, tI_28, tI_29, tI_30, tI_31, tI_32, tI_33, tI_34, tI_35, tI_36, tI_37, tI_38, tI_39, tI_40, tI_60, tI_61, tI_63, tI_64, tI_96, tI_240, tI_244, tI_576, tI_3600] at *; rw [u2]; unfold tyI plI toI; omega)) ?_
    | refine isB_iff (x_accepts_b35 hXB hT2 x y z (x + (4 : Int32)) hx hy (by simp only [i32eq, i32lt, i32le, tI_m7, tI_m6, tI_m5, tI_m4, tI_m3, tI_m2, tI_m1, tI_0, tI_1, tI_2, tI_3, tI_4, tI_5, tI_6, tI_7, tI_8, tI_9, tI_10, tI_11, tI_12, tI_13, tI_14, tI_15, tI_16, tI_17, tI_18, tI_19, tI_20, tI_21, tI_22, tI_23, tI_24, tI_25, tI_26, tI_27, tI_28, tI_29, tI_30, tI_31, tI_32, tI_33, tI_34, tI_35, tI_36, tI_37, tI_38, tI_39, tI_40, tI_60, tI_61, tI_63, tI_64, tI_96, tI_240, tI_244, tI_576, tI_3600] at *; rw [u3]; unfold tyI plI toI; omega)) ?_
    | refine isB_ite (fun _ => ?_) (fun _ => ?_)
    | refine isB_bind (x_isPrimitive _) (fun _ => ?_) (fun _ => ?_)
    | apply isB_1
    | apply isB_0)
  all_goals (try simp only [i32eq, i32lt, i32le, tI_m7, tI_m6, tI_m5, tI_m4, tI_m3, tI_m2, tI_m1, tI_0, tI_1, tI_2, tI_3, tI_4, tI_5, tI_6, tI_7, tI_8, tI_9, tI_10, tI_11, tI_12, tI_13, tI_14, tI_15, tI_16, tI_17, tI_18, tI_19, tI_20, tI_21, tI_22, tI_23, tI_24, tI_25, tI_26, tI_27, tI_28, tI_29, tI_30, tI_31, tI_32, tI_33, tI_34, tI_35, tI_36, tI_37, tI_38, tI_39, tI_40, tI_60, tI_61, tI_63, tI_64, tI_96, tI_240, tI_244, tI_576, tI_3600, fiI] at *)
  all_goals (try simp (disch := omega) only [sb64, sb16, sb4, sb1, ad4, ad1, nIt] at *)
  all_goals (first | omega | grind)
