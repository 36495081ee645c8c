-- numbers
theorem tI_m7 : (-7 : Int32).toInt = -7 := by decide
theorem tI_m6 : (-6 : Int32).toInt = -6 := by decide
theorem tI_m5 : (-5 : Int32).toInt = -5 := by decide
theorem tI_m4 : (-4 : Int32).toInt = -4 := by decide
theorem tI_m3 : (-3 : Int32).toInt = -3 := by decide
theorem tI_m2 : (-2 : Int32).toInt = -2 := by decide
theorem tI_m1 : (-1 : Int32).toInt = -1 := by decide
theorem tI_0 : (0 : Int32).toInt = 0 := by decide
theorem tI_1 : (1 : Int32).toInt = 1 := by decide
theorem tI_2 : (2 : Int32).toInt = 2 := by decide
theorem tI_3 : (3 : Int32).toInt = 3 := by decide
theorem tI_4 : (4 : Int32).toInt = 4 := by decide
theorem tI_5 : (5 : Int32).toInt = 5 := by decide
theorem tI_6 : (6 : Int32).toInt = 6 := by decide
theorem tI_7 : (7 : Int32).toInt = 7 := by decide
theorem tI_8 : (8 : Int32).toInt = 8 := by decide
theorem tI_9 : (9 : Int32).toInt = 9 := by decide
theorem tI_10 : (10 : Int32).toInt = 10 := by decide
theorem tI_11 : (11 : Int32).toInt = 11 := by decide
theorem tI_12 : (12 : Int32).toInt = 12 := by decide
theorem tI_13 : (13 : Int32).toInt = 13 := by decide
theorem tI_14 : (14 : Int32).toInt = 14 := by decide
theorem tI_15 : (15 : Int32).toInt = 15 := by decide
theorem tI_16 : (16 : Int32).toInt = 16 := by decide
theorem tI_17 : (17 : Int32).toInt = 17 := by decide
theorem tI_18 : (18 : Int32).toInt = 18 := by decide
theorem tI_19 : (19 : Int32).toInt = 19 := by decide
theorem tI_20 : (20 : Int32).toInt = 20 := by decide
theorem tI_21 : (21 : Int32).toInt = 21 := by decide
theorem tI_22 : (22 : Int32).toInt = 22 := by decide
theorem tI_23 : (23 : Int32).toInt = 23 := by decide
theorem tI_24 : (24 : Int32).toInt = 24 := by decide
theorem tI_25 : (25 : Int32).toInt = 25 := by decide
theorem tI_26 : (26 : Int32).toInt = 26 := by decide
theorem tI_27 : (27 : Int32).toInt = 27 := by decide
theorem tI_28 : (28 : Int32).toInt = 28 := by decide
theorem tI_29 : (29 : Int32).toInt = 29 := by decide
theorem tI_30 : (30 : Int32).toInt = 30 := by decide
theorem tI_31 : (31 : Int32).toInt = 31 := by decide
theorem tI_32 : (32 : Int32).toInt = 32 := by decide
theorem tI_33 : (33 : Int32).toInt = 33 := by decide
theorem tI_34 : (34 : Int32).toInt = 34 := by decide
theorem tI_35 : (35 : Int32).toInt = 35 := by decide
theorem tI_36 : (36 : Int32).toInt = 36 := by decide
theorem tI_37 : (37 : Int32).toInt = 37 := by decide
theorem tI_38 : (38 : Int32).toInt = 38 := by decide
theorem tI_39 : (39 : Int32).toInt = 39 := by decide
theorem tI_40 : (40 : Int32).toInt = 40 := by decide
theorem tI_60 : (60 : Int32).toInt = 60 := by decide
theorem tI_61 : (61 : Int32).toInt = 61 := by decide
theorem tI_63 : (63 : Int32).toInt = 63 := by decide
theorem tI_64 : (64 : Int32).toInt = 64 := by decide
theorem tI_96 : (96 : Int32).toInt = 96 := by decide
theorem tI_240 : (240 : Int32).toInt = 240 := by decide
theorem tI_244 : (244 : Int32).toInt = 244 := by decide
theorem tI_576 : (576 : Int32).toInt = 576 := by decide
theorem tI_3600 : (3600 : Int32).toInt = 3600 := by decide
theorem i32eq {a b : Int32} : a = b ↔ a.toInt = b.toInt := Int32.toInt_inj.symm
theorem i32lt {a b : Int32} : a < b ↔ a.toInt < b.toInt := Int32.lt_iff_toInt_lt
theorem i32le {a b : Int32} : a ≤ b ↔ a.toInt ≤ b.toInt := Int32.le_iff_toInt_le
theorem i32hi (x : Int32) : x.toInt < 2147483648 := Int32.toInt_lt x
theorem i32lo (x : Int32) : -2147483648 ≤ x.toInt := Int32.le_toInt x
theorem i32cl (x : Int32) : x.toNatClampNeg = x.toInt.toNat := rfl
theorem sbI (x y : Int32) (h1 : -2147483648 ≤ x.toInt - y.toInt) (h2 : x.toInt - y.toInt < 2147483648) : (x - y).toInt = x.toInt - y.toInt := by
  rw [Int32.toInt_sub]
  exact Int.bmod_eq_of_le (by omega) (by omega)
theorem adI (x y : Int32) (h1 : -2147483648 ≤ x.toInt + y.toInt) (h2 : x.toInt + y.toInt < 2147483648) : (x + y).toInt = x.toInt + y.toInt := by
  rw [Int32.toInt_add]
  exact Int.bmod_eq_of_le (by omega) (by omega)
theorem muI (x y : Int32) (h1 : -2147483648 ≤ x.toInt * y.toInt) (h2 : x.toInt * y.toInt < 2147483648) : (x * y).toInt = x.toInt * y.toInt := by
  rw [Int32.toInt_mul]
  exact Int.bmod_eq_of_le (by omega) (by omega)
theorem sb16 {x : Int32} (h : 0 ≤ x.toInt) : (x - (16 : Int32)).toInt = x.toInt - 16 := by
  have := i32hi x
  rw [sbI x 16 (by rw [tI_16]; omega) (by rw [tI_16]; omega), tI_16]
theorem sb64 {x : Int32} (h : 0 ≤ x.toInt) : (x - (64 : Int32)).toInt = x.toInt - 64 := by
  have := i32hi x
  rw [sbI x 64 (by rw [tI_64]; omega) (by rw [tI_64]; omega), tI_64]
theorem sb4 {x : Int32} (h : 0 ≤ x.toInt) : (x - (4 : Int32)).toInt = x.toInt - 4 := by
  have := i32hi x
  rw [sbI x 4 (by rw [tI_4]; omega) (by rw [tI_4]; omega), tI_4]
theorem sb1 {x : Int32} (h : 0 ≤ x.toInt) : (x - (1 : Int32)).toInt = x.toInt - 1 := by
  have := i32hi x
  rw [sbI x 1 (by rw [tI_1]; omega) (by rw [tI_1]; omega), tI_1]
theorem ad4 {x : Int32} (h : x.toInt < 1000000) : (x + (4 : Int32)).toInt = x.toInt + 4 := by
  have := i32lo x
  rw [adI x 4 (by rw [tI_4]; omega) (by rw [tI_4]; omega), tI_4]
theorem ad1 {x : Int32} (h : x.toInt < 1000000) : (x + (1 : Int32)).toInt = x.toInt + 1 := by
  have := i32lo x
  rw [adI x 1 (by rw [tI_1]; omega) (by rw [tI_1]; omega), tI_1]
theorem ad16 {x : Int32} (h0 : -1000 ≤ x.toInt) (h : x.toInt < 1000000) : ((16 : Int32) + x).toInt = 16 + x.toInt := by
  rw [adI 16 x (by rw [tI_16]; omega) (by rw [tI_16]; omega), tI_16]
theorem nIt {n : Nat} (h : n < 1000000) : (nI n).toInt = (n : Int) := nI_toInt (by omega)
/-- an answer that is true or false -/
def isB (o : Option Int32) (P : Prop) : Prop := (P ∧ o = some 1) ∨ (¬ P ∧ o = some 0)
theorem isB_1 {P : Prop} (h : P) : isB (some (1 : Int32)) P := Or.inl ⟨h, rfl⟩
theorem isB_0 {P : Prop} (h : ¬ P) : isB (some (0 : Int32)) P := Or.inr ⟨h, rfl⟩
theorem isB_ite {c : Prop} {d : Decidable c} {A B : Option Int32} {P : Prop} (h1 : c → isB A P) (h2 : ¬ c → isB B P) : isB (@ite _ c d A B) P := by
  by_cases h : c
  · rw [if_pos h]; exact h1 h
  · rw [if_neg h]; exact h2 h
theorem isB_bind {o : Option Int32} {Q P : Prop} {f : Int32 → Option Int32} (ho : isB o Q) (h1 : Q → isB (f 1) P) (h0 : ¬ Q → isB (f 0) P) : isB (o.bind f) P := by
  rcases ho with ⟨q, e⟩ | ⟨q, e⟩
  · rw [e]; exact h1 q
  · rw [e]; exact h0 q
theorem isB_iff {o : Option Int32} {P Q : Prop} (h : isB o P) (e : P ↔ Q) : isB o Q := by
  rcases h with ⟨q, e1⟩ | ⟨q, e1⟩
  · exact Or.inl ⟨e.mp q, e1⟩
  · exact Or.inr ⟨fun z => q (e.mpr z), e1⟩
theorem isB_same {o1 o2 : Option Int32} {P : Prop} (h1 : isB o1 P) (h2 : isB o2 P) : ∃ v : Int32, o1 = some v ∧ o2 = some v := by
  rcases h1 with ⟨p, e1⟩ | ⟨p, e1⟩
  · rcases h2 with ⟨_, e2⟩ | ⟨q, _⟩
    · exact ⟨1, e1, e2⟩
    · exact absurd p q
  · rcases h2 with ⟨q, _⟩ | ⟨_, e2⟩
    · exact absurd q p
    · exact ⟨0, e1, e2⟩
theorem isB_some {o : Option Int32} {P : Prop} (h : isB o P) : ∃ v : Int32, o = some v ∧ (v = 1 ∧ P ∨ v = 0 ∧ ¬ P) := by
  rcases h with ⟨p, e⟩ | ⟨p, e⟩
  · exact ⟨1, e, Or.inl ⟨rfl, p⟩⟩
  · exact ⟨0, e, Or.inr ⟨rfl, p⟩⟩
theorem isB_gd {v : Int32} {P : Prop} (h : v = 1 ∧ P ∨ v = 0 ∧ ¬ P) : isB (if v &&& 1 = v then some v else none) P := by
  rcases h with ⟨rfl, p⟩ | ⟨rfl, p⟩
  · exact Or.inl ⟨p, rfl⟩
  · exact Or.inr ⟨p, rfl⟩
theorem isB_gd2 {o : Option Int32} {P : Prop} (h : isB o P) : isB (o.bind fun v => if v &&& 1 = v then some v else none) P := by
  rcases h with ⟨p, e⟩ | ⟨p, e⟩ <;> rw [e]
  · exact Or.inl ⟨p, rfl⟩
  · exact Or.inr ⟨p, rfl⟩
theorem sI_1 (σ : xSt) (k j : Nat) (v : Int32) (a b : Nat) : (sI σ k j v).1 a b = if a = k ∧ b = j then v else σ.1 a b := by
  unfold sI
  by_cases h : a = k
  · subst h
    by_cases g : b = j
    · subst g; simp [upd]
    · simp [upd, g]
  · simp [h]
theorem sL_2 (σ : xSt) (k j : Nat) (v : Int64) (a b : Nat) : (sL σ k j v).2 a b = if a = k ∧ b = j then v else σ.2 a b := by
  unfold sL
  by_cases h : a = k
  · subst h
    by_cases g : b = j
    · subst g; simp [vp_updL]
    · simp [vp_updL, g]
  · simp [h]
-- TYPES: which numbers are types, with T told ones
def toI (T : Nat) (z : Int) : Prop := 16 ≤ z ∧ z < 16 + T
def plI (T : Nat) (z : Int) : Prop := (0 ≤ z ∧ z < 10) ∨ toI T z
def tyI (T : Nat) (z : Int) : Prop := plI T z ∨ z = 10 ∨ (64 ≤ z ∧ plI T (z - 64))
def vaI (T : Nat) (z : Int) : Prop := plI T z ∨ (64 ≤ z ∧ plI T (z - 64))
-- what IS what, among plain ones and among all
def isP (R : Nat → Nat → Prop) (T : Nat) (s t : Int) : Prop :=
  s = t ∨ (s < 4 ∧ ((s = 1 ∧ (t = 2 ∨ t = 3)) ∨ (s = 2 ∧ t = 3))) ∨ (4 ≤ s ∧ 4 ≤ t ∧ (t = 8 ∨ s = 10 ∨ (t = 9 ∧ (s = 5 ∨ s = 6 ∨ s = 7)) ∨ (toI T s ∧ toI T t ∧ R (s - 16).toNat (t - 16).toNat)))
def isI (R : Nat → Nat → Prop) (T : Nat) (s t : Int) : Prop :=
  s = t ∨ (64 ≤ s ∧ 64 ≤ t ∧ ¬ (s - 64 < 4) ∧ isP R T (s - 64) (t - 64)) ∨ (64 ≤ s ∧ ¬ 64 ≤ t ∧ t = 8) ∨ (¬ 64 ≤ s ∧ 64 ≤ t ∧ s = 10) ∨ (¬ 64 ≤ s ∧ ¬ 64 ≤ t ∧ isP R T s t)
def fiI (R : Nat → Nat → Prop) (T : Nat) (s t : Int) : Prop := isI R T s t ∨ (0 ≤ s ∧ s < 4 ∧ isI R T (s + 4) t) ∨ (4 ≤ s ∧ s < 8 ∧ isI R T (s - 4) t)
