theorem ts_nf {x : Bool} (h : ¬ x = false) : x = true := by cases x <;> first | rfl | exact absurd rfl h
theorem ts_nt {x : Bool} (h : ¬ x = true) : x = false := by cases x <;> first | rfl | exact absurd rfl h
theorem ts_bit {w : Int64} {s : UInt64} {j : Nat} (hj : j < 64) (hs : s.toNat = j) : ((w.toUInt64 >>> s).toInt64 &&& 1) = 0 ↔ w.toBitVec.getLsbD j = false := by
  have e : (w.toUInt64 >>> s).toInt64.toBitVec = w.toBitVec >>> j := by
    apply BitVec.eq_of_toNat_eq
    show (w.toUInt64 >>> s).toNat = _
    rw [UInt64.toNat_shiftRight, hs, Nat.mod_eq_of_lt hj, BitVec.toNat_ushiftRight]
    rfl
  rw [← Int64.toBitVec_inj, Int64.toBitVec_and, e]
  show w.toBitVec >>> j &&& 1#64 = 0#64 ↔ _
  constructor
  · intro h
    have t := congrArg (fun x => x.getLsbD 0) h
    simpa using t
  · intro h
    apply BitVec.eq_of_getLsbD_eq
    intro i hi
    cases i with
    | zero => simp [h]
    | succ i => simp
def Rm (τ : xSt) (k j : Nat) : Prop := τ.1 5 (24 * k + j) ≠ 0
def b64 (w : Int64) (u : Nat) : Bool := w.toBitVec.getLsbD u
theorem lgc0 (x : Int64) : lg_cmp x 0 = 0 ↔ x = 0 := by
  unfold lg_cmp
  by_cases h : x > 0
  · rw [if_pos h]
    constructor
    · intro e; exact absurd e (by decide)
    · intro e; subst e; exact absurd h (by decide)
  · rw [if_neg h]
    by_cases g : x = 0
    · rw [if_pos g]; exact ⟨fun _ => g, fun _ => rfl⟩
    · rw [if_neg g]
      constructor
      · intro e; exact absurd e (by decide)
      · intro e; exact absurd e g
theorem jsh (y : Int32) (h0 : 0 ≤ y.toInt) (h : y.toInt < 64) : (y.toInt64.toUInt64 &&& Int64.toUInt64 63).toNat = y.toInt.toNat := by
  obtain ⟨j, hj, rfl⟩ : ∃ j : Nat, j < 64 ∧ y = nI j := by
    refine ⟨y.toInt.toNat, by omega, ?_⟩
    rw [i32eq, nIt (by omega)]
    omega
  rw [nIt (by omega)]
  have key : ∀ j, j < 64 → ((nI j).toInt64.toUInt64 &&& Int64.toUInt64 63).toNat = j := by decide
  rw [key j hj]
  omega
theorem xbit (w : Int64) (y : Int32) (h0 : 0 ≤ y.toInt) (h : y.toInt < 64) : (lg_cmp ((jlushr w y) &&& (1 : Int64)) (0 : Int64) = 0) ↔ b64 w y.toInt.toNat = false := by
  rw [lgc0]
  exact ts_bit (w := w) (s := y.toInt64.toUInt64 &&& Int64.toUInt64 63) (j := y.toInt.toNat) (by omega) (jsh y h0 h)
theorem m_cell {σ : xSt} {T : Nat} (hT2 : T ≤ 24) {x y : Int32} (hx : toI T x.toInt) (hy : toI T y.toInt) : isB (if ((((24 : Int32) * (x - (16 : Int32))) + y) - (16 : Int32)) < 0 ∨ 576 ≤ ((((24 : Int32) * (x - (16 : Int32))) + y) - (16 : Int32)).toNatClampNeg then none else if (σ.1 5 ((((24 : Int32) * (x - (16 : Int32))) + y) - (16 : Int32)).toNatClampNeg) = 0 then some (0 : Int32) else some (1 : Int32)) (Rm σ (x.toInt - 16).toNat (y.toInt - 16).toNat) := by
  obtain ⟨hx1, hx2⟩ := hx
  obtain ⟨hy1, hy2⟩ := hy
  have e1 : (x - (16 : Int32)).toInt = x.toInt - 16 := sb16 (by omega)
  have e2 : ((24 : Int32) * (x - (16 : Int32))).toInt = 24 * (x.toInt - 16) := by rw [muI _ _ (by rw [e1, tI_24]; omega) (by rw [e1, tI_24]; omega), e1, tI_24]
  have e3 : (((24 : Int32) * (x - (16 : Int32))) + y).toInt = 24 * (x.toInt - 16) + y.toInt := by rw [adI _ _ (by rw [e2]; omega) (by rw [e2]; omega), e2]
  have e4 : ((((24 : Int32) * (x - (16 : Int32))) + y) - (16 : Int32)).toInt = 24 * (x.toInt - 16) + y.toInt - 16 := by rw [sb16 (by rw [e3]; omega), e3]
  have e5 : ((((24 : Int32) * (x - (16 : Int32))) + y) - (16 : Int32)).toNatClampNeg = 24 * (x.toInt - 16).toNat + (y.toInt - 16).toNat := by rw [i32cl, e4]; omega
  rw [if_neg (by rw [e5, i32lt, e4, tI_0]; omega), e5]
  refine isB_ite (fun c => isB_0 (fun h => h c)) (fun c => isB_1 c)
set_option maxHeartbeats 2000000 in
theorem m_plainIs_b29 {σ : xSt} (x y : Int32) : isB (fCM_plainIs_b29 σ x y) (x.toInt = 2 ∧ y.toInt = 3) := by
  unfold fCM_plainIs_b29
  repeat' (first
    | refine isB_ite (fun _ => ?_) (fun _ => ?_)
    | apply isB_1
    | apply isB_0)
  all_goals (try simp only [i32eq, i32lt, i32le, tI_m7, tI_m6, tI_m5, tI_m4, tI_m3, tI_m2, tI_m1, tI_0, tI_1, tI_2, tI_3, tI_4, tI_5, tI_6, tI_7, tI_8, tI_9, tI_10, tI_11, tI_12, tI_13, tI_14, tI_15, tI_16, tI_17, tI_18, tI_19, tI_20, tI_21, tI_22, tI_23, tI_24, tI_25, tI_26, tI_27, tI_28, tI_29, tI_30, tI_31, tI_32, tI_33, tI_34, tI_35, tI_36, tI_37, tI_38, tI_39, tI_40, tI_60, tI_61, tI_63, tI_64, tI_96, tI_240, tI_244, tI_576, tI_3600] at *)
  all_goals (try simp (disch := omega) only [sb64, sb16, sb4, sb1, ad4, ad1, nIt] at *)
  all_goals (first | omega | grind)
set_option maxHeartbeats 2000000 in
theorem m_plainIs {σ : xSt} {T : Nat} (hT : σ.1 0 0 = nI T) (hT2 : T ≤ 24) (x y : Int32) (hx : 0 ≤ x.toInt) (hy : 0 ≤ y.toInt) : isB (fCM_plainIs σ x y) (isP (Rm σ) T x.toInt y.toInt) := by
  unfold fCM_plainIs
  repeat' (first
    | refine isB_iff (m_cell hT2 (by assumption) (by assumption)) ?_
    | refine isB_ite (fun _ => ?_) (fun _ => ?_)
    | refine isB_bind (m_isPrimitive _) (fun _ => ?_) (fun _ => ?_)
    | refine isB_bind (m_isTold hT hT2 _) (fun _ => ?_) (fun _ => ?_)
    | refine isB_iff (m_plainIs_b29 _ _) ?_
    | apply isB_1
    | apply isB_0)
  all_goals (try simp only [i32eq, i32lt, i32le, tI_m7, tI_m6, tI_m5, tI_m4, tI_m3, tI_m2, tI_m1, tI_0, tI_1, tI_2, tI_3, tI_4, tI_5, tI_6, tI_7, tI_8, tI_9, tI_10, tI_11, tI_12, tI_13, tI_14, tI_15, tI_16, tI_17, tI_18, tI_19, tI_20, tI_21, tI_22, tI_23, tI_24, tI_25, tI_26, tI_27, tI_28, tI_29, tI_30, tI_31, tI_32, tI_33, tI_34, tI_35, tI_36, tI_37, tI_38, tI_39, tI_40, tI_60, tI_61, tI_63, tI_64, tI_96, tI_240, tI_244, tI_576, tI_3600, isP] at *)
  all_goals (try simp (disch := omega) only [sb64, sb16, sb4, sb1, ad4, ad1, nIt] at *)
  all_goals (first | omega | grind [toI])
set_option maxHeartbeats 2000000 in
theorem m_isIt_b50 {σ : xSt} {T : Nat} (hT : σ.1 0 0 = nI T) (hT2 : T ≤ 24) (x y : Int32) (hx : 0 ≤ x.toInt) (hy : 0 ≤ y.toInt) (hne : ¬ x.toInt = y.toInt) (hs : ¬ (64 ≤ x.toInt ∧ 64 ≤ y.toInt)) : isB (fCM_isIt_b50 σ x y) (isI (Rm σ) T x.toInt y.toInt) := by
  unfold fCM_isIt_b50
  repeat' (first
    | refine isB_ite (fun _ => ?_) (fun _ => ?_)
    | refine isB_iff (isB_gd2 (m_plainIs hT hT2 _ _ (by assumption) (by assumption))) ?_
    | apply isB_1
    | apply isB_0)
  all_goals (try simp only [i32eq, i32lt, i32le, tI_m7, tI_m6, tI_m5, tI_m4, tI_m3, tI_m2, tI_m1, tI_0, tI_1, tI_2, tI_3, tI_4, tI_5, tI_6, tI_7, tI_8, tI_9, tI_10, tI_11, tI_12, tI_13, tI_14, tI_15, tI_16, tI_17, tI_18, tI_19, tI_20, tI_21, tI_22, tI_23, tI_24, tI_25, tI_26, tI_27, tI_28, tI_29, tI_30, tI_31, tI_32, tI_33, tI_34, tI_35, tI_36, tI_37, tI_38, tI_39, tI_40, tI_60, tI_61, tI_63, tI_64, tI_96, tI_240, tI_244, tI_576, tI_3600, isI] at *)
  all_goals (try simp (disch := omega) only [sb64, sb16, sb4, sb1, ad4, ad1, nIt] at *)
  all_goals (first | omega | grind)
set_option maxHeartbeats 2000000 in
theorem m_isIt {σ : xSt} {T : Nat} (hT : σ.1 0 0 = nI T) (hT2 : T ≤ 24) (x y : Int32) (hx : 0 ≤ x.toInt) (hy : 0 ≤ y.toInt) : isB (fCM_isIt σ x y) (isI (Rm σ) T x.toInt y.toInt) := by
  unfold fCM_isIt
  repeat' (first
    | exact m_isIt_b50 hT hT2 x y hx hy (by simp only [i32eq] at *; omega) (by simp only [i32lt, tI_64] at *; omega)
    | refine isB_bind (m_plainIs hT hT2 _ _ (by simp only [i32lt, tI_64] at *; rw [sb64 (by omega)]; omega) (by simp only [i32lt, tI_64] at *; rw [sb64 (by omega)]; omega)) (fun _ => ?_) (fun _ => ?_)
    | refine isB_ite (fun _ => ?_) (fun _ => ?_)
    | refine isB_bind (m_isPrimitive _) (fun _ => ?_) (fun _ => ?_)
    | apply isB_1
    | apply isB_0)
  all_goals (try simp only [i32eq, i32lt, i32le, tI_m7, tI_m6, tI_m5, tI_m4, tI_m3, tI_m2, tI_m1, tI_0, tI_1, tI_2, tI_3, tI_4, tI_5, tI_6, tI_7, tI_8, tI_9, tI_10, tI_11, tI_12, tI_13, tI_14, tI_15, tI_16, tI_17, tI_18, tI_19, tI_20, tI_21, tI_22, tI_23, tI_24, tI_25, tI_26, tI_27, tI_28, tI_29, tI_30, tI_31, tI_32, tI_33, tI_34, tI_35, tI_36, tI_37, tI_38, tI_39, tI_40, tI_60, tI_61, tI_63, tI_64, tI_96, tI_240, tI_244, tI_576, tI_3600, isI] at *)
  all_goals (try simp (disch := omega) only [sb64, sb16, sb4, sb1, ad4, ad1, nIt] at *)
  all_goals (first | omega | grind)
set_option maxHeartbeats 2000000 in
theorem m_fitsIt_b27 {σ : xSt} {T : Nat} (hT : σ.1 0 0 = nI T) (hT2 : T ≤ 24) (x y : Int32) (hx : 0 ≤ x.toInt) (hy : 0 ≤ y.toInt) : isB (fCM_fitsIt_b27 σ x y) (4 ≤ x.toInt ∧ x.toInt < 8 ∧ isI (Rm σ) T (x.toInt - 4) y.toInt) := by
  unfold fCM_fitsIt_b27
  repeat' (first
    | refine isB_bind (m_isIt hT hT2 _ _ (by rw [sb4 (by omega)]; omega) hy) (fun _ => ?_) (fun _ => ?_)
    | refine isB_ite (fun _ => ?_) (fun _ => ?_)
    | refine isB_bind (m_isBox _) (fun _ => ?_) (fun _ => ?_)
    | apply isB_1
    | apply isB_0)
  all_goals (try simp only [i32eq, i32lt, i32le, tI_m7, tI_m6, tI_m5, tI_m4, tI_m3, tI_m2, tI_m1, tI_0, tI_1, tI_2, tI_3, tI_4, tI_5, tI_6, tI_7, tI_8, tI_9, tI_10, tI_11, tI_12, tI_13, tI_14, tI_15, tI_16, tI_17, tI_18, tI_19, tI_20, tI_21, tI_22, tI_23, tI_24, tI_25, tI_26, tI_27, tI_28, tI_29, tI_30, tI_31, tI_32, tI_33, tI_34, tI_35, tI_36, tI_37, tI_38, tI_39, tI_40, tI_60, tI_61, tI_63, tI_64, tI_96, tI_240, tI_244, tI_576, tI_3600] at *)
  all_goals (try simp (disch := omega) only [sb64, sb16, sb4, sb1, ad4, ad1, nIt] at *)
  all_goals (first | omega | grind)
set_option maxHeartbeats 2000000 in
theorem m_fitsIt {σ : xSt} {T : Nat} (hT : σ.1 0 0 = nI T) (hT2 : T ≤ 24) (x y : Int32) (hx : 0 ≤ x.toInt) (hy : 0 ≤ y.toInt) : isB (fCM_fitsIt σ x y) (fiI (Rm σ) T x.toInt y.toInt) := by
  unfold fCM_fitsIt
  repeat' (first
    | refine isB_bind (m_isIt hT hT2 (x + (4 : Int32)) y (by rw [ad4 (by omega)]; omega) hy) (fun _ => ?_) (fun _ => ?_)
    | refine isB_ite (fun _ => ?_) (fun _ => ?_)
    | refine isB_bind (m_isPrimitive _) (fun _ => ?_) (fun _ => ?_)
    | refine isB_bind (m_isIt hT hT2 x y hx hy) (fun _ => ?_) (fun _ => ?_)
    | refine isB_iff (m_fitsIt_b27 hT hT2 _ _ hx hy) ?_
    | apply isB_1
    | apply isB_0)
  all_goals (try simp only [i32eq, i32lt, i32le, tI_m7, tI_m6, tI_m5, tI_m4, tI_m3, tI_m2, tI_m1, tI_0, tI_1, tI_2, tI_3, tI_4, tI_5, tI_6, tI_7, tI_8, tI_9, tI_10, tI_11, tI_12, tI_13, tI_14, tI_15, tI_16, tI_17, tI_18, tI_19, tI_20, tI_21, tI_22, tI_23, tI_24, tI_25, tI_26, tI_27, tI_28, tI_29, tI_30, tI_31, tI_32, tI_33, tI_34, tI_35, tI_36, tI_37, tI_38, tI_39, tI_40, tI_60, tI_61, tI_63, tI_64, tI_96, tI_240, tI_244, tI_576, tI_3600, fiI] at *)
  all_goals (try simp (disch := omega) only [sb64, sb16, sb4, sb1, ad4, ad1, nIt] at *)
  all_goals (first | omega | grind)
