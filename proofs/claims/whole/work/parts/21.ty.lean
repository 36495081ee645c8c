set_option maxHeartbeats 2000000 in
theorem x_isTold {σ : xSt} {T : Nat} (hT : σ.1 1 3 = nI T) (hT2 : T ≤ 24) (x : Int32) : isB (fC1_isTold σ x) (toI T x.toInt) := by
  unfold fC1_isTold
  rw [hT]
  have e16 : ((16 : Int32) + nI T).toInt = 16 + T := by rw [ad16 (by rw [nIt (by omega)]; omega) (by rw [nIt (by omega)]; omega), nIt (by omega)]
  repeat' (first
    | refine isB_ite (fun _ => ?_) (fun _ => ?_)
    | apply isB_1
    | apply isB_0)
  all_goals (try simp only [i32eq, i32lt, i32le, tI_m7, tI_m6, tI_m5, tI_m4, tI_m3, tI_m2, tI_m1, tI_0, tI_1, tI_2, tI_3, tI_4, tI_5, tI_6, tI_7, tI_8, tI_9, tI_10, tI_11, tI_12, tI_13, tI_14, tI_15, tI_16, tI_17, tI_18, tI_19, tI_20, tI_21, tI_22, tI_23, tI_24, tI_25, tI_26, tI_27, tI_28, tI_29, tI_30, tI_31, tI_32, tI_33, tI_34, tI_35, tI_36, tI_37, tI_38, tI_39, tI_40, tI_60, tI_61, tI_63, tI_64, tI_96, tI_240, tI_244, tI_576, tI_3600, toI, e16] at *)
  all_goals (try simp (disch := omega) only [sb64, sb16, sb4, sb1, ad4, ad1, nIt] at *)
  all_goals (first | omega | grind)
set_option maxHeartbeats 2000000 in
theorem m_isTold {σ : xSt} {T : Nat} (hT : σ.1 0 0 = nI T) (hT2 : T ≤ 24) (x : Int32) : isB (fCM_isTold σ x) (toI T x.toInt) := by
  unfold fCM_isTold
  rw [hT]
  have e16 : ((16 : Int32) + nI T).toInt = 16 + T := by rw [ad16 (by rw [nIt (by omega)]; omega) (by rw [nIt (by omega)]; omega), nIt (by omega)]
  repeat' (first
    | refine isB_ite (fun _ => ?_) (fun _ => ?_)
    | apply isB_1
    | apply isB_0)
  all_goals (try simp only [i32eq, i32lt, i32le, tI_m7, tI_m6, tI_m5, tI_m4, tI_m3, tI_m2, tI_m1, tI_0, tI_1, tI_2, tI_3, tI_4, tI_5, tI_6, tI_7, tI_8, tI_9, tI_10, tI_11, tI_12, tI_13, tI_14, tI_15, tI_16, tI_17, tI_18, tI_19, tI_20, tI_21, tI_22, tI_23, tI_24, tI_25, tI_26, tI_27, tI_28, tI_29, tI_30, tI_31, tI_32, tI_33, tI_34, tI_35, tI_36, tI_37, tI_38, tI_39, tI_40, tI_60, tI_61, tI_63, tI_64, tI_96, tI_240, tI_244, tI_576, tI_3600, toI, e16] at *)
  all_goals (try simp (disch := omega) only [sb64, sb16, sb4, sb1, ad4, ad1, nIt] at *)
  all_goals (first | omega | grind)
set_option maxHeartbeats 2000000 in
theorem x_isElement_b10 {σ : xSt} {T : Nat} (hT : σ.1 1 3 = nI T) (hT2 : T ≤ 24) (x : Int32) : isB (fC1_isElement_b10 σ x) (toI T x.toInt) := by
  unfold fC1_isElement_b10
  repeat' (first
    | refine isB_ite (fun _ => ?_) (fun _ => ?_)
    | refine isB_bind (x_isTold hT hT2 _) (fun _ => ?_) (fun _ => ?_)
    | apply isB_1
    | apply isB_0)
  all_goals (try simp only [i32eq, i32lt, i32le, tI_m7, tI_m6, tI_m5, tI_m4, tI_m3, tI_m2, tI_m1, tI_0, tI_1, tI_2, tI_3, tI_4, tI_5, tI_6, tI_7, tI_8, tI_9, tI_10, tI_11, tI_12, tI_13, tI_14, tI_15, tI_16, tI_17, tI_18, tI_19, tI_20, tI_21, tI_22, tI_23, tI_24, tI_25, tI_26, tI_27, tI_28, tI_29, tI_30, tI_31, tI_32, tI_33, tI_34, tI_35, tI_36, tI_37, tI_38, tI_39, tI_40, tI_60, tI_61, tI_63, tI_64, tI_96, tI_240, tI_244, tI_576, tI_3600, toI, plI, tyI, vaI] at *)
  all_goals (try simp (disch := omega) only [sb64, sb16, sb4, sb1, ad4, ad1, nIt] at *)
  all_goals (first | omega | grind)
set_option maxHeartbeats 2000000 in
theorem x_isElement {σ : xSt} {T : Nat} (hT : σ.1 1 3 = nI T) (hT2 : T ≤ 24) (x : Int32) : isB (fC1_isElement σ x) (plI T x.toInt) := by
  unfold fC1_isElement
  repeat' (first
    | refine isB_ite (fun _ => ?_) (fun _ => ?_)
    | refine isB_iff (x_isElement_b10 hT hT2 _) ?_
    | apply isB_1
    | apply isB_0)
  all_goals (try simp only [i32eq, i32lt, i32le, tI_m7, tI_m6, tI_m5, tI_m4, tI_m3, tI_m2, tI_m1, tI_0, tI_1, tI_2, tI_3, tI_4, tI_5, tI_6, tI_7, tI_8, tI_9, tI_10, tI_11, tI_12, tI_13, tI_14, tI_15, tI_16, tI_17, tI_18, tI_19, tI_20, tI_21, tI_22, tI_23, tI_24, tI_25, tI_26, tI_27, tI_28, tI_29, tI_30, tI_31, tI_32, tI_33, tI_34, tI_35, tI_36, tI_37, tI_38, tI_39, tI_40, tI_60, tI_61, tI_63, tI_64, tI_96, tI_240, tI_244, tI_576, tI_3600, toI, plI, tyI, vaI] at *)
  all_goals (try simp (disch := omega) only [sb64, sb16, sb4, sb1, ad4, ad1, nIt] at *)
  all_goals (first | omega | grind)
set_option maxHeartbeats 2000000 in
theorem x_isArray {σ : xSt} {T : Nat} (hT : σ.1 1 3 = nI T) (hT2 : T ≤ 24) (x : Int32) : isB (fC1_isArray σ x) (64 ≤ x.toInt ∧ plI T (x.toInt - 64)) := by
  unfold fC1_isArray
  repeat' (first
    | refine isB_ite (fun _ => ?_) (fun _ => ?_)
    | refine isB_bind (x_isElement hT hT2 _) (fun _ => ?_) (fun _ => ?_)
    | apply isB_1
    | apply isB_0)
  all_goals (try simp only [i32eq, i32lt, i32le, tI_m7, tI_m6, tI_m5, tI_m4, tI_m3, tI_m2, tI_m1, tI_0, tI_1, tI_2, tI_3, tI_4, tI_5, tI_6, tI_7, tI_8, tI_9, tI_10, tI_11, tI_12, tI_13, tI_14, tI_15, tI_16, tI_17, tI_18, tI_19, tI_20, tI_21, tI_22, tI_23, tI_24, tI_25, tI_26, tI_27, tI_28, tI_29, tI_30, tI_31, tI_32, tI_33, tI_34, tI_35, tI_36, tI_37, tI_38, tI_39, tI_40, tI_60, tI_61, tI_63, tI_64, tI_96, tI_240, tI_244, tI_576, tI_3600, toI, plI, tyI, vaI] at *)
  all_goals (try simp (disch := omega) only [sb64, sb16, sb4, sb1, ad4, ad1, nIt] at *)
  all_goals (first | omega | grind)
set_option maxHeartbeats 2000000 in
theorem x_canBeDeclared {σ : xSt} {T : Nat} (hT : σ.1 1 3 = nI T) (hT2 : T ≤ 24) (x : Int32) : isB (fC1_canBeDeclared σ x) (vaI T x.toInt) := by
  unfold fC1_canBeDeclared
  repeat' (first
    | refine isB_ite (fun _ => ?_) (fun _ => ?_)
    | refine isB_bind (x_isElement hT hT2 _) (fun _ => ?_) (fun _ => ?_)
    | refine isB_bind (x_isArray hT hT2 _) (fun _ => ?_) (fun _ => ?_)
    | apply isB_1
    | apply isB_0)
  all_goals (try simp only [i32eq, i32lt, i32le, tI_m7, tI_m6, tI_m5, tI_m4, tI_m3, tI_m2, tI_m1, tI_0, tI_1, tI_2, tI_3, tI_4, tI_5, tI_6, tI_7, tI_8, tI_9, tI_10, tI_11, tI_12, tI_13, tI_14, tI_15, tI_16, tI_17, tI_18, tI_19, tI_20, tI_21, tI_22, tI_23, tI_24, tI_25, tI_26, tI_27, tI_28, tI_29, tI_30, tI_31, tI_32, tI_33, tI_34, tI_35, tI_36, tI_37, tI_38, tI_39, tI_40, tI_60, tI_61, tI_63, tI_64, tI_96, tI_240, tI_244, tI_576, tI_3600, toI, plI, tyI, vaI] at *)
  all_goals (try simp (disch := omega) only [sb64, sb16, sb4, sb1, ad4, ad1, nIt] at *)
  all_goals (first | omega | grind)
set_option maxHeartbeats 2000000 in
theorem x_canBeResult {σ : xSt} {T : Nat} (hT : σ.1 1 3 = nI T) (hT2 : T ≤ 24) (x : Int32) : isB (fC1_canBeResult σ x) (x.toInt = -1 ∨ vaI T x.toInt) := by
  unfold fC1_canBeResult
  repeat' (first
    | refine isB_ite (fun _ => ?_) (fun _ => ?_)
    | refine isB_bind (x_canBeDeclared hT hT2 _) (fun _ => ?_) (fun _ => ?_)
    | apply isB_1
    | apply isB_0)
  all_goals (try simp only [i32eq, i32lt, i32le, tI_m7, tI_m6, tI_m5, tI_m4, tI_m3, tI_m2, tI_m1, tI_0, tI_1, tI_2, tI_3, tI_4, tI_5, tI_6, tI_7, tI_8, tI_9, tI_10, tI_11, tI_12, tI_13, tI_14, tI_15, tI_16, tI_17, tI_18, tI_19, tI_20, tI_21, tI_22, tI_23, tI_24, tI_25, tI_26, tI_27, tI_28, tI_29, tI_30, tI_31, tI_32, tI_33, tI_34, tI_35, tI_36, tI_37, tI_38, tI_39, tI_40, tI_60, tI_61, tI_63, tI_64, tI_96, tI_240, tI_244, tI_576, tI_3600, toI, plI, tyI, vaI] at *)
  all_goals (try simp (disch := omega) only [sb64, sb16, sb4, sb1, ad4, ad1, nIt] at *)
  all_goals (first | omega | grind)
set_option maxHeartbeats 2000000 in
theorem x_isType {σ : xSt} {T : Nat} (hT : σ.1 1 3 = nI T) (hT2 : T ≤ 24) (x : Int32) : isB (fC1_isType σ x) (tyI T x.toInt) := by
  unfold fC1_isType
  repeat' (first
    | refine isB_ite (fun _ => ?_) (fun _ => ?_)
    | refine isB_bind (x_isElement hT hT2 _) (fun _ => ?_) (fun _ => ?_)
    | refine isB_bind (x_isArray hT hT2 _) (fun _ => ?_) (fun _ => ?_)
    | apply isB_1
    | apply isB_0)
  all_goals (try simp only [i32eq, i32lt, i32le, tI_m7, tI_m6, tI_m5, tI_m4, tI_m3, tI_m2, tI_m1, tI_0, tI_1, tI_2, tI_3, tI_4, tI_5, tI_6, tI_7, tI_8, tI_9, tI_10, tI_11, tI_12, tI_13, tI_14, tI_15, tI_16, tI_17, tI_18, tI_19, tI_20, tI_21, tI_22, tI_23, tI_24, tI_25, tI_26, tI_27, tI_28, tI_29, tI_30, tI_31, tI_32, tI_33, tI_34, tI_35, tI_36, tI_37, tI_38, tI_39, tI_40, tI_60, tI_61, tI_63, tI_64, tI_96, tI_240, tI_244, tI_576, tI_3600, toI, plI, tyI, vaI] at *)
  all_goals (try simp (disch := omega) only [sb64, sb16, sb4, sb1, ad4, ad1, nIt] at *)
  all_goals (first | omega | grind)
set_option maxHeartbeats 2000000 in
theorem x_isPrimitive {σ : xSt} (x : Int32) : isB (fC1_isPrimitive σ x) (0 ≤ x.toInt ∧ x.toInt < 4) := by
  unfold fC1_isPrimitive
  repeat' (first
    | refine isB_ite (fun _ => ?_) (fun _ => ?_)
    | apply isB_1
    | apply isB_0)
  all_goals (try simp only [i32eq, i32lt, i32le, tI_m7, tI_m6, tI_m5, tI_m4, tI_m3, tI_m2, tI_m1, tI_0, tI_1, tI_2, tI_3, tI_4, tI_5, tI_6, tI_7, tI_8, tI_9, tI_10, tI_11, tI_12, tI_13, tI_14, tI_15, tI_16, tI_17, tI_18, tI_19, tI_20, tI_21, tI_22, tI_23, tI_24, tI_25, tI_26, tI_27, tI_28, tI_29, tI_30, tI_31, tI_32, tI_33, tI_34, tI_35, tI_36, tI_37, tI_38, tI_39, tI_40, tI_60, tI_61, tI_63, tI_64, tI_96, tI_240, tI_244, tI_576, tI_3600] at *)
  all_goals (try simp (disch := omega) only [sb64, sb16, sb4, sb1, ad4, ad1, nIt] at *)
  all_goals (first | omega | grind)
set_option maxHeartbeats 2000000 in
theorem x_isReference {σ : xSt} (x : Int32) : isB (fC1_isReference σ x) (4 ≤ x.toInt) := by
  unfold fC1_isReference
  repeat' (first
    | refine isB_ite (fun _ => ?_) (fun _ => ?_)
    | apply isB_1
    | apply isB_0)
  all_goals (try simp only [i32eq, i32lt, i32le, tI_m7, tI_m6, tI_m5, tI_m4, tI_m3, tI_m2, tI_m1, tI_0, tI_1, tI_2, tI_3, tI_4, tI_5, tI_6, tI_7, tI_8, tI_9, tI_10, tI_11, tI_12, tI_13, tI_14, tI_15, tI_16, tI_17, tI_18, tI_19, tI_20, tI_21, tI_22, tI_23, tI_24, tI_25, tI_26, tI_27, tI_28, tI_29, tI_30, tI_31, tI_32, tI_33, tI_34, tI_35, tI_36, tI_37, tI_38, tI_39, tI_40, tI_60, tI_61, tI_63, tI_64, tI_96, tI_240, tI_244, tI_576, tI_3600] at *)
  all_goals (try simp (disch := omega) only [sb64, sb16, sb4, sb1, ad4, ad1, nIt] at *)
  all_goals (first | omega | grind)
set_option maxHeartbeats 2000000 in
theorem x_canBeAsked {σ : xSt} {T : Nat} (hT : σ.1 1 3 = nI T) (hT2 : T ≤ 24) (x y z : Int32) : isB (fC0_canBeAsked σ x y z) (toI T x.toInt ∧ (0 ≤ y.toInt ∧ y.toInt < 16) ∧ (z.toInt = -1 ∨ toI T z.toInt)) := by
  unfold fC0_canBeAsked
  repeat' (first
    | refine isB_ite (fun _ => ?_) (fun _ => ?_)
    | refine isB_bind (x_isTold hT hT2 _) (fun _ => ?_) (fun _ => ?_)
    | apply isB_1
    | apply isB_0)
  all_goals (try simp only [i32eq, i32lt, i32le, tI_m7, tI_m6, tI_m5, tI_m4, tI_m3, tI_m2, tI_m1, tI_0, tI_1, tI_2, tI_3, tI_4, tI_5, tI_6, tI_7, tI_8, tI_9, tI_10, tI_11, tI_12, tI_13, tI_14, tI_15, tI_16, tI_17, tI_18, tI_19, tI_20, tI_21, tI_22, tI_23, tI_24, tI_25, tI_26, tI_27, tI_28, tI_29, tI_30, tI_31, tI_32, tI_33, tI_34, tI_35, tI_36, tI_37, tI_38, tI_39, tI_40, tI_60, tI_61, tI_63, tI_64, tI_96, tI_240, tI_244, tI_576, tI_3600, toI, plI, tyI, vaI] at *)
  all_goals (try simp (disch := omega) only [sb64, sb16, sb4, sb1, ad4, ad1, nIt] at *)
  all_goals (first | omega | grind)
set_option maxHeartbeats 2000000 in
theorem m_isPlain_b10 {σ : xSt} {T : Nat} (hT : σ.1 0 0 = nI T) (hT2 : T ≤ 24) (x : Int32) : isB (fCM_isPlain_b10 σ x) (toI T x.toInt) := by
  unfold fCM_isPlain_b10
  repeat' (first
    | refine isB_ite (fun _ => ?_) (fun _ => ?_)
    | refine isB_bind (m_isTold hT hT2 _) (fun _ => ?_) (fun _ => ?_)
    | apply isB_1
    | apply isB_0)
  all_goals (try simp only [i32eq, i32lt, i32le, tI_m7, tI_m6, tI_m5, tI_m4, tI_m3, tI_m2, tI_m1, tI_0, tI_1, tI_2, tI_3, tI_4, tI_5, tI_6, tI_7, tI_8, tI_9, tI_10, tI_11, tI_12, tI_13, tI_14, tI_15, tI_16, tI_17, tI_18, tI_19, tI_20, tI_21, tI_22, tI_23, tI_24, tI_25, tI_26, tI_27, tI_28, tI_29, tI_30, tI_31, tI_32, tI_33, tI_34, tI_35, tI_36, tI_37, tI_38, tI_39, tI_40, tI_60, tI_61, tI_63, tI_64, tI_96, tI_240, tI_244, tI_576, tI_3600, toI, plI, tyI, vaI] at *)
  all_goals (try simp (disch := omega) only [sb64, sb16, sb4, sb1, ad4, ad1, nIt] at *)
  all_goals (first | omega | grind)
set_option maxHeartbeats 2000000 in
theorem m_isPlain {σ : xSt} {T : Nat} (hT : σ.1 0 0 = nI T) (hT2 : T ≤ 24) (x : Int32) : isB (fCM_isPlain σ x) (plI T x.toInt) := by
  unfold fCM_isPlain
  repeat' (first
    | refine isB_ite (fun _ => ?_) (fun _ => ?_)
    | refine isB_iff (m_isPlain_b10 hT hT2 _) ?_
    | apply isB_1
    | apply isB_0)
  all_goals (try simp only [i32eq, i32lt, i32le, tI_m7, tI_m6, tI_m5, tI_m4, tI_m3, tI_m2, tI_m1, tI_0, tI_1, tI_2, tI_3, tI_4, tI_5, tI_6, tI_7, tI_8, tI_9, tI_10, tI_11, tI_12, tI_13, tI_14, tI_15, tI_16, tI_17, tI_18, tI_19, tI_20, tI_21, tI_22, tI_23, tI_24, tI_25, tI_26, tI_27, tI_28, tI_29, tI_30, tI_31, tI_32, tI_33, tI_34, tI_35, tI_36, tI_37, tI_38, tI_39, tI_40, tI_60, tI_61, tI_63, tI_64, tI_96, tI_240, tI_244, tI_576, tI_3600, toI, plI, tyI, vaI] at *)
  all_goals (try simp (disch := omega) only [sb64, sb16, sb4, sb1, ad4, ad1, nIt] at *)
  all_goals (first | omega | grind)
set_option maxHeartbeats 2000000 in
theorem m_isType {σ : xSt} {T : Nat} (hT : σ.1 0 0 = nI T) (hT2 : T ≤ 24) (x : Int32) : isB (fCM_isType σ x) (tyI T x.toInt) := by
  unfold fCM_isType
  repeat' (first
    | refine isB_ite (fun _ => ?_) (fun _ => ?_)
    | refine isB_bind (m_isPlain hT hT2 _) (fun _ => ?_) (fun _ => ?_)
    | apply isB_1
    | apply isB_0)
  all_goals (try simp only [i32eq, i32lt, i32le, tI_m7, tI_m6, tI_m5, tI_m4, tI_m3, tI_m2, tI_m1, tI_0, tI_1, tI_2, tI_3, tI_4, tI_5, tI_6, tI_7, tI_8, tI_9, tI_10, tI_11, tI_12, tI_13, tI_14, tI_15, tI_16, tI_17, tI_18, tI_19, tI_20, tI_21, tI_22, tI_23, tI_24, tI_25, tI_26, tI_27, tI_28, tI_29, tI_30, tI_31, tI_32, tI_33, tI_34, tI_35, tI_36, tI_37, tI_38, tI_39, tI_40, tI_60, tI_61, tI_63, tI_64, tI_96, tI_240, tI_244, tI_576, tI_3600, toI, plI, tyI, vaI] at *)
  all_goals (try simp (disch := omega) only [sb64, sb16, sb4, sb1, ad4, ad1, nIt] at *)
  all_goals (first | omega | grind)
set_option maxHeartbeats 2000000 in
theorem m_isPrimitive {σ : xSt} (x : Int32) : isB (fCM_isPrimitive σ x) (0 ≤ x.toInt ∧ x.toInt < 4) := by
  unfold fCM_isPrimitive
  repeat' (first
    | refine isB_ite (fun _ => ?_) (fun _ => ?_)
    | apply isB_1
    | apply isB_0)
  all_goals (try simp only [i32eq, i32lt, i32le, tI_m7, tI_m6, tI_m5, tI_m4, tI_m3, tI_m2, tI_m1, tI_0, tI_1, tI_2, tI_3, tI_4, tI_5, tI_6, tI_7, tI_8, tI_9, tI_10, tI_11, tI_12, tI_13, tI_14, tI_15, tI_16, tI_17, tI_18, tI_19, tI_20, tI_21, tI_22, tI_23, tI_24, tI_25, tI_26, tI_27, tI_28, tI_29, tI_30, tI_31, tI_32, tI_33, tI_34, tI_35, tI_36, tI_37, tI_38, tI_39, tI_40, tI_60, tI_61, tI_63, tI_64, tI_96, tI_240, tI_244, tI_576, tI_3600] at *)
  all_goals (try simp (disch := omega) only [sb64, sb16, sb4, sb1, ad4, ad1, nIt] at *)
  all_goals (first | omega | grind)
set_option maxHeartbeats 2000000 in
theorem m_isBox {σ : xSt} (x : Int32) : isB (fCM_isBox σ x) (4 ≤ x.toInt ∧ x.toInt < 8) := by
  unfold fCM_isBox
  repeat' (first
    | refine isB_ite (fun _ => ?_) (fun _ => ?_)
    | apply isB_1
    | apply isB_0)
  all_goals (try simp only [i32eq, i32lt, i32le, tI_m7, tI_m6, tI_m5, tI_m4, tI_m3, tI_m2, tI_m1, tI_0, tI_1, tI_2, tI_3, tI_4, tI_5, tI_6, tI_7, tI_8, tI_9, tI_10, tI_11, tI_12, tI_13, tI_14, tI_15, tI_16, tI_17, tI_18, tI_19, tI_20, tI_21, tI_22, tI_23, tI_24, tI_25, tI_26, tI_27, tI_28, tI_29, tI_30, tI_31, tI_32, tI_33, tI_34, tI_35, tI_36, tI_37, tI_38, tI_39, tI_40, tI_60, tI_61, tI_63, tI_64, tI_96, tI_240, tI_244, tI_576, tI_3600] at *)
  all_goals (try simp (disch := omega) only [sb64, sb16, sb4, sb1, ad4, ad1, nIt] at *)
  all_goals (first | omega | grind)
set_option maxHeartbeats 2000000 in
theorem m_isName {σ : xSt} (x : Int32) : isB (fCM_isName σ x) (0 ≤ x.toInt ∧ x.toInt < 16) := by
  unfold fCM_isName
  repeat' (first
    | refine isB_ite (fun _ => ?_) (fun _ => ?_)
    | apply isB_1
    | apply isB_0)
  all_goals (try simp only [i32eq, i32lt, i32le, tI_m7, tI_m6, tI_m5, tI_m4, tI_m3, tI_m2, tI_m1, tI_0, tI_1, tI_2, tI_3, tI_4, tI_5, tI_6, tI_7, tI_8, tI_9, tI_10, tI_11, tI_12, tI_13, tI_14, tI_15, tI_16, tI_17, tI_18, tI_19, tI_20, tI_21, tI_22, tI_23, tI_24, tI_25, tI_26, tI_27, tI_28, tI_29, tI_30, tI_31, tI_32, tI_33, tI_34, tI_35, tI_36, tI_37, tI_38, tI_39, tI_40, tI_60, tI_61, tI_63, tI_64, tI_96, tI_240, tI_244, tI_576, tI_3600] at *)
  all_goals (try simp (disch := omega) only [sb64, sb16, sb4, sb1, ad4, ad1, nIt] at *)
  all_goals (first | omega | grind)
set_option maxHeartbeats 2000000 in
theorem m_isValue {σ : xSt} {T : Nat} (hT : σ.1 0 0 = nI T) (hT2 : T ≤ 24) (x : Int32) : isB (fCM_isValue σ x) (vaI T x.toInt) := by
  unfold fCM_isValue
  repeat' (first
    | refine isB_ite (fun _ => ?_) (fun _ => ?_)
    | refine isB_bind (m_isType hT hT2 _) (fun _ => ?_) (fun _ => ?_)
    | apply isB_1
    | apply isB_0)
  all_goals (try simp only [i32eq, i32lt, i32le, tI_m7, tI_m6, tI_m5, tI_m4, tI_m3, tI_m2, tI_m1, tI_0, tI_1, tI_2, tI_3, tI_4, tI_5, tI_6, tI_7, tI_8, tI_9, tI_10, tI_11, tI_12, tI_13, tI_14, tI_15, tI_16, tI_17, tI_18, tI_19, tI_20, tI_21, tI_22, tI_23, tI_24, tI_25, tI_26, tI_27, tI_28, tI_29, tI_30, tI_31, tI_32, tI_33, tI_34, tI_35, tI_36, tI_37, tI_38, tI_39, tI_40, tI_60, tI_61, tI_63, tI_64, tI_96, tI_240, tI_244, tI_576, tI_3600, toI, plI, tyI, vaI] at *)
  all_goals (try simp (disch := omega) only [sb64, sb16, sb4, sb1, ad4, ad1, nIt] at *)
  all_goals (first | omega | grind)
set_option maxHeartbeats 2000000 in
theorem m_isAsked {σ : xSt} {T : Nat} (hT : σ.1 0 0 = nI T) (hT2 : T ≤ 24) (x y z : Int32) : isB (fCM_isAsked σ x y z) (toI T x.toInt ∧ (0 ≤ y.toInt ∧ y.toInt < 16) ∧ (z.toInt = -1 ∨ toI T z.toInt)) := by
  unfold fCM_isAsked
  repeat' (first
    | refine isB_ite (fun _ => ?_) (fun _ => ?_)
    | refine isB_bind (m_isTold hT hT2 _) (fun _ => ?_) (fun _ => ?_)
    | refine isB_bind (m_isName _) (fun _ => ?_) (fun _ => ?_)
    | apply isB_1
    | apply isB_0)
  all_goals (try simp only [i32eq, i32lt, i32le, tI_m7, tI_m6, tI_m5, tI_m4, tI_m3, tI_m2, tI_m1, tI_0, tI_1, tI_2, tI_3, tI_4, tI_5, tI_6, tI_7, tI_8, tI_9, tI_10, tI_11, tI_12, tI_13, tI_14, tI_15, tI_16, tI_17, tI_18, tI_19, tI_20, tI_21, tI_22, tI_23, tI_24, tI_25, tI_26, tI_27, tI_28, tI_29, tI_30, tI_31, tI_32, tI_33, tI_34, tI_35, tI_36, tI_37, tI_38, tI_39, tI_40, tI_60, tI_61, tI_63, tI_64, tI_96, tI_240, tI_244, tI_576, tI_3600, toI, plI, tyI, vaI] at *)
  all_goals (try simp (disch := omega) only [sb64, sb16, sb4, sb1, ad4, ad1, nIt] at *)
  all_goals (first | omega | grind)
