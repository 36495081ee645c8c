def rl_cls (Rel : xSt → xSt → Prop) : Prop := ∀ (σ τ : xSt) (a0 : Int32), Rel σ τ → ∃ (v : Int32) (σ' : xSt) (τ' : xSt), fC0_cls σ a0 = some (v, σ') ∧ fCM_cls τ a0 = some (v, τ') ∧ Rel σ' τ'
def rl_face (Rel : xSt → xSt → Prop) : Prop := ∀ (σ τ : xSt), Rel σ τ → ∃ (v : Int32) (σ' : xSt) (τ' : xSt), fC0_face σ = some (v, σ') ∧ fCM_face τ = some (v, τ') ∧ Rel σ' τ'
def rl_below (Rel : xSt → xSt → Prop) : Prop := ∀ (σ τ : xSt) (a0 : Int32) (a1 : Int32), Rel σ τ → ∃ (v : Int32) (σ' : xSt) (τ' : xSt), fC0_below σ a0 a1 = some (v, σ') ∧ fCM_below τ a0 a1 = some (v, τ') ∧ Rel σ' τ'
def rl_member (Rel : xSt → xSt → Prop) : Prop := ∀ (σ τ : xSt) (a0 : Int32) (a1 : Int32) (a2 : Int32) (a3 : Int32) (a4 : Int32) (a5 : Int32) (a6 : Int32) (a7 : Int32) (a8 : Int32), Rel σ τ → ∃ (v : Int32) (σ' : xSt) (τ' : xSt), fC0_member σ a0 a1 a2 a3 a4 a5 a6 a7 a8 = some (v, σ') ∧ fCM_member τ a0 a1 a2 a3 a4 a5 a6 a7 a8 = some (v, τ') ∧ Rel σ' τ'
def rl_is (Rel : xSt → xSt → Prop) : Prop := ∀ (σ τ : xSt) (a0 : Int32) (a1 : Int32), Rel σ τ → ∃ (v : Int32), fC0_is σ a0 a1 = some v ∧ fCM_is τ a0 a1 = some v
def rl_fits (Rel : xSt → xSt → Prop) : Prop := ∀ (σ τ : xSt) (a0 : Int32) (a1 : Int32), Rel σ τ → ∃ (v : Int32), fC0_fits σ a0 a1 = some v ∧ fCM_fits τ a0 a1 = some v
def rl_function (Rel : xSt → xSt → Prop) : Prop := ∀ (σ τ : xSt) (a0 : Int32), Rel σ τ → ∃ (v : Int32) (σ' : xSt) (τ' : xSt), fC0_function σ a0 = some (v, σ') ∧ fCM_function τ a0 = some (v, τ') ∧ Rel σ' τ'
def rl_seen (Rel : xSt → xSt → Prop) : Prop := ∀ (σ τ : xSt) (a0 : Int32) (a1 : Int32) (a2 : Int32), Rel σ τ → ∃ (v : Int32) (σ' : xSt), fC0_seen σ a0 a1 a2 = some (v, σ') ∧ fCM_seen τ a0 a1 a2 = some v ∧ Rel σ' τ
def rl_seenAt (Rel : xSt → xSt → Prop) : Prop := ∀ (σ τ : xSt) (a0 : Int32) (a1 : Int32) (a2 : Int32) (a3 : Int32), Rel σ τ → ∃ (v : Int32) (σ' : xSt), fC0_seenAt σ a0 a1 a2 a3 = some (v, σ') ∧ fCM_seenAt τ a0 a1 a2 a3 = some v ∧ Rel σ' τ
def rl_argument (Rel : xSt → xSt → Prop) : Prop := ∀ (σ τ : xSt) (a0 : Int32), Rel σ τ → ∃ (v : Int32) (σ' : xSt) (τ' : xSt), fC0_argument σ a0 = some (v, σ') ∧ fCM_argument τ a0 = some (v, τ') ∧ Rel σ' τ'
def rl_lambda (Rel : xSt → xSt → Prop) : Prop := ∀ (σ τ : xSt) (a0 : Int32) (a1 : Int32) (a2 : Int32) (a3 : Int32) (a4 : Int32), Rel σ τ → ∃ (v : Int32) (σ' : xSt) (τ' : xSt), fC0_lambda σ a0 a1 a2 a3 a4 = some (v, σ') ∧ fCM_lambda τ a0 a1 a2 a3 a4 = some (v, τ') ∧ Rel σ' τ'
def rl_wipe (Rel : xSt → xSt → Prop) : Prop := ∀ (σ τ : xSt), Rel σ τ → ∃ (v : Int32) (σ' : xSt) (τ' : xSt), fC0_wipe σ = some (v, σ') ∧ fCM_wipe τ = some (v, τ') ∧ Rel σ' τ'
def rl_choose (Rel : xSt → xSt → Prop) : Prop := ∀ (σ τ : xSt) (a0 : Int32) (a1 : Int32) (a2 : Int32) (a3 : Int32), Rel σ τ → ∃ (v : Int32) (σ' : xSt) (τ' : xSt), fC0_choose σ a0 a1 a2 a3 = some (v, σ') ∧ fCM_choose τ a0 a1 a2 a3 = some (v, τ') ∧ Rel σ' τ'
def rl_phase (Rel : xSt → xSt → Prop) : Prop := ∀ (σ τ : xSt), Rel σ τ → ∃ (v : Int32), fC0_phase σ = some v ∧ fCM_phase τ = some v
def rl_applied (Rel : xSt → xSt → Prop) : Prop := ∀ (σ τ : xSt) (a0 : Int32), Rel σ τ → ∃ (v : Int32), fC0_applied σ a0 = some v ∧ fCM_applied τ a0 = some v
def rl_special (Rel : xSt → xSt → Prop) : Prop := ∀ (σ τ : xSt) (a0 : Int32) (a1 : Int32), Rel σ τ → ∃ (v : Int32), fC0_special σ a0 a1 = some v ∧ fCM_special τ a0 a1 = some v
def rl_count (Rel : xSt → xSt → Prop) : Prop := ∀ (σ τ : xSt) (a0 : Int32), Rel σ τ → ∃ (v : Int32), fC0_count σ a0 = some v ∧ fCM_count τ a0 = some v
def rl_all (Rel : xSt → xSt → Prop) : Prop := rl_cls Rel ∧ rl_face Rel ∧ rl_below Rel ∧ rl_member Rel ∧ rl_is Rel ∧ rl_fits Rel ∧ rl_function Rel ∧ rl_seen Rel ∧ rl_seenAt Rel ∧ rl_argument Rel ∧ rl_lambda Rel ∧ rl_wipe Rel ∧ rl_choose Rel ∧ rl_phase Rel ∧ rl_applied Rel ∧ rl_special Rel ∧ rl_count Rel
theorem lw_more {n L : Nat} (hn : n ≤ 6000) (hL : L ≤ 5120) (h : ¬ (Int32.ofNat L - (10 : Int32)) < nI n) : n + 10 ≤ L := by
  rcases Nat.lt_or_ge L (n + 10) with q | q
  · exfalso
    apply h
    have e : (Int32.ofNat L - (10 : Int32)).toInt = (L : Int) - 10 := pk_sub_toInt (a := L) (b := 10) (by omega) (by omega)
    rw [Int32.lt_iff_toInt_lt, e, nI_toInt (by omega)]
    omega
  · exact q
theorem lw_out {x : Int32} (h0 : ¬ x = 0) (h1 : ¬ x = 1) (h2 : ¬ x = 2) (h3 : ¬ x = 3) (h4 : ¬ x = 4) (h5 : ¬ x = 5) (h6 : ¬ x = 6) (h7 : ¬ x = 7) (h8 : ¬ x = 8) (h9 : ¬ x = 9) (h10 : ¬ x = 10) (h11 : ¬ x = 11) (h12 : ¬ x = 12) (h13 : ¬ x = 13) (h14 : ¬ x = 14) (h15 : ¬ x = 15) (h16 : ¬ x = 16) : x.toInt < 0 ∨ 16 < x.toInt := by
  rcases Int.lt_or_le x.toInt 0 with q | q
  · exact Or.inl q
  · rcases Int.lt_or_le 16 x.toInt with z | z
    · exact Or.inr z
    · exfalso
      have e : x.toInt = 0 ∨ x.toInt = 1 ∨ x.toInt = 2 ∨ x.toInt = 3 ∨ x.toInt = 4 ∨ x.toInt = 5 ∨ x.toInt = 6 ∨ x.toInt = 7 ∨ x.toInt = 8 ∨ x.toInt = 9 ∨ x.toInt = 10 ∨ x.toInt = 11 ∨ x.toInt = 12 ∨ x.toInt = 13 ∨ x.toInt = 14 ∨ x.toInt = 15 ∨ x.toInt = 16 := by omega
      rcases e with e | e | e | e | e | e | e | e | e | e | e | e | e | e | e | e | e
      · exact h0 (Int32.toInt_inj.mp e)
      · exact h1 (Int32.toInt_inj.mp e)
      · exact h2 (Int32.toInt_inj.mp e)
      · exact h3 (Int32.toInt_inj.mp e)
      · exact h4 (Int32.toInt_inj.mp e)
      · exact h5 (Int32.toInt_inj.mp e)
      · exact h6 (Int32.toInt_inj.mp e)
      · exact h7 (Int32.toInt_inj.mp e)
      · exact h8 (Int32.toInt_inj.mp e)
      · exact h9 (Int32.toInt_inj.mp e)
      · exact h10 (Int32.toInt_inj.mp e)
      · exact h11 (Int32.toInt_inj.mp e)
      · exact h12 (Int32.toInt_inj.mp e)
      · exact h13 (Int32.toInt_inj.mp e)
      · exact h14 (Int32.toInt_inj.mp e)
      · exact h15 (Int32.toInt_inj.mp e)
      · exact h16 (Int32.toInt_inj.mp e)
set_option maxHeartbeats 8000000 in
set_option maxRecDepth 100000 in
theorem law_loop {p : Program} {l : Launch} {e : Env} {s : State} {m : MethodId} {below : List Frame} {meth : Method} {c : Code} {dC : Nat → ClassId} {dI : Nat → Nat → Nat} {ad ad2 : Nat → Nat} {cA cA2 : Nat → ClassId} {b L : Nat} {xs : Nat → Int32} (hL : L ≤ 5120) (C0 : lw_At p s m meth c b L xs) (F : lwF dC dI ad cA ad2 cA2 s) {Rel : xSt → xSt → Prop} (hRel : rl_all Rel) :
    ∀ (k n : Nat), L + 20 ≤ n + k * 10 → n ≤ L + 9 → ∀ (x3 : Int32), x3 = nI n → ∀ (σ τ : xSt), Rel σ τ → ∀ (H : Heap) (locs : List Loc), lwI dC dI ad cA ad2 cA2 s σ τ H locs → ∀ (ls : Array Slot), lv_has ls 4 [(3, .int x3), (2, .ref (ad2 0)), (1, .ref (ad 0)), (0, .ref b)] → W p l e room_1 s m #[Value.ref b] below meth c H locs 600000 7302250 (lw_Z below #[Value.ref b] s) (F0 m 18 ls []) := by
  obtain ⟨hx, hb, hr, hml, hown, hts0, hX, hbl, hlocks, hgv⟩ := id C0
  have hbA : ¬ (fun q : Nat => s.heap.size ≤ q) b := Nat.not_le.mpr hbl
  obtain ⟨q0, q1, q2, q3, q4, q5, q6, q7, q8, q9, q10, q11, q12, q13, q14, q15, q16⟩ := hRel
  intro k
  induction k with
  | zero => intro n h1 h2; exact absurd h1 (by omega)
  | succ k ih =>
    intro n h1 h2 x3 ex3 σ τ hR H locs I ls hl
    have hS := I.2.2
    refine lv_iload_n hx hb dCL_law_18 rfl (lv_at hl 0 rfl) ?_
    refine lv_aload_n hx hb dCL_law_19 rfl (lv_at hl 3 rfl) ?_
    refine va_slen hx hb hX hbl hbA hS dCL_law_20 ?_
    refine lv_bipush (v := (10 : Int32)) hx hb dCL_law_21 (by decide) ?_
    refine lv_isub hx hb dCL_law_23 ?_
    refine lv_icmp_gt (tgt := 731) hx hb dCL_law_24 (by decide) (fun c1 => ?_) (fun c1 => ?_)
    · refine lv_iconst (v := (1 : Int32)) hx hb dCL_law_731 (by decide) ?_
      refine va_forget (fun q hq => hS.2.2 q hq) ?_
      exact lw_ret hx hb hr hlocks dCL_law_732
    · have hn : n + 10 ≤ L := lw_more (by omega) (by omega) (by rw [← ex3]; exact c1)
      refine lv_aload_n hx hb dCL_law_27 rfl (lv_at hl 3 rfl) ?_
      refine lv_iload_n hx hb dCL_law_28 rfl (lv_at hl 0 rfl) ?_
      refine va_sld hx hb hX hbl hbA hS (by rw [ex3]; exact vp_in_nI (by omega) (by omega)) dCL_law_29 ?_
      refine lv_bipush (v := (31 : Int32)) hx hb dCL_law_30 (by decide) ?_
      refine lv_iand hx hb dCL_law_32 ?_
      have next : ∀ (σ τ : xSt), Rel σ τ → ∀ (H : Heap) (locs : List Loc), lwI dC dI ad cA ad2 cA2 s σ τ H locs → W p l e room_1 s m #[Value.ref b] below meth c H locs 600000 7302250 (lw_Z below #[Value.ref b] s) (F0 m 725 ls []) := by
        intro σ τ hR H locs I
        refine lv_iinc (v := x3 + (10 : Int32)) (lv' := [(3, .int (x3 + (10 : Int32))), (2, .ref (ad2 0)), (1, .ref (ad 0)), (0, .ref b)]) hx hb dCL_law_725 hl (k := 0) rfl rfl (by decide) rfl (fun ls hl => ?_)
        refine lv_goto (tgt := 18) hx hb dCL_law_728 (by decide) ?_
        exact ih (n + 10) (by omega) (by omega) _ (by rw [ex3]; exact nI_add n 10) σ τ hR H locs I ls hl
      refine lv_topi (fun w ew => ?_)
      by_cases g0 : w = (0 : Int32)
      · obtain ⟨v, σ', τ', e1, e2, hR2⟩ := q0 σ τ (xs (x3 + (1 : Int32)).toNatClampNeg) hR
        refine lv_tableIn (off := 83) (tgt := 116) hx hb dCL_law_33 (by rw [g0]; decide) (by rw [g0]; decide) (by rw [g0]; rfl) (by decide) ?_
        exact lw_c0 hL C0 F I hn ex3 hl e1 e2 (fun H locs I => next _ _ hR2 H locs I)
      by_cases g1 : w = (1 : Int32)
      · obtain ⟨v, σ', τ', e1, e2, hR2⟩ := q1 σ τ  hR
        refine lv_tableIn (off := 106) (tgt := 139) hx hb dCL_law_33 (by rw [g1]; decide) (by rw [g1]; decide) (by rw [g1]; rfl) (by decide) ?_
        exact lw_c1 hL C0 F I hn ex3 hl e1 e2 (fun H locs I => next _ _ hR2 H locs I)
      by_cases g2 : w = (2 : Int32)
      · obtain ⟨v, σ', τ', e1, e2, hR2⟩ := q2 σ τ (xs (x3 + (1 : Int32)).toNatClampNeg) (xs (x3 + (2 : Int32)).toNatClampNeg) hR
        refine lv_tableIn (off := 119) (tgt := 152) hx hb dCL_law_33 (by rw [g2]; decide) (by rw [g2]; decide) (by rw [g2]; rfl) (by decide) ?_
        exact lw_c2 hL C0 F I hn ex3 hl e1 e2 (fun H locs I => next _ _ hR2 H locs I)
      by_cases g3 : w = (3 : Int32)
      · obtain ⟨v, σ', τ', e1, e2, hR2⟩ := q3 σ τ (xs (x3 + (1 : Int32)).toNatClampNeg) (xs (x3 + (2 : Int32)).toNatClampNeg) (xs (x3 + (3 : Int32)).toNatClampNeg) (xs (x3 + (4 : Int32)).toNatClampNeg) (xs (x3 + (5 : Int32)).toNatClampNeg) (xs (x3 + (6 : Int32)).toNatClampNeg) (xs (x3 + (7 : Int32)).toNatClampNeg) (xs (x3 + (8 : Int32)).toNatClampNeg) (xs (x3 + (9 : Int32)).toNatClampNeg) hR
        refine lv_tableIn (off := 152) (tgt := 185) hx hb dCL_law_33 (by rw [g3]; decide) (by rw [g3]; decide) (by rw [g3]; rfl) (by decide) ?_
        exact lw_c3 hL C0 F I hn ex3 hl e1 e2 (fun H locs I => next _ _ hR2 H locs I)
      by_cases g4 : w = (4 : Int32)
      · obtain ⟨v, e1, e2⟩ := q4 σ τ (xs (x3 + (1 : Int32)).toNatClampNeg) (xs (x3 + (2 : Int32)).toNatClampNeg) hR
        refine lv_tableIn (off := 263) (tgt := 296) hx hb dCL_law_33 (by rw [g4]; decide) (by rw [g4]; decide) (by rw [g4]; rfl) (by decide) ?_
        exact lw_c4 hL C0 F I hn ex3 hl e1 e2 (fun H locs I => next _ _ hR H locs I)
      by_cases g5 : w = (5 : Int32)
      · obtain ⟨v, e1, e2⟩ := q5 σ τ (xs (x3 + (1 : Int32)).toNatClampNeg) (xs (x3 + (2 : Int32)).toNatClampNeg) hR
        refine lv_tableIn (off := 296) (tgt := 329) hx hb dCL_law_33 (by rw [g5]; decide) (by rw [g5]; decide) (by rw [g5]; rfl) (by decide) ?_
        exact lw_c5 hL C0 F I hn ex3 hl e1 e2 (fun H locs I => next _ _ hR H locs I)
      by_cases g6 : w = (6 : Int32)
      · obtain ⟨v, σ', τ', e1, e2, hR2⟩ := q6 σ τ (xs (x3 + (1 : Int32)).toNatClampNeg) hR
        refine lv_tableIn (off := 329) (tgt := 362) hx hb dCL_law_33 (by rw [g6]; decide) (by rw [g6]; decide) (by rw [g6]; rfl) (by decide) ?_
        exact lw_c6 hL C0 F I hn ex3 hl e1 e2 (fun H locs I => next _ _ hR2 H locs I)
      by_cases g7 : w = (7 : Int32)
      · obtain ⟨v, σ', e1, e2, hR2⟩ := q7 σ τ (xs (x3 + (1 : Int32)).toNatClampNeg) (xs (x3 + (2 : Int32)).toNatClampNeg) (xs (x3 + (3 : Int32)).toNatClampNeg) hR
        refine lv_tableIn (off := 352) (tgt := 385) hx hb dCL_law_33 (by rw [g7]; decide) (by rw [g7]; decide) (by rw [g7]; rfl) (by decide) ?_
        exact lw_c7 hL C0 F I hn ex3 hl e1 e2 (fun H locs I => next _ _ hR2 H locs I)
      by_cases g8 : w = (8 : Int32)
      · obtain ⟨v, σ', e1, e2, hR2⟩ := q8 σ τ (xs (x3 + (1 : Int32)).toNatClampNeg) (xs (x3 + (2 : Int32)).toNatClampNeg) (xs (x3 + (3 : Int32)).toNatClampNeg) (xs (x3 + (4 : Int32)).toNatClampNeg) hR
        refine lv_tableIn (off := 395) (tgt := 428) hx hb dCL_law_33 (by rw [g8]; decide) (by rw [g8]; decide) (by rw [g8]; rfl) (by decide) ?_
        exact lw_c8 hL C0 F I hn ex3 hl e1 e2 (fun H locs I => next _ _ hR2 H locs I)
      by_cases g9 : w = (9 : Int32)
      · obtain ⟨v, σ', τ', e1, e2, hR2⟩ := q9 σ τ (xs (x3 + (1 : Int32)).toNatClampNeg) hR
        refine lv_tableIn (off := 448) (tgt := 481) hx hb dCL_law_33 (by rw [g9]; decide) (by rw [g9]; decide) (by rw [g9]; rfl) (by decide) ?_
        exact lw_c9 hL C0 F I hn ex3 hl e1 e2 (fun H locs I => next _ _ hR2 H locs I)
      by_cases g10 : w = (10 : Int32)
      · obtain ⟨v, σ', τ', e1, e2, hR2⟩ := q10 σ τ (xs (x3 + (1 : Int32)).toNatClampNeg) (xs (x3 + (2 : Int32)).toNatClampNeg) (xs (x3 + (3 : Int32)).toNatClampNeg) (xs (x3 + (4 : Int32)).toNatClampNeg) (xs (x3 + (5 : Int32)).toNatClampNeg) hR
        refine lv_tableIn (off := 471) (tgt := 504) hx hb dCL_law_33 (by rw [g10]; decide) (by rw [g10]; decide) (by rw [g10]; rfl) (by decide) ?_
        exact lw_c10 hL C0 F I hn ex3 hl e1 e2 (fun H locs I => next _ _ hR2 H locs I)
      by_cases g11 : w = (11 : Int32)
      · obtain ⟨v, σ', τ', e1, e2, hR2⟩ := q11 σ τ  hR
        refine lv_tableIn (off := 534) (tgt := 567) hx hb dCL_law_33 (by rw [g11]; decide) (by rw [g11]; decide) (by rw [g11]; rfl) (by decide) ?_
        exact lw_c11 hL C0 F I hn ex3 hl e1 e2 (fun H locs I => next _ _ hR2 H locs I)
      by_cases g12 : w = (12 : Int32)
      · obtain ⟨v, σ', τ', e1, e2, hR2⟩ := q12 σ τ (xs (x3 + (1 : Int32)).toNatClampNeg) (xs (x3 + (2 : Int32)).toNatClampNeg) (xs (x3 + (3 : Int32)).toNatClampNeg) (xs (x3 + (4 : Int32)).toNatClampNeg) hR
        refine lv_tableIn (off := 547) (tgt := 580) hx hb dCL_law_33 (by rw [g12]; decide) (by rw [g12]; decide) (by rw [g12]; rfl) (by decide) ?_
        exact lw_c12 hL C0 F I hn ex3 hl e1 e2 (fun H locs I => next _ _ hR2 H locs I)
      by_cases g13 : w = (13 : Int32)
      · obtain ⟨v, e1, e2⟩ := q13 σ τ  hR
        refine lv_tableIn (off := 600) (tgt := 633) hx hb dCL_law_33 (by rw [g13]; decide) (by rw [g13]; decide) (by rw [g13]; rfl) (by decide) ?_
        exact lw_c13 hL C0 F I hn ex3 hl e1 e2 (fun H locs I => next _ _ hR H locs I)
      by_cases g14 : w = (14 : Int32)
      · obtain ⟨v, e1, e2⟩ := q14 σ τ (xs (x3 + (1 : Int32)).toNatClampNeg) hR
        refine lv_tableIn (off := 613) (tgt := 646) hx hb dCL_law_33 (by rw [g14]; decide) (by rw [g14]; decide) (by rw [g14]; rfl) (by decide) ?_
        exact lw_c14 hL C0 F I hn ex3 hl e1 e2 (fun H locs I => next _ _ hR H locs I)
      by_cases g15 : w = (15 : Int32)
      · obtain ⟨v, e1, e2⟩ := q15 σ τ (xs (x3 + (1 : Int32)).toNatClampNeg) (xs (x3 + (2 : Int32)).toNatClampNeg) hR
        refine lv_tableIn (off := 636) (tgt := 669) hx hb dCL_law_33 (by rw [g15]; decide) (by rw [g15]; decide) (by rw [g15]; rfl) (by decide) ?_
        exact lw_c15 hL C0 F I hn ex3 hl e1 e2 (fun H locs I => next _ _ hR H locs I)
      by_cases g16 : w = (16 : Int32)
      · obtain ⟨v, e1, e2⟩ := q16 σ τ (xs (x3 + (1 : Int32)).toNatClampNeg) hR
        refine lv_tableIn (off := 669) (tgt := 702) hx hb dCL_law_33 (by rw [g16]; decide) (by rw [g16]; decide) (by rw [g16]; rfl) (by decide) ?_
        exact lw_c16 hL C0 F I hn ex3 hl e1 e2 (fun H locs I => next _ _ hR H locs I)
      refine lv_tableOut (tgt := 725) hx hb dCL_law_33 (lw_out g0 g1 g2 g3 g4 g5 g6 g7 g8 g9 g10 g11 g12 g13 g14 g15 g16) (by decide) ?_
      exact next σ τ hR H locs I
