abbrev rm_CM_seenAt : Room := { frames := 4, cells := 0, slots := 0, locals := 90 }
def fCM_seenAt_b63 (k19 : Int32 → Int32 → Int32 → Int32 → Int32 → Int32 → Option Int32) (σ : xSt) (x1 : Int32) (x2 : Int32) (x3 : Int32) (x4 : Int32) (x5 : Int32) (x6 : Int32) : Option Int32 :=
  k19 x1 x2 x3 x4 x5 (x6 + (1 : Int32))
set_option maxHeartbeats 4000000 in
set_option maxRecDepth 100000 in
theorem wCM_seenAt_b63 {p : Program} {l : Launch} {e : Env} {s : State} {m : MethodId} {args : Array Value} {below : List Frame} {meth : Method} {c : Code} {Q : State → Prop} {dC : Nat → ClassId} {dI : Nat → Nat → Nat} {ad : Nat → Nat} {cA : Nat → ClassId} {r : Int32} {H : Heap} {locs : List Loc} {σ : xSt} (C : CallFix p m c cCM_seenAt 7 s args wAll RCM) (hK : va_K (dC, dI) vwC (mT cA) s) (hP : va_P (dC, dI) vwC (mW ad cA σ) H) (hend : ∀ (v : Int32) (pc : Nat) (ls : Array Slot), v = r → decode cCM_seenAt pc = .ok (.ireturn, 1) → W p l e rm_CM_seenAt s m args below meth c H locs 0 0 Q (F0 m pc ls [.int v])) {k19 : Int32 → Int32 → Int32 → Int32 → Int32 → Int32 → Option Int32} (hk19 : ∀ (x1 : Int32) (x2 : Int32) (x3 : Int32) (x4 : Int32) (x5 : Int32) (x6 : Int32) (ls : Array Slot), lv_has ls 7 [(0, .ref (ad 0)), (1, .int (x1)), (2, .int (x2)), (3, .int (x3)), (4, .int (x4)), (5, .int (x5)), (6, .int (x6))] → k19 x1 x2 x3 x4 x5 x6 = some r → W p l e rm_CM_seenAt s m args below meth c H locs 0 0 Q (F0 m 19 ls [])) :
    ∀ (x1 : Int32) (x2 : Int32) (x3 : Int32) (x4 : Int32) (x5 : Int32) (x6 : Int32) (ls : Array Slot), lv_has ls 7 [(0, .ref (ad 0)), (1, .int (x1)), (2, .int (x2)), (3, .int (x3)), (4, .int (x4)), (5, .int (x5)), (6, .int (x6))] → fCM_seenAt_b63 k19 σ x1 x2 x3 x4 x5 x6 = some r → W p l e rm_CM_seenAt s m args below meth c H locs 0 0 Q (F0 m 63 ls []) := by
  obtain ⟨hx, hb, hml, hown, hts⟩ := id C
  intro x1 x2 x3 x4 x5 x6 ls hl h
  unfold fCM_seenAt_b63 at h
  refine lv_iinc (v := x6 + (1 : Int32)) (lv' := [(6, .int (x6 + (1 : Int32))), (0, .ref (ad 0)), (1, .int (x1)), (2, .int (x2)), (3, .int (x3)), (4, .int (x4)), (5, .int (x5))]) hx hb dCM_seenAt_63 hl (k := 6) rfl rfl (by decide) rfl (fun ls hl => ?_)
  refine lv_goto (tgt := 19) hx hb dCM_seenAt_66 (by decide) ?_
  exact hk19 _ _ _ _ _ _ _ (lv_sub hl [1, 2, 3, 4, 5, 6, 0] rfl) h
def fCM_seenAt_b19 (σ : xSt) : Nat → Int32 → Int32 → Int32 → Int32 → Int32 → Int32 → Option Int32
  | 0, _, _, _, _, _, _ => none
  | n + 1, x1, x2, x3, x4, x5, x6 =>
    if (σ.1 0 6) ≤ x6 then
      some (-1 : Int32)
    else
      if x6 < 0 ∨ 60 ≤ x6.toNatClampNeg then none else
      if (σ.1 7 x6.toNatClampNeg) = x2 then
        (fCM_isSeen σ x6 x1 x3).bind fun v3 =>
        if v3 = 0 then
          fCM_seenAt_b63 (fCM_seenAt_b19 σ n) σ x1 x2 x3 x4 x5 x6
        else
          if x5 = x4 then
            some x6
          else
            fCM_seenAt_b63 (fCM_seenAt_b19 σ n) σ x1 x2 x3 x4 (x5 + (1 : Int32)) x6
      else
        fCM_seenAt_b63 (fCM_seenAt_b19 σ n) σ x1 x2 x3 x4 x5 x6
set_option maxHeartbeats 4000000 in
set_option maxRecDepth 100000 in
theorem wCM_seenAt_b19 {p : Program} {l : Launch} {e : Env} {s : State} {m : MethodId} {args : Array Value} {below : List Frame} {meth : Method} {c : Code} {Q : State → Prop} {dC : Nat → ClassId} {dI : Nat → Nat → Nat} {ad : Nat → Nat} {cA : Nat → ClassId} {r : Int32} {H : Heap} {locs : List Loc} {σ : xSt} (C : CallFix p m c cCM_seenAt 7 s args wAll RCM) (hK : va_K (dC, dI) vwC (mT cA) s) (hP : va_P (dC, dI) vwC (mW ad cA σ) H) (hend : ∀ (v : Int32) (pc : Nat) (ls : Array Slot), v = r → decode cCM_seenAt pc = .ok (.ireturn, 1) → W p l e rm_CM_seenAt s m args below meth c H locs 0 0 Q (F0 m pc ls [.int v])) :
    ∀ (n : Nat) (x1 : Int32) (x2 : Int32) (x3 : Int32) (x4 : Int32) (x5 : Int32) (x6 : Int32) (ls : Array Slot), lv_has ls 7 [(0, .ref (ad 0)), (1, .int (x1)), (2, .int (x2)), (3, .int (x3)), (4, .int (x4)), (5, .int (x5)), (6, .int (x6))] → fCM_seenAt_b19 σ n x1 x2 x3 x4 x5 x6 = some r → W p l e rm_CM_seenAt s m args below meth c H locs 0 0 Q (F0 m 19 ls []) := by
  obtain ⟨hx, hb, hml, hown, hts⟩ := id C
  intro n
  induction n with
  | zero =>
    intro x1 x2 x3 x4 x5 x6 ls hl h
    rw [fCM_seenAt_b19] at h
    cases h
  | succ n ih =>
    intro x1 x2 x3 x4 x5 x6 ls hl h
    rw [fCM_seenAt_b19] at h
    refine lv_iload hx hb dCM_seenAt_19 (lv_at hl 6 rfl) ?_
    refine lv_aload_n hx hb dCM_seenAt_21 rfl (lv_at hl 0 rfl) ?_
    refine va_get (D := (dC, dI)) (ci := 5) (v := .int (σ.1 0 6)) (C := RCM) (T := TCM) (N := 23) hx hb hts inCM hown hK hP 0 rfl rfl 6 (by decide) (hts _ mw_401) (fun _ h9 => h9) rfl dCM_seenAt_22 ?_
    refine lv_icmp_ge (tgt := 69) hx hb dCM_seenAt_25 (by decide) (fun c7 => ?_) (fun c7 => ?_)
    · have h := (if_pos c7).symm.trans h
      refine lv_iconst (v := (-1 : Int32)) hx hb dCM_seenAt_69 (by decide) ?_
      exact hend _ _ _ (Option.some.inj h) dCM_seenAt_70
    · have h := (if_neg c7).symm.trans h
      refine lv_aload_n hx hb dCM_seenAt_28 rfl (lv_at hl 0 rfl) ?_
      refine va_get (D := (dC, dI)) (ci := 5) (v := .ref (ad 7)) (C := RCM) (T := TCM) (N := 23) hx hb hts inCM hown hK hP 0 rfl rfl 8 (by decide) (hts _ mw_403) (fun _ h9 => h9) rfl dCM_seenAt_29 ?_
      refine lv_iload hx hb dCM_seenAt_32 (lv_at hl 6 rfl) ?_
      obtain ⟨b2, h⟩ := gx_nb h
      refine va_iald hx hb hK hP 7 6 rfl rfl b2 dCM_seenAt_34 ?_
      refine lv_iload_n hx hb dCM_seenAt_35 rfl (lv_at hl 2 rfl) ?_
      refine lv_icmp_ne (tgt := 63) hx hb dCM_seenAt_36 (by decide) (fun c6 => ?_) (fun c6 => ?_)
      · have h := (if_neg c6).symm.trans h
        exact wCM_seenAt_b63 C hK hP hend ih _ _ _ _ _ _ _ (lv_sub hl [0, 1, 2, 3, 4, 5, 6] rfl) h
      · have h := (if_pos c6).symm.trans h
        refine lv_aload_n hx hb dCM_seenAt_39 rfl (lv_at hl 0 rfl) ?_
        refine lv_iload hx hb dCM_seenAt_40 (lv_at hl 6 rfl) ?_
        refine lv_iload_n hx hb dCM_seenAt_42 rfl (lv_at hl 1 rfl) ?_
        refine lv_iload_n hx hb dCM_seenAt_43 rfl (lv_at hl 3 rfl) ?_
        obtain ⟨v3, ev3, h⟩ := Option.bind_eq_some_iff.mp h
        refine gcall_r (b := ad 0) (As := [.int (x6), .int (x1), .int (x3)]) (rest := []) C hK hP (ci := 5) (q0 := 0) rfl rfl (kCM_isSeen l dC dI ad cA σ x6 x1 x3 v3 ev3) (cwV 3 hts (gw mw_426 mw_427 mw_428 mw_363 mw_429) rfl rfl rfl hdCM_isSeen ⟨Nat.le_of_ble_eq_true rfl, Nat.le_of_ble_eq_true rfl⟩) rfl hl.1 rfl (Nat.le_of_ble_eq_true rfl) dCM_seenAt_44 ⟨Nat.le_refl _, Nat.le_refl _⟩ ?_
        refine lv_if_eq (tgt := 63) hx hb dCM_seenAt_47 (by decide) (fun c5 => ?_) (fun c5 => ?_)
        · have h := (if_pos c5).symm.trans h
          exact wCM_seenAt_b63 C hK hP hend ih _ _ _ _ _ _ _ (lv_sub hl [0, 1, 2, 3, 4, 5, 6] rfl) h
        · have h := (if_neg c5).symm.trans h
          refine lv_iload hx hb dCM_seenAt_50 (lv_at hl 5 rfl) ?_
          refine lv_iload hx hb dCM_seenAt_52 (lv_at hl 4 rfl) ?_
          refine lv_icmp_ne (tgt := 60) hx hb dCM_seenAt_54 (by decide) (fun c4 => ?_) (fun c4 => ?_)
          · have h := (if_neg c4).symm.trans h
            refine lv_iinc (v := x5 + (1 : Int32)) (lv' := [(5, .int (x5 + (1 : Int32))), (0, .ref (ad 0)), (1, .int (x1)), (2, .int (x2)), (3, .int (x3)), (4, .int (x4)), (6, .int (x6))]) hx hb dCM_seenAt_60 hl (k := 5) rfl rfl (by decide) rfl (fun ls hl => ?_)
            exact wCM_seenAt_b63 C hK hP hend ih _ _ _ _ _ _ _ (lv_sub hl [1, 2, 3, 4, 5, 0, 6] rfl) h
          · have h := (if_pos c4).symm.trans h
            refine lv_iload hx hb dCM_seenAt_57 (lv_at hl 6 rfl) ?_
            exact hend _ _ _ (Option.some.inj h) dCM_seenAt_59
def fCM_seenAt (σ : xSt) (x1 : Int32) (x2 : Int32) (x3 : Int32) (x4 : Int32) : Option Int32 :=
  (fCM_isAsked σ x1 x2 x3).bind fun v1 =>
  if v1 = 0 then
    some (-2 : Int32)
  else
    fCM_seenAt_b19 σ gF x1 x2 x3 x4 (0 : Int32) (0 : Int32)
set_option maxHeartbeats 4000000 in
set_option maxRecDepth 100000 in
theorem wCM_seenAt {p : Program} {l : Launch} {e : Env} {s : State} {m : MethodId} {args : Array Value} {below : List Frame} {meth : Method} {c : Code} {Q : State → Prop} {dC : Nat → ClassId} {dI : Nat → Nat → Nat} {ad : Nat → Nat} {cA : Nat → ClassId} {r : Int32} {H : Heap} {locs : List Loc} {σ : xSt} (C : CallFix p m c cCM_seenAt 7 s args wAll RCM) (hK : va_K (dC, dI) vwC (mT cA) s) (hP : va_P (dC, dI) vwC (mW ad cA σ) H) (hend : ∀ (v : Int32) (pc : Nat) (ls : Array Slot), v = r → decode cCM_seenAt pc = .ok (.ireturn, 1) → W p l e rm_CM_seenAt s m args below meth c H locs 0 0 Q (F0 m pc ls [.int v])) {x1 : Int32} {x2 : Int32} {x3 : Int32} {x4 : Int32} (ls : Array Slot) (hl : lv_has ls 7 [(0, .ref (ad 0)), (1, .int (x1)), (2, .int (x2)), (3, .int (x3)), (4, .int (x4))]) (h : fCM_seenAt σ x1 x2 x3 x4 = some r) : W p l e rm_CM_seenAt s m args below meth c H locs 0 0 Q (F0 m 0 ls []) := by
  obtain ⟨hx, hb, hml, hown, hts⟩ := id C
  unfold fCM_seenAt at h
  refine lv_aload_n hx hb dCM_seenAt_0 rfl (lv_at hl 0 rfl) ?_
  refine lv_iload_n hx hb dCM_seenAt_1 rfl (lv_at hl 1 rfl) ?_
  refine lv_iload_n hx hb dCM_seenAt_2 rfl (lv_at hl 2 rfl) ?_
  refine lv_iload_n hx hb dCM_seenAt_3 rfl (lv_at hl 3 rfl) ?_
  obtain ⟨v1, ev1, h⟩ := Option.bind_eq_some_iff.mp h
  refine gcall_r (b := ad 0) (As := [.int (x1), .int (x2), .int (x3)]) (rest := []) C hK hP (ci := 5) (q0 := 0) rfl rfl (kCM_isAsked l dC dI ad cA σ x1 x2 x3 v1 ev1) (cwV 3 hts (gw mw_438 mw_439 mw_440 mw_363 mw_441) rfl rfl rfl hdCM_isAsked ⟨Nat.le_of_ble_eq_true rfl, Nat.le_of_ble_eq_true rfl⟩) rfl hl.1 rfl (Nat.le_of_ble_eq_true rfl) dCM_seenAt_4 ⟨Nat.le_refl _, Nat.le_refl _⟩ ?_
  refine lv_if_ne (tgt := 13) hx hb dCM_seenAt_7 (by decide) (fun c8 => ?_) (fun c8 => ?_)
  · have h := (if_neg c8).symm.trans h
    refine lv_iconst (v := (0 : Int32)) hx hb dCM_seenAt_13 (by decide) ?_
    refine lv_istore (lv' := [(5, .int ((0 : Int32))), (0, .ref (ad 0)), (1, .int (x1)), (2, .int (x2)), (3, .int (x3)), (4, .int (x4))]) hx hb dCM_seenAt_14 hl (by decide) rfl (fun ls hl => ?_)
    refine lv_iconst (v := (0 : Int32)) hx hb dCM_seenAt_16 (by decide) ?_
    refine lv_istore (lv' := [(6, .int ((0 : Int32))), (5, .int ((0 : Int32))), (0, .ref (ad 0)), (1, .int (x1)), (2, .int (x2)), (3, .int (x3)), (4, .int (x4))]) hx hb dCM_seenAt_17 hl (by decide) rfl (fun ls hl => ?_)
    exact wCM_seenAt_b19 C hK hP hend _ _ _ _ _ _ _ _ (lv_sub hl [2, 3, 4, 5, 6, 1, 0] rfl) h
  · have h := (if_pos c8).symm.trans h
    refine lv_bipush (v := (-2 : Int32)) hx hb dCM_seenAt_10 (by decide) ?_
    exact hend _ _ _ (Option.some.inj h) dCM_seenAt_12
set_option maxHeartbeats 4000000 in
set_option maxRecDepth 100000 in
theorem kCM_seenAt (l : Launch) (dC : Nat → ClassId) (dI : Nat → Nat → Nat) (ad : Nat → Nat) (cA : Nat → ClassId) (σ : xSt) (x1 : Int32) (x2 : Int32) (x3 : Int32) (x4 : Int32) (r : Int32) (h : fCM_seenAt σ x1 x2 x3 x4 = some r) : Met l yCM_seenAt wsCM_seenAt rm_CM_seenAt (va_Pc [.ref (ad 0), .int (x1), .int (x2), .int (x3), .int (x4)] (fun U => va_P (dC, dI) vwC (mW ad cA σ) U.heap ∧ va_K (dC, dI) vwC (mT cA) U)) (vp_Si (fun v => v = r)) 0 0 (fun _ => False) := by
  refine Met.ofW (cc := cCM_seenAt) (maxL := 7) (ret := (some .int)) (by decide) rfl ?_
  intro p e s m args below meth c s₁ B hml hv
  obtain ⟨rfl, hP, hK⟩ := hv
  have hr := B.returns
  have hlocks := B.notSynchronized
  have hl := lv_entry ([.ref (ad 0), .int (x1), .int (x2), .int (x3), .int (x4)]) (n := 7) (Nat.le_of_ble_eq_true rfl)
  rw [lg_entry_eq]
  exact wCM_seenAt ⟨B.exec, B.bytes, hml, findClass_of_methodNamed B.named, fun w h => atoms_spec (ws := wsCM_seenAt) B.pre w (List.mem_cons_of_mem _ h)⟩ hK hP (fun v pc ls hv hd => W.iret (v := v) B.exec B.bytes hr (fun t ht hW => ⟨v, rfl, hv, ht⟩) (fun q hq => absurd hq List.not_mem_nil) hd) _ hl h
abbrev rm_CM_argument : Room := { frames := 3, cells := 0, slots := 0, locals := 63 }
def fCM_argument (σ : xSt) (x1 : Int32) : Option (Int32 × xSt) :=
  (fCM_isType σ x1).bind fun v1 =>
  if v1 = 0 then
    some ((-2 : Int32), σ)
  else
    if (σ.1 0 13) = (5 : Int32) then
      some ((-2 : Int32), σ)
    else
      if (σ.1 0 13) < 0 ∨ 5 ≤ (σ.1 0 13).toNatClampNeg then none else
      nm (sI σ 12 (σ.1 0 13).toNatClampNeg x1) fun σ3 =>
      if (σ3.1 0 13) < 0 ∨ 5 ≤ (σ3.1 0 13).toNatClampNeg then none else
      nm (sI σ3 13 (σ3.1 0 13).toNatClampNeg (0 : Int32)) fun σ5 =>
      nm (sI σ5 0 13 ((σ5.1 0 13) + (1 : Int32))) fun σ6 =>
      some (σ6.1 0 13, σ6)
set_option maxHeartbeats 4000000 in
set_option maxRecDepth 100000 in
theorem wCM_argument {p : Program} {l : Launch} {e : Env} {s : State} {m : MethodId} {args : Array Value} {below : List Frame} {meth : Method} {c : Code} {Q : State → Prop} {dC : Nat → ClassId} {dI : Nat → Nat → Nat} {ad : Nat → Nat} {cA : Nat → ClassId} {r : (Int32 × xSt)} (C : CallFix p m c cCM_argument 2 s args wAll RCM) (hK : va_K (dC, dI) vwC (mT cA) s) (hend : ∀ (v : Int32) (σ : xSt) (H : Heap) (locs : List Loc) (pc : Nat) (ls : Array Slot), (v, σ) = r → va_P (dC, dI) vwC (mW ad cA σ) H → va_S (mA ad) s.heap H locs → decode cCM_argument pc = .ok (.ireturn, 1) → W p l e rm_CM_argument s m args below meth c H locs 0 0 Q (F0 m pc ls [.int v])) {H : Heap} {locs : List Loc} {σ : xSt} (hP : va_P (dC, dI) vwC (mW ad cA σ) H) (hD : va_D (mA ad) (mW ad cA σ)) (hS : va_S (mA ad) s.heap H locs) {x1 : Int32} (ls : Array Slot) (hl : lv_has ls 2 [(0, .ref (ad 0)), (1, .int (x1))]) (h : fCM_argument σ x1 = some r) : W p l e rm_CM_argument s m args below meth c H locs 0 0 Q (F0 m 0 ls []) := by
  obtain ⟨hx, hb, hml, hown, hts⟩ := id C
  unfold fCM_argument at h
  refine lv_aload_n hx hb dCM_argument_0 rfl (lv_at hl 0 rfl) ?_
  refine lv_iload_n hx hb dCM_argument_1 rfl (lv_at hl 1 rfl) ?_
  obtain ⟨v1, ev1, h⟩ := Option.bind_eq_some_iff.mp h
  refine gcall_r (b := ad 0) (As := [.int (x1)]) (rest := []) C hK hP (ci := 5) (q0 := 0) rfl rfl (kCM_isType l dC dI ad cA σ x1 v1 ev1) (cwV 1 hts (gw mw_379 mw_380 mw_381 mw_363 mw_382) rfl rfl rfl hdCM_isType ⟨Nat.le_of_ble_eq_true rfl, Nat.le_of_ble_eq_true rfl⟩) rfl hl.1 rfl (Nat.le_of_ble_eq_true rfl) dCM_argument_2 ⟨Nat.le_refl _, Nat.le_refl _⟩ ?_
  refine lv_if_eq (tgt := 16) hx hb dCM_argument_5 (by decide) (fun c8 => ?_) (fun c8 => ?_)
  · have h := (if_pos c8).symm.trans h
    refine lv_bipush (v := (-2 : Int32)) hx hb dCM_argument_16 (by decide) ?_
    exact hend _ _ _ _ _ _ (Option.some.inj h) hP hS dCM_argument_18
  · have h := (if_neg c8).symm.trans h
    refine lv_aload_n hx hb dCM_argument_8 rfl (lv_at hl 0 rfl) ?_
    refine va_get (D := (dC, dI)) (ci := 5) (v := .int (σ.1 0 13)) (C := RCM) (T := TCM) (N := 23) hx hb hts inCM hown hK hP 0 rfl rfl 13 (by decide) (hts _ mw_442) (fun _ h9 => h9) rfl dCM_argument_9 ?_
    refine lv_iconst (v := (5 : Int32)) hx hb dCM_argument_12 (by decide) ?_
    refine lv_icmp_ne (tgt := 19) hx hb dCM_argument_13 (by decide) (fun c7 => ?_) (fun c7 => ?_)
    · have h := (if_neg c7).symm.trans h
      refine lv_aload_n hx hb dCM_argument_19 rfl (lv_at hl 0 rfl) ?_
      refine va_get (D := (dC, dI)) (ci := 5) (v := .ref (ad 12)) (C := RCM) (T := TCM) (N := 23) hx hb hts inCM hown hK hP 0 rfl rfl 14 (by decide) (hts _ mw_443) (fun _ h9 => h9) rfl dCM_argument_20 ?_
      refine lv_aload_n hx hb dCM_argument_23 rfl (lv_at hl 0 rfl) ?_
      refine va_get (D := (dC, dI)) (ci := 5) (v := .int (σ.1 0 13)) (C := RCM) (T := TCM) (N := 23) hx hb hts inCM hown hK hP 0 rfl rfl 13 (by decide) (hts _ mw_442) (fun _ h9 => h9) rfl dCM_argument_24 ?_
      refine lv_iload_n hx hb dCM_argument_27 rfl (lv_at hl 1 rfl) ?_
      obtain ⟨b2, h⟩ := gx_nb h
      refine va_iast hx hb hK hP hD hS 12 11 rfl rfl b2 dCM_argument_28 (fun H locs hP hD hS => ?_)
      obtain ⟨σ3, eσ3⟩ : ∃ z, z = sI σ 12 (σ.1 0 13).toNatClampNeg x1 := ⟨_, rfl⟩
      have hP : va_P (dC, dI) vwC (mW ad cA σ3) H := by rw [eσ3]; exact hP
      have hD : va_D (mA ad) (mW ad cA σ3) := by rw [eσ3]; exact hD
      have h := nm_at eσ3 h
      refine lv_aload_n hx hb dCM_argument_29 rfl (lv_at hl 0 rfl) ?_
      refine va_get (D := (dC, dI)) (ci := 5) (v := .ref (ad 13)) (C := RCM) (T := TCM) (N := 23) hx hb hts inCM hown hK hP 0 rfl rfl 15 (by decide) (hts _ mw_444) (fun _ h9 => h9) rfl dCM_argument_30 ?_
      refine lv_aload_n hx hb dCM_argument_33 rfl (lv_at hl 0 rfl) ?_
      refine va_get (D := (dC, dI)) (ci := 5) (v := .int (σ3.1 0 13)) (C := RCM) (T := TCM) (N := 23) hx hb hts inCM hown hK hP 0 rfl rfl 13 (by decide) (hts _ mw_442) (fun _ h9 => h9) rfl dCM_argument_34 ?_
      refine lv_iconst (v := (0 : Int32)) hx hb dCM_argument_37 (by decide) ?_
      obtain ⟨b4, h⟩ := gx_nb h
      refine va_iast hx hb hK hP hD hS 13 12 rfl rfl b4 dCM_argument_38 (fun H locs hP hD hS => ?_)
      obtain ⟨σ5, eσ5⟩ : ∃ z, z = sI σ3 13 (σ3.1 0 13).toNatClampNeg (0 : Int32) := ⟨_, rfl⟩
      have hP : va_P (dC, dI) vwC (mW ad cA σ5) H := by rw [eσ5]; exact hP
      have hD : va_D (mA ad) (mW ad cA σ5) := by rw [eσ5]; exact hD
      have h := nm_at eσ5 h
      refine lv_aload_n hx hb dCM_argument_39 rfl (lv_at hl 0 rfl) ?_
      refine lv_dup hx hb dCM_argument_40 rfl ?_
      refine va_get (D := (dC, dI)) (ci := 5) (v := .int (σ5.1 0 13)) (C := RCM) (T := TCM) (N := 23) hx hb hts inCM hown hK hP 0 rfl rfl 13 (by decide) (hts _ mw_442) (fun _ h9 => h9) rfl dCM_argument_41 ?_
      refine lv_iconst (v := (1 : Int32)) hx hb dCM_argument_44 (by decide) ?_
      refine lv_iadd hx hb dCM_argument_45 ?_
      refine va_put (D := (dC, dI)) (ci := 5) (v := .int ((σ5.1 0 13) + (1 : Int32))) (ty := .int) (C := RCM) (T := TCM) (N := 23) hx hb hts inCM tyCM tyCM_ok nnCM hown hK hP hD hS 0 rfl rfl 13 (by decide) (hts _ mw_442) (fun _ h9 => h9) rfl (by decide +kernel) rfl rfl (Nat.le_of_ble_eq_true rfl) dCM_argument_46 (fun H locs hP hD hS => ?_)
      obtain ⟨σ6, eσ6⟩ : ∃ z, z = sI σ5 0 13 ((σ5.1 0 13) + (1 : Int32)) := ⟨_, rfl⟩
      have hP : va_P (dC, dI) vwC (mW ad cA σ6) H := by rw [eσ6]; exact hP
      have hD : va_D (mA ad) (mW ad cA σ6) := by rw [eσ6]; exact hD
      have h := nm_at eσ6 h
      refine lv_aload_n hx hb dCM_argument_49 rfl (lv_at hl 0 rfl) ?_
      refine va_get (D := (dC, dI)) (ci := 5) (v := .int (σ6.1 0 13)) (C := RCM) (T := TCM) (N := 23) hx hb hts inCM hown hK hP 0 rfl rfl 13 (by decide) (hts _ mw_442) (fun _ h9 => h9) rfl dCM_argument_50 ?_
      exact hend _ _ _ _ _ _ (Option.some.inj h) hP hS dCM_argument_53
    · have h := (if_pos c7).symm.trans h
      refine lv_bipush (v := (-2 : Int32)) hx hb dCM_argument_16 (by decide) ?_
      exact hend _ _ _ _ _ _ (Option.some.inj h) hP hS dCM_argument_18
set_option maxHeartbeats 4000000 in
set_option maxRecDepth 100000 in
theorem kCM_argument (l : Launch) (dC : Nat → ClassId) (dI : Nat → Nat → Nat) (ad : Nat → Nat) (cA : Nat → ClassId) (σ : xSt) (x1 : Int32) (r : (Int32 × xSt)) (h : fCM_argument σ x1 = some r) : Met l yCM_argument wsCM_argument rm_CM_argument (va_Pc [.ref (ad 0), .int (x1)] (fun U => va_P (dC, dI) vwC (mW ad cA σ) U.heap ∧ va_K (dC, dI) vwC (mT cA) U ∧ va_D (mA ad) (mW ad cA σ))) (va_Qi (fun (v : Int32) (u : xSt) => (v, u) = r) (fun u t => va_P (dC, dI) vwC (mW ad cA u) t.heap) (mA ad)) 0 0 (mA ad) := by
  refine Met.ofW (cc := cCM_argument) (maxL := 2) (ret := (some .int)) (by decide) rfl ?_
  intro p e s m args below meth c s₁ B hml hv
  obtain ⟨rfl, hP, hK, hD⟩ := hv
  have hr := B.returns
  have hlocks := B.notSynchronized
  have hl := lv_entry ([.ref (ad 0), .int (x1)]) (n := 2) (Nat.le_of_ble_eq_true rfl)
  rw [lg_entry_eq]
  exact wCM_argument ⟨B.exec, B.bytes, hml, findClass_of_methodNamed B.named, fun w h => atoms_spec (ws := wsCM_argument) B.pre w (List.mem_cons_of_mem _ h)⟩ hK (fun v σ H locs pc ls hv hP hS hd => W.iret (v := v) B.exec B.bytes hr (fun t ht hW => ⟨⟨v, σ, rfl, hv, by show va_P _ _ _ t.heap; rw [ht]; exact hP⟩, hS.F ht⟩) hS.2.2 hd) hP hD va_S.rf _ hl h
abbrev rm_CM_lambda : Room := { frames := 4, cells := 0, slots := 0, locals := 84 }
def fCM_lambda_b78 (σ : xSt) (x1 : Int32) (x2 : Int32) (x3 : Int32) (x4 : Int32) (x5 : Int32) : Option (Int32 × xSt) :=
  if (σ.1 0 13) < 0 ∨ 5 ≤ (σ.1 0 13).toNatClampNeg then none else
  nm (sI σ 13 (σ.1 0 13).toNatClampNeg (x2 + (1 : Int32))) fun σ2 =>
  if (σ2.1 0 13) < 0 ∨ 5 ≤ (σ2.1 0 13).toNatClampNeg then none else
  nm (sI σ2 14 (σ2.1 0 13).toNatClampNeg x1) fun σ4 =>
  if ((2 : Int32) * (σ4.1 0 13)) < 0 ∨ 10 ≤ ((2 : Int32) * (σ4.1 0 13)).toNatClampNeg then none else
  nm (sI σ4 15 ((2 : Int32) * (σ4.1 0 13)).toNatClampNeg x3) fun σ6 =>
  if (((2 : Int32) * (σ6.1 0 13)) + (1 : Int32)) < 0 ∨ 10 ≤ (((2 : Int32) * (σ6.1 0 13)) + (1 : Int32)).toNatClampNeg then none else
  nm (sI σ6 15 (((2 : Int32) * (σ6.1 0 13)) + (1 : Int32)).toNatClampNeg x4) fun σ8 =>
  if (σ8.1 0 13) < 0 ∨ 5 ≤ (σ8.1 0 13).toNatClampNeg then none else
  nm (sI σ8 16 (σ8.1 0 13).toNatClampNeg x5) fun σ10 =>
  nm (sI σ10 0 13 ((σ10.1 0 13) + (1 : Int32))) fun σ11 =>
  some (σ11.1 0 13, σ11)
set_option maxHeartbeats 4000000 in
set_option maxRecDepth 100000 in
theorem wCM_lambda_b78 {p : Program} {l : Launch} {e : Env} {s : State} {m : MethodId} {args : Array Value} {below : List Frame} {meth : Method} {c : Code} {Q : State → Prop} {dC : Nat → ClassId} {dI : Nat → Nat → Nat} {ad : Nat → Nat} {cA : Nat → ClassId} {r : (Int32 × xSt)} (C : CallFix p m c cCM_lambda 6 s args wAll RCM) (hK : va_K (dC, dI) vwC (mT cA) s) (hend : ∀ (v : Int32) (σ : xSt) (H : Heap) (locs : List Loc) (pc : Nat) (ls : Array Slot), (v, σ) = r → va_P (dC, dI) vwC (mW ad cA σ) H → va_S (mA ad) s.heap H locs → decode cCM_lambda pc = .ok (.ireturn, 1) → W p l e rm_CM_lambda s m args below meth c H locs 0 0 Q (F0 m pc ls [.int v])) :
    ∀ (σ : xSt) (H : Heap) (locs : List Loc) (x1 : Int32) (x2 : Int32) (x3 : Int32) (x4 : Int32) (x5 : Int32) (ls : Array Slot), va_P (dC, dI) vwC (mW ad cA σ) H → va_D (mA ad) (mW ad cA σ) → va_S (mA ad) s.heap H locs → lv_has ls 6 [(0, .ref (ad 0)), (1, .int (x1)), (2, .int (x2)), (3, .int (x3)), (4, .int (x4)), (5, .int (x5))] → fCM_lambda_b78 σ x1 x2 x3 x4 x5 = some r → W p l e rm_CM_lambda s m args below meth c H locs 0 0 Q (F0 m 78 ls []) := by
  obtain ⟨hx, hb, hml, hown, hts⟩ := id C
  intro σ H locs x1 x2 x3 x4 x5 ls hP hD hS hl h
  unfold fCM_lambda_b78 at h
  refine lv_aload_n hx hb dCM_lambda_78 rfl (lv_at hl 0 rfl) ?_
  refine va_get (D := (dC, dI)) (ci := 5) (v := .ref (ad 13)) (C := RCM) (T := TCM) (N := 23) hx hb hts inCM hown hK hP 0 rfl rfl 15 (by decide) (hts _ mw_444) (fun _ h9 => h9) rfl dCM_lambda_79 ?_
  refine lv_aload_n hx hb dCM_lambda_82 rfl (lv_at hl 0 rfl) ?_
  refine va_get (D := (dC, dI)) (ci := 5) (v := .int (σ.1 0 13)) (C := RCM) (T := TCM) (N := 23) hx hb hts inCM hown hK hP 0 rfl rfl 13 (by decide) (hts _ mw_442) (fun _ h9 => h9) rfl dCM_lambda_83 ?_
  refine lv_iload_n hx hb dCM_lambda_86 rfl (lv_at hl 2 rfl) ?_
  refine lv_iconst (v := (1 : Int32)) hx hb dCM_lambda_87 (by decide) ?_
  refine lv_iadd hx hb dCM_lambda_88 ?_
  obtain ⟨b1, h⟩ := gx_nb h
  refine va_iast hx hb hK hP hD hS 13 12 rfl rfl b1 dCM_lambda_89 (fun H locs hP hD hS => ?_)
  obtain ⟨σ2, eσ2⟩ : ∃ z, z = sI σ 13 (σ.1 0 13).toNatClampNeg (x2 + (1 : Int32)) := ⟨_, rfl⟩
  have hP : va_P (dC, dI) vwC (mW ad cA σ2) H := by rw [eσ2]; exact hP
  have hD : va_D (mA ad) (mW ad cA σ2) := by rw [eσ2]; exact hD
  have h := nm_at eσ2 h
  refine lv_aload_n hx hb dCM_lambda_90 rfl (lv_at hl 0 rfl) ?_
  refine va_get (D := (dC, dI)) (ci := 5) (v := .ref (ad 14)) (C := RCM) (T := TCM) (N := 23) hx hb hts inCM hown hK hP 0 rfl rfl 16 (by decide) (hts _ mw_445) (fun _ h9 => h9) rfl dCM_lambda_91 ?_
  refine lv_aload_n hx hb dCM_lambda_94 rfl (lv_at hl 0 rfl) ?_
  refine va_get (D := (dC, dI)) (ci := 5) (v := .int (σ2.1 0 13)) (C := RCM) (T := TCM) (N := 23) hx hb hts inCM hown hK hP 0 rfl rfl 13 (by decide) (hts _ mw_442) (fun _ h9 => h9) rfl dCM_lambda_95 ?_
  refine lv_iload_n hx hb dCM_lambda_98 rfl (lv_at hl 1 rfl) ?_
  obtain ⟨b3, h⟩ := gx_nb h
  refine va_iast hx hb hK hP hD hS 14 13 rfl rfl b3 dCM_lambda_99 (fun H locs hP hD hS => ?_)
  obtain ⟨σ4, eσ4⟩ : ∃ z, z = sI σ2 14 (σ2.1 0 13).toNatClampNeg x1 := ⟨_, rfl⟩
  have hP : va_P (dC, dI) vwC (mW ad cA σ4) H := by rw [eσ4]; exact hP
  have hD : va_D (mA ad) (mW ad cA σ4) := by rw [eσ4]; exact hD
  have h := nm_at eσ4 h
  refine lv_aload_n hx hb dCM_lambda_100 rfl (lv_at hl 0 rfl) ?_
  refine va_get (D := (dC, dI)) (ci := 5) (v := .ref (ad 15)) (C := RCM) (T := TCM) (N := 23) hx hb hts inCM hown hK hP 0 rfl rfl 17 (by decide) (hts _ mw_446) (fun _ h9 => h9) rfl dCM_lambda_101 ?_
  refine lv_iconst (v := (2 : Int32)) hx hb dCM_lambda_104 (by decide) ?_
  refine lv_aload_n hx hb dCM_lambda_105 rfl (lv_at hl 0 rfl) ?_
  refine va_get (D := (dC, dI)) (ci := 5) (v := .int (σ4.1 0 13)) (C := RCM) (T := TCM) (N := 23) hx hb hts inCM hown hK hP 0 rfl rfl 13 (by decide) (hts _ mw_442) (fun _ h9 => h9) rfl dCM_lambda_106 ?_
  refine lv_imul hx hb dCM_lambda_109 ?_
  refine lv_iload_n hx hb dCM_lambda_110 rfl (lv_at hl 3 rfl) ?_
  obtain ⟨b5, h⟩ := gx_nb h
  refine va_iast hx hb hK hP hD hS 15 14 rfl rfl b5 dCM_lambda_111 (fun H locs hP hD hS => ?_)
  obtain ⟨σ6, eσ6⟩ : ∃ z, z = sI σ4 15 ((2 : Int32) * (σ4.1 0 13)).toNatClampNeg x3 := ⟨_, rfl⟩
  have hP : va_P (dC, dI) vwC (mW ad cA σ6) H := by rw [eσ6]; exact hP
  have hD : va_D (mA ad) (mW ad cA σ6) := by rw [eσ6]; exact hD
  have h := nm_at eσ6 h
  refine lv_aload_n hx hb dCM_lambda_112 rfl (lv_at hl 0 rfl) ?_
  refine va_get (D := (dC, dI)) (ci := 5) (v := .ref (ad 15)) (C := RCM) (T := TCM) (N := 23) hx hb hts inCM hown hK hP 0 rfl rfl 17 (by decide) (hts _ mw_446) (fun _ h9 => h9) rfl dCM_lambda_113 ?_
  refine lv_iconst (v := (2 : Int32)) hx hb dCM_lambda_116 (by decide) ?_
  refine lv_aload_n hx hb dCM_lambda_117 rfl (lv_at hl 0 rfl) ?_
  refine va_get (D := (dC, dI)) (ci := 5) (v := .int (σ6.1 0 13)) (C := RCM) (T := TCM) (N := 23) hx hb hts inCM hown hK hP 0 rfl rfl 13 (by decide) (hts _ mw_442) (fun _ h9 => h9) rfl dCM_lambda_118 ?_
  refine lv_imul hx hb dCM_lambda_121 ?_
  refine lv_iconst (v := (1 : Int32)) hx hb dCM_lambda_122 (by decide) ?_
  refine lv_iadd hx hb dCM_lambda_123 ?_
  refine lv_iload hx hb dCM_lambda_124 (lv_at hl 4 rfl) ?_
  obtain ⟨b7, h⟩ := gx_nb h
  refine va_iast hx hb hK hP hD hS 15 14 rfl rfl b7 dCM_lambda_126 (fun H locs hP hD hS => ?_)
  obtain ⟨σ8, eσ8⟩ : ∃ z, z = sI σ6 15 (((2 : Int32) * (σ6.1 0 13)) + (1 : Int32)).toNatClampNeg x4 := ⟨_, rfl⟩
  have hP : va_P (dC, dI) vwC (mW ad cA σ8) H := by rw [eσ8]; exact hP
  have hD : va_D (mA ad) (mW ad cA σ8) := by rw [eσ8]; exact hD
  have h := nm_at eσ8 h
  refine lv_aload_n hx hb dCM_lambda_127 rfl (lv_at hl 0 rfl) ?_
  refine va_get (D := (dC, dI)) (ci := 5) (v := .ref (ad 16)) (C := RCM) (T := TCM) (N := 23) hx hb hts inCM hown hK hP 0 rfl rfl 18 (by decide) (hts _ mw_447) (fun _ h9 => h9) rfl dCM_lambda_128 ?_
  refine lv_aload_n hx hb dCM_lambda_131 rfl (lv_at hl 0 rfl) ?_
  refine va_get (D := (dC, dI)) (ci := 5) (v := .int (σ8.1 0 13)) (C := RCM) (T := TCM) (N := 23) hx hb hts inCM hown hK hP 0 rfl rfl 13 (by decide) (hts _ mw_442) (fun _ h9 => h9) rfl dCM_lambda_132 ?_
  refine lv_iload hx hb dCM_lambda_135 (lv_at hl 5 rfl) ?_
  obtain ⟨b9, h⟩ := gx_nb h
  refine va_iast hx hb hK hP hD hS 16 15 rfl rfl b9 dCM_lambda_137 (fun H locs hP hD hS => ?_)
  obtain ⟨σ10, eσ10⟩ : ∃ z, z = sI σ8 16 (σ8.1 0 13).toNatClampNeg x5 := ⟨_, rfl⟩
  have hP : va_P (dC, dI) vwC (mW ad cA σ10) H := by rw [eσ10]; exact hP
  have hD : va_D (mA ad) (mW ad cA σ10) := by rw [eσ10]; exact hD
  have h := nm_at eσ10 h
  refine lv_aload_n hx hb dCM_lambda_138 rfl (lv_at hl 0 rfl) ?_
  refine lv_dup hx hb dCM_lambda_139 rfl ?_
  refine va_get (D := (dC, dI)) (ci := 5) (v := .int (σ10.1 0 13)) (C := RCM) (T := TCM) (N := 23) hx hb hts inCM hown hK hP 0 rfl rfl 13 (by decide) (hts _ mw_442) (fun _ h9 => h9) rfl dCM_lambda_140 ?_
  refine lv_iconst (v := (1 : Int32)) hx hb dCM_lambda_143 (by decide) ?_
  refine lv_iadd hx hb dCM_lambda_144 ?_
  refine va_put (D := (dC, dI)) (ci := 5) (v := .int ((σ10.1 0 13) + (1 : Int32))) (ty := .int) (C := RCM) (T := TCM) (N := 23) hx hb hts inCM tyCM tyCM_ok nnCM hown hK hP hD hS 0 rfl rfl 13 (by decide) (hts _ mw_442) (fun _ h9 => h9) rfl (by decide +kernel) rfl rfl (Nat.le_of_ble_eq_true rfl) dCM_lambda_145 (fun H locs hP hD hS => ?_)
  obtain ⟨σ11, eσ11⟩ : ∃ z, z = sI σ10 0 13 ((σ10.1 0 13) + (1 : Int32)) := ⟨_, rfl⟩
  have hP : va_P (dC, dI) vwC (mW ad cA σ11) H := by rw [eσ11]; exact hP
  have hD : va_D (mA ad) (mW ad cA σ11) := by rw [eσ11]; exact hD
  have h := nm_at eσ11 h
  refine lv_aload_n hx hb dCM_lambda_148 rfl (lv_at hl 0 rfl) ?_
  refine va_get (D := (dC, dI)) (ci := 5) (v := .int (σ11.1 0 13)) (C := RCM) (T := TCM) (N := 23) hx hb hts inCM hown hK hP 0 rfl rfl 13 (by decide) (hts _ mw_442) (fun _ h9 => h9) rfl dCM_lambda_149 ?_
  exact hend _ _ _ _ _ _ (Option.some.inj h) hP hS dCM_lambda_152
def fCM_lambda_b61 (σ : xSt) (x1 : Int32) (x2 : Int32) (x3 : Int32) (x4 : Int32) (x5 : Int32) : Option (Int32 × xSt) :=
  if x1 ≤ (1 : Int32) then
    fCM_lambda_b78 σ x1 x2 x3 x4 x5
  else
    (fCM_isValue σ x4).bind fun v12 =>
    if v12 = 0 then
      some ((-2 : Int32), σ)
    else
      fCM_lambda_b78 σ x1 x2 x3 x4 x5
set_option maxHeartbeats 4000000 in
set_option maxRecDepth 100000 in
theorem wCM_lambda_b61 {p : Program} {l : Launch} {e : Env} {s : State} {m : MethodId} {args : Array Value} {below : List Frame} {meth : Method} {c : Code} {Q : State → Prop} {dC : Nat → ClassId} {dI : Nat → Nat → Nat} {ad : Nat → Nat} {cA : Nat → ClassId} {r : (Int32 × xSt)} (C : CallFix p m c cCM_lambda 6 s args wAll RCM) (hK : va_K (dC, dI) vwC (mT cA) s) (hend : ∀ (v : Int32) (σ : xSt) (H : Heap) (locs : List Loc) (pc : Nat) (ls : Array Slot), (v, σ) = r → va_P (dC, dI) vwC (mW ad cA σ) H → va_S (mA ad) s.heap H locs → decode cCM_lambda pc = .ok (.ireturn, 1) → W p l e rm_CM_lambda s m args below meth c H locs 0 0 Q (F0 m pc ls [.int v])) :
    ∀ (σ : xSt) (H : Heap) (locs : List Loc) (x1 : Int32) (x2 : Int32) (x3 : Int32) (x4 : Int32) (x5 : Int32) (ls : Array Slot), va_P (dC, dI) vwC (mW ad cA σ) H → va_D (mA ad) (mW ad cA σ) → va_S (mA ad) s.heap H locs → lv_has ls 6 [(0, .ref (ad 0)), (1, .int (x1)), (2, .int (x2)), (3, .int (x3)), (4, .int (x4)), (5, .int (x5))] → fCM_lambda_b61 σ x1 x2 x3 x4 x5 = some r → W p l e rm_CM_lambda s m args below meth c H locs 0 0 Q (F0 m 61 ls []) := by
  obtain ⟨hx, hb, hml, hown, hts⟩ := id C
  intro σ H locs x1 x2 x3 x4 x5 ls hP hD hS hl h
  unfold fCM_lambda_b61 at h
  refine lv_iload_n hx hb dCM_lambda_61 rfl (lv_at hl 1 rfl) ?_
  refine lv_iconst (v := (1 : Int32)) hx hb dCM_lambda_62 (by decide) ?_
  refine lv_icmp_le (tgt := 78) hx hb dCM_lambda_63 (by decide) (fun c14 => ?_) (fun c14 => ?_)
  · have h := (if_pos c14).symm.trans h
    exact wCM_lambda_b78 C hK hend _ _ _ _ _ _ _ _ _ hP hD hS (lv_sub hl [0, 1, 2, 3, 4, 5] rfl) h
  · have h := (if_neg c14).symm.trans h
    refine lv_aload_n hx hb dCM_lambda_66 rfl (lv_at hl 0 rfl) ?_
    refine lv_iload hx hb dCM_lambda_67 (lv_at hl 4 rfl) ?_
    obtain ⟨v12, ev12, h⟩ := Option.bind_eq_some_iff.mp h
    refine gcall_r (b := ad 0) (As := [.int (x4)]) (rest := []) C hK hP (ci := 5) (q0 := 0) rfl rfl (kCM_isValue l dC dI ad cA σ x4 v12 ev12) (cwV 1 hts (gw mw_411 mw_412 mw_413 mw_363 mw_414) rfl rfl rfl hdCM_isValue ⟨Nat.le_of_ble_eq_true rfl, Nat.le_of_ble_eq_true rfl⟩) rfl hl.1 rfl (Nat.le_of_ble_eq_true rfl) dCM_lambda_69 ⟨Nat.le_refl _, Nat.le_refl _⟩ ?_
    refine lv_if_ne (tgt := 78) hx hb dCM_lambda_72 (by decide) (fun c13 => ?_) (fun c13 => ?_)
    · have h := (if_neg c13).symm.trans h
      exact wCM_lambda_b78 C hK hend _ _ _ _ _ _ _ _ _ hP hD hS (lv_sub hl [0, 1, 2, 3, 4, 5] rfl) h
    · have h := (if_pos c13).symm.trans h
      refine lv_bipush (v := (-2 : Int32)) hx hb dCM_lambda_75 (by decide) ?_
      exact hend _ _ _ _ _ _ (Option.some.inj h) hP hS dCM_lambda_77
def fCM_lambda_b33 (σ : xSt) (x1 : Int32) (x2 : Int32) (x3 : Int32) (x4 : Int32) (x5 : Int32) : Option (Int32 × xSt) :=
  if (σ.1 0 13) = (5 : Int32) then
    some ((-2 : Int32), σ)
  else
    if x2 = (1 : Int32) then
      if x1 ≤ 0 then
        fCM_lambda_b61 σ x1 x2 x3 x4 x5
      else
        (fCM_isValue σ x3).bind fun v15 =>
        if v15 = 0 then
          some ((-2 : Int32), σ)
        else
          fCM_lambda_b61 σ x1 x2 x3 x4 x5
    else
      fCM_lambda_b78 σ x1 x2 x3 x4 x5
set_option maxHeartbeats 4000000 in
set_option maxRecDepth 100000 in
theorem wCM_lambda_b33 {p : Program} {l : Launch} {e : Env} {s : State} {m : MethodId} {args : Array Value} {below : List Frame} {meth : Method} {c : Code} {Q : State → Prop} {dC : Nat → ClassId} {dI : Nat → Nat → Nat} {ad : Nat → Nat} {cA : Nat → ClassId} {r : (Int32 × xSt)} (C : CallFix p m c cCM_lambda 6 s args wAll RCM) (hK : va_K (dC, dI) vwC (mT cA) s) (hend : ∀ (v : Int32) (σ : xSt) (H : Heap) (locs : List Loc) (pc : Nat) (ls : Array Slot), (v, σ) = r → va_P (dC, dI) vwC (mW ad cA σ) H → va_S (mA ad) s.heap H locs → decode cCM_lambda pc = .ok (.ireturn, 1) → W p l e rm_CM_lambda s m args below meth c H locs 0 0 Q (F0 m pc ls [.int v])) :
    ∀ (σ : xSt) (H : Heap) (locs : List Loc) (x1 : Int32) (x2 : Int32) (x3 : Int32) (x4 : Int32) (x5 : Int32) (ls : Array Slot), va_P (dC, dI) vwC (mW ad cA σ) H → va_D (mA ad) (mW ad cA σ) → va_S (mA ad) s.heap H locs → lv_has ls 6 [(0, .ref (ad 0)), (1, .int (x1)), (2, .int (x2)), (3, .int (x3)), (4, .int (x4)), (5, .int (x5))] → fCM_lambda_b33 σ x1 x2 x3 x4 x5 = some r → W p l e rm_CM_lambda s m args below meth c H locs 0 0 Q (F0 m 33 ls []) := by
  obtain ⟨hx, hb, hml, hown, hts⟩ := id C
  intro σ H locs x1 x2 x3 x4 x5 ls hP hD hS hl h
  unfold fCM_lambda_b33 at h
  refine lv_aload_n hx hb dCM_lambda_33 rfl (lv_at hl 0 rfl) ?_
  refine va_get (D := (dC, dI)) (ci := 5) (v := .int (σ.1 0 13)) (C := RCM) (T := TCM) (N := 23) hx hb hts inCM hown hK hP 0 rfl rfl 13 (by decide) (hts _ mw_442) (fun _ h9 => h9) rfl dCM_lambda_34 ?_
  refine lv_iconst (v := (5 : Int32)) hx hb dCM_lambda_37 (by decide) ?_
  refine lv_icmp_ne (tgt := 44) hx hb dCM_lambda_38 (by decide) (fun c19 => ?_) (fun c19 => ?_)
  · have h := (if_neg c19).symm.trans h
    refine lv_iload_n hx hb dCM_lambda_44 rfl (lv_at hl 2 rfl) ?_
    refine lv_iconst (v := (1 : Int32)) hx hb dCM_lambda_45 (by decide) ?_
    refine lv_icmp_ne (tgt := 78) hx hb dCM_lambda_46 (by decide) (fun c18 => ?_) (fun c18 => ?_)
    · have h := (if_neg c18).symm.trans h
      exact wCM_lambda_b78 C hK hend _ _ _ _ _ _ _ _ _ hP hD hS (lv_sub hl [0, 1, 2, 3, 4, 5] rfl) h
    · have h := (if_pos c18).symm.trans h
      refine lv_iload_n hx hb dCM_lambda_49 rfl (lv_at hl 1 rfl) ?_
      refine lv_if_le (tgt := 61) hx hb dCM_lambda_50 (by decide) (fun c17 => ?_) (fun c17 => ?_)
      · have h := (if_pos c17).symm.trans h
        exact wCM_lambda_b61 C hK hend _ _ _ _ _ _ _ _ _ hP hD hS (lv_sub hl [0, 1, 2, 3, 4, 5] rfl) h
      · have h := (if_neg c17).symm.trans h
        refine lv_aload_n hx hb dCM_lambda_53 rfl (lv_at hl 0 rfl) ?_
        refine lv_iload_n hx hb dCM_lambda_54 rfl (lv_at hl 3 rfl) ?_
        obtain ⟨v15, ev15, h⟩ := Option.bind_eq_some_iff.mp h
        refine gcall_r (b := ad 0) (As := [.int (x3)]) (rest := []) C hK hP (ci := 5) (q0 := 0) rfl rfl (kCM_isValue l dC dI ad cA σ x3 v15 ev15) (cwV 1 hts (gw mw_411 mw_412 mw_413 mw_363 mw_414) rfl rfl rfl hdCM_isValue ⟨Nat.le_of_ble_eq_true rfl, Nat.le_of_ble_eq_true rfl⟩) rfl hl.1 rfl (Nat.le_of_ble_eq_true rfl) dCM_lambda_55 ⟨Nat.le_refl _, Nat.le_refl _⟩ ?_
        refine lv_if_eq (tgt := 75) hx hb dCM_lambda_58 (by decide) (fun c16 => ?_) (fun c16 => ?_)
        · have h := (if_pos c16).symm.trans h
          refine lv_bipush (v := (-2 : Int32)) hx hb dCM_lambda_75 (by decide) ?_
          exact hend _ _ _ _ _ _ (Option.some.inj h) hP hS dCM_lambda_77
        · have h := (if_neg c16).symm.trans h
          exact wCM_lambda_b61 C hK hend _ _ _ _ _ _ _ _ _ hP hD hS (lv_sub hl [0, 1, 2, 3, 4, 5] rfl) h
  · have h := (if_pos c19).symm.trans h
    refine lv_bipush (v := (-2 : Int32)) hx hb dCM_lambda_41 (by decide) ?_
    exact hend _ _ _ _ _ _ (Option.some.inj h) hP hS dCM_lambda_43
def fCM_lambda (σ : xSt) (x1 : Int32) (x2 : Int32) (x3 : Int32) (x4 : Int32) (x5 : Int32) : Option (Int32 × xSt) :=
  if x1 < 0 then
    some ((-2 : Int32), σ)
  else
    if (2 : Int32) < x1 then
      some ((-2 : Int32), σ)
    else
      if x2 < 0 then
        some ((-2 : Int32), σ)
      else
        if (1 : Int32) < x2 then
          some ((-2 : Int32), σ)
        else
          if x5 = (-1 : Int32) then
            fCM_lambda_b33 σ x1 x2 x3 x4 x5
          else
            (fCM_isValue σ x5).bind fun v20 =>
            if v20 = 0 then
              some ((-2 : Int32), σ)
            else
              fCM_lambda_b33 σ x1 x2 x3 x4 x5
set_option maxHeartbeats 4000000 in
set_option maxRecDepth 100000 in
theorem wCM_lambda {p : Program} {l : Launch} {e : Env} {s : State} {m : MethodId} {args : Array Value} {below : List Frame} {meth : Method} {c : Code} {Q : State → Prop} {dC : Nat → ClassId} {dI : Nat → Nat → Nat} {ad : Nat → Nat} {cA : Nat → ClassId} {r : (Int32 × xSt)} (C : CallFix p m c cCM_lambda 6 s args wAll RCM) (hK : va_K (dC, dI) vwC (mT cA) s) (hend : ∀ (v : Int32) (σ : xSt) (H : Heap) (locs : List Loc) (pc : Nat) (ls : Array Slot), (v, σ) = r → va_P (dC, dI) vwC (mW ad cA σ) H → va_S (mA ad) s.heap H locs → decode cCM_lambda pc = .ok (.ireturn, 1) → W p l e rm_CM_lambda s m args below meth c H locs 0 0 Q (F0 m pc ls [.int v])) {H : Heap} {locs : List Loc} {σ : xSt} (hP : va_P (dC, dI) vwC (mW ad cA σ) H) (hD : va_D (mA ad) (mW ad cA σ)) (hS : va_S (mA ad) s.heap H locs) {x1 : Int32} {x2 : Int32} {x3 : Int32} {x4 : Int32} {x5 : Int32} (ls : Array Slot) (hl : lv_has ls 6 [(0, .ref (ad 0)), (1, .int (x1)), (2, .int (x2)), (3, .int (x3)), (4, .int (x4)), (5, .int (x5))]) (h : fCM_lambda σ x1 x2 x3 x4 x5 = some r) : W p l e rm_CM_lambda s m args below meth c H locs 0 0 Q (F0 m 0 ls []) := by
  obtain ⟨hx, hb, hml, hown, hts⟩ := id C
  unfold fCM_lambda at h
  refine lv_iload_n hx hb dCM_lambda_0 rfl (lv_at hl 1 rfl) ?_
  refine lv_if_lt (tgt := 41) hx hb dCM_lambda_1 (by decide) (fun c26 => ?_) (fun c26 => ?_)
  · have h := (if_pos c26).symm.trans h
    refine lv_bipush (v := (-2 : Int32)) hx hb dCM_lambda_41 (by decide) ?_
    exact hend _ _ _ _ _ _ (Option.some.inj h) hP hS dCM_lambda_43
  · have h := (if_neg c26).symm.trans h
    refine lv_iload_n hx hb dCM_lambda_4 rfl (lv_at hl 1 rfl) ?_
    refine lv_iconst (v := (2 : Int32)) hx hb dCM_lambda_5 (by decide) ?_
    refine lv_icmp_gt (tgt := 41) hx hb dCM_lambda_6 (by decide) (fun c25 => ?_) (fun c25 => ?_)
    · have h := (if_pos c25).symm.trans h
      refine lv_bipush (v := (-2 : Int32)) hx hb dCM_lambda_41 (by decide) ?_
      exact hend _ _ _ _ _ _ (Option.some.inj h) hP hS dCM_lambda_43
    · have h := (if_neg c25).symm.trans h
      refine lv_iload_n hx hb dCM_lambda_9 rfl (lv_at hl 2 rfl) ?_
      refine lv_if_lt (tgt := 41) hx hb dCM_lambda_10 (by decide) (fun c24 => ?_) (fun c24 => ?_)
      · have h := (if_pos c24).symm.trans h
        refine lv_bipush (v := (-2 : Int32)) hx hb dCM_lambda_41 (by decide) ?_
        exact hend _ _ _ _ _ _ (Option.some.inj h) hP hS dCM_lambda_43
      · have h := (if_neg c24).symm.trans h
        refine lv_iload_n hx hb dCM_lambda_13 rfl (lv_at hl 2 rfl) ?_
        refine lv_iconst (v := (1 : Int32)) hx hb dCM_lambda_14 (by decide) ?_
        refine lv_icmp_gt (tgt := 41) hx hb dCM_lambda_15 (by decide) (fun c23 => ?_) (fun c23 => ?_)
        · have h := (if_pos c23).symm.trans h
          refine lv_bipush (v := (-2 : Int32)) hx hb dCM_lambda_41 (by decide) ?_
          exact hend _ _ _ _ _ _ (Option.some.inj h) hP hS dCM_lambda_43
        · have h := (if_neg c23).symm.trans h
          refine lv_iload hx hb dCM_lambda_18 (lv_at hl 5 rfl) ?_
          refine lv_iconst (v := (-1 : Int32)) hx hb dCM_lambda_20 (by decide) ?_
          refine lv_icmp_eq (tgt := 33) hx hb dCM_lambda_21 (by decide) (fun c22 => ?_) (fun c22 => ?_)
          · have h := (if_pos c22).symm.trans h
            exact wCM_lambda_b33 C hK hend _ _ _ _ _ _ _ _ _ hP hD hS (lv_sub hl [0, 1, 2, 3, 4, 5] rfl) h
          · have h := (if_neg c22).symm.trans h
            refine lv_aload_n hx hb dCM_lambda_24 rfl (lv_at hl 0 rfl) ?_
            refine lv_iload hx hb dCM_lambda_25 (lv_at hl 5 rfl) ?_
            obtain ⟨v20, ev20, h⟩ := Option.bind_eq_some_iff.mp h
            refine gcall_r (b := ad 0) (As := [.int (x5)]) (rest := []) C hK hP (ci := 5) (q0 := 0) rfl rfl (kCM_isValue l dC dI ad cA σ x5 v20 ev20) (cwV 1 hts (gw mw_411 mw_412 mw_413 mw_363 mw_414) rfl rfl rfl hdCM_isValue ⟨Nat.le_of_ble_eq_true rfl, Nat.le_of_ble_eq_true rfl⟩) rfl hl.1 rfl (Nat.le_of_ble_eq_true rfl) dCM_lambda_27 ⟨Nat.le_refl _, Nat.le_refl _⟩ ?_
            refine lv_if_eq (tgt := 41) hx hb dCM_lambda_30 (by decide) (fun c21 => ?_) (fun c21 => ?_)
            · have h := (if_pos c21).symm.trans h
              refine lv_bipush (v := (-2 : Int32)) hx hb dCM_lambda_41 (by decide) ?_
              exact hend _ _ _ _ _ _ (Option.some.inj h) hP hS dCM_lambda_43
            · have h := (if_neg c21).symm.trans h
              exact wCM_lambda_b33 C hK hend _ _ _ _ _ _ _ _ _ hP hD hS (lv_sub hl [0, 1, 2, 3, 4, 5] rfl) h
set_option maxHeartbeats 4000000 in
set_option maxRecDepth 100000 in
theorem kCM_lambda (l : Launch) (dC : Nat → ClassId) (dI : Nat → Nat → Nat) (ad : Nat → Nat) (cA : Nat → ClassId) (σ : xSt) (x1 : Int32) (x2 : Int32) (x3 : Int32) (x4 : Int32) (x5 : Int32) (r : (Int32 × xSt)) (h : fCM_lambda σ x1 x2 x3 x4 x5 = some r) : Met l yCM_lambda wsCM_lambda rm_CM_lambda (va_Pc [.ref (ad 0), .int (x1), .int (x2), .int (x3), .int (x4), .int (x5)] (fun U => va_P (dC, dI) vwC (mW ad cA σ) U.heap ∧ va_K (dC, dI) vwC (mT cA) U ∧ va_D (mA ad) (mW ad cA σ))) (va_Qi (fun (v : Int32) (u : xSt) => (v, u) = r) (fun u t => va_P (dC, dI) vwC (mW ad cA u) t.heap) (mA ad)) 0 0 (mA ad) := by
  refine Met.ofW (cc := cCM_lambda) (maxL := 6) (ret := (some .int)) (by decide) rfl ?_
  intro p e s m args below meth c s₁ B hml hv
  obtain ⟨rfl, hP, hK, hD⟩ := hv
  have hr := B.returns
  have hlocks := B.notSynchronized
  have hl := lv_entry ([.ref (ad 0), .int (x1), .int (x2), .int (x3), .int (x4), .int (x5)]) (n := 6) (Nat.le_of_ble_eq_true rfl)
  rw [lg_entry_eq]
  exact wCM_lambda ⟨B.exec, B.bytes, hml, findClass_of_methodNamed B.named, fun w h => atoms_spec (ws := wsCM_lambda) B.pre w (List.mem_cons_of_mem _ h)⟩ hK (fun v σ H locs pc ls hv hP hS hd => W.iret (v := v) B.exec B.bytes hr (fun t ht hW => ⟨⟨v, σ, rfl, hv, by show va_P _ _ _ t.heap; rw [ht]; exact hP⟩, hS.F ht⟩) hS.2.2 hd) hP hD va_S.rf _ hl h
abbrev rm_CM_wipe : Room := { frames := 0, cells := 0, slots := 0, locals := 0 }
def fCM_wipe (σ : xSt) : Option (Int32 × xSt) :=
  nm (σ.1 0 13) fun y1 =>
  nm (sI σ 0 13 (0 : Int32)) fun σ2 =>
  some (y1, σ2)
set_option maxHeartbeats 4000000 in
set_option maxRecDepth 100000 in
theorem wCM_wipe {p : Program} {l : Launch} {e : Env} {s : State} {m : MethodId} {args : Array Value} {below : List Frame} {meth : Method} {c : Code} {Q : State → Prop} {dC : Nat → ClassId} {dI : Nat → Nat → Nat} {ad : Nat → Nat} {cA : Nat → ClassId} {r : (Int32 × xSt)} (C : CallFix p m c cCM_wipe 2 s args wAll RCM) (hK : va_K (dC, dI) vwC (mT cA) s) (hend : ∀ (v : Int32) (σ : xSt) (H : Heap) (locs : List Loc) (pc : Nat) (ls : Array Slot), (v, σ) = r → va_P (dC, dI) vwC (mW ad cA σ) H → va_S (mA ad) s.heap H locs → decode cCM_wipe pc = .ok (.ireturn, 1) → W p l e rm_CM_wipe s m args below meth c H locs 0 0 Q (F0 m pc ls [.int v])) {H : Heap} {locs : List Loc} {σ : xSt} (hP : va_P (dC, dI) vwC (mW ad cA σ) H) (hD : va_D (mA ad) (mW ad cA σ)) (hS : va_S (mA ad) s.heap H locs) (ls : Array Slot) (hl : lv_has ls 2 [(0, .ref (ad 0))]) (h : fCM_wipe σ = some r) : W p l e rm_CM_wipe s m args below meth c H locs 0 0 Q (F0 m 0 ls []) := by
  obtain ⟨hx, hb, hml, hown, hts⟩ := id C
  unfold fCM_wipe at h
  refine lv_aload_n hx hb dCM_wipe_0 rfl (lv_at hl 0 rfl) ?_
  refine va_get (D := (dC, dI)) (ci := 5) (v := .int (σ.1 0 13)) (C := RCM) (T := TCM) (N := 23) hx hb hts inCM hown hK hP 0 rfl rfl 13 (by decide) (hts _ mw_442) (fun _ h9 => h9) rfl dCM_wipe_1 ?_
  refine lv_topi (fun y1 ey1 => ?_)
  have h := nm_at ey1 h
  refine lv_istore_n (lv' := [(1, .int (y1)), (0, .ref (ad 0))]) hx hb dCM_wipe_4 rfl hl (by decide) rfl (fun ls hl => ?_)
  refine lv_aload_n hx hb dCM_wipe_5 rfl (lv_at hl 1 rfl) ?_
  refine lv_iconst (v := (0 : Int32)) hx hb dCM_wipe_6 (by decide) ?_
  refine va_put (D := (dC, dI)) (ci := 5) (v := .int ((0 : Int32))) (ty := .int) (C := RCM) (T := TCM) (N := 23) hx hb hts inCM tyCM tyCM_ok nnCM hown hK hP hD hS 0 rfl rfl 13 (by decide) (hts _ mw_442) (fun _ h9 => h9) rfl (by decide +kernel) rfl rfl (Nat.le_of_ble_eq_true rfl) dCM_wipe_7 (fun H locs hP hD hS => ?_)
  obtain ⟨σ2, eσ2⟩ : ∃ z, z = sI σ 0 13 (0 : Int32) := ⟨_, rfl⟩
  have hP : va_P (dC, dI) vwC (mW ad cA σ2) H := by rw [eσ2]; exact hP
  have hD : va_D (mA ad) (mW ad cA σ2) := by rw [eσ2]; exact hD
  have h := nm_at eσ2 h
  refine lv_iload_n hx hb dCM_wipe_10 rfl (lv_at hl 0 rfl) ?_
  exact hend _ _ _ _ _ _ (Option.some.inj h) hP hS dCM_wipe_11
set_option maxHeartbeats 4000000 in
set_option maxRecDepth 100000 in
theorem kCM_wipe (l : Launch) (dC : Nat → ClassId) (dI : Nat → Nat → Nat) (ad : Nat → Nat) (cA : Nat → ClassId) (σ : xSt) (r : (Int32 × xSt)) (h : fCM_wipe σ = some r) : Met l yCM_wipe wsCM_wipe rm_CM_wipe (va_Pc [.ref (ad 0)] (fun U => va_P (dC, dI) vwC (mW ad cA σ) U.heap ∧ va_K (dC, dI) vwC (mT cA) U ∧ va_D (mA ad) (mW ad cA σ))) (va_Qi (fun (v : Int32) (u : xSt) => (v, u) = r) (fun u t => va_P (dC, dI) vwC (mW ad cA u) t.heap) (mA ad)) 0 0 (mA ad) := by
  refine Met.ofW (cc := cCM_wipe) (maxL := 2) (ret := (some .int)) (by decide) rfl ?_
  intro p e s m args below meth c s₁ B hml hv
  obtain ⟨rfl, hP, hK, hD⟩ := hv
  have hr := B.returns
  have hlocks := B.notSynchronized
  have hl := lv_entry ([.ref (ad 0)]) (n := 2) (Nat.le_of_ble_eq_true rfl)
  rw [lg_entry_eq]
  exact wCM_wipe ⟨B.exec, B.bytes, hml, findClass_of_methodNamed B.named, fun w h => atoms_spec (ws := wsCM_wipe) B.pre w (List.mem_cons_of_mem _ h)⟩ hK (fun v σ H locs pc ls hv hP hS hd => W.iret (v := v) B.exec B.bytes hr (fun t ht hW => ⟨⟨v, σ, rfl, hv, by show va_P _ _ _ t.heap; rw [ht]; exact hP⟩, hS.F ht⟩) hS.2.2 hd) hP hD va_S.rf _ hl h
abbrev rm_CM_mostSpecial : Room := { frames := 1, cells := 0, slots := 0, locals := 24 }
def fCM_mostSpecial_b169 (k15 : Int32 → Int32 → Int32 → Int32 → Int32 → Int32 → Option Int32) (σ : xSt) (x1 : Int32) (x2 : Int32) (x3 : Int32) (x4 : Int32) (x5 : Int32) (x6 : Int32) : Option Int32 :=
  k15 x1 x2 x3 x4 x5 (x6 + (1 : Int32))
set_option maxHeartbeats 4000000 in
set_option maxRecDepth 100000 in
theorem wCM_mostSpecial_b169 {p : Program} {l : Launch} {e : Env} {s : State} {m : MethodId} {args : Array Value} {below : List Frame} {meth : Method} {c : Code} {Q : State → Prop} {dC : Nat → ClassId} {dI : Nat → Nat → Nat} {ad : Nat → Nat} {cA : Nat → ClassId} {r : Int32} {H : Heap} {locs : List Loc} {σ : xSt} (C : CallFix p m c cCM_mostSpecial 9 s args wAll RCM) (hK : va_K (dC, dI) vwC (mT cA) s) (hP : va_P (dC, dI) vwC (mW ad cA σ) H) (hend : ∀ (v : Int32) (pc : Nat) (ls : Array Slot), v = r → decode cCM_mostSpecial pc = .ok (.ireturn, 1) → W p l e rm_CM_mostSpecial s m args below meth c H locs 0 0 Q (F0 m pc ls [.int v])) {k15 : Int32 → Int32 → Int32 → Int32 → Int32 → Int32 → Option Int32} (hk15 : ∀ (x1 : Int32) (x2 : Int32) (x3 : Int32) (x4 : Int32) (x5 : Int32) (x6 : Int32) (ls : Array Slot), lv_has ls 9 [(0, .ref (ad 0)), (1, .int (x1)), (2, .int (x2)), (3, .int (x3)), (4, .int (x4)), (5, .int (x5)), (6, .int (x6))] → k15 x1 x2 x3 x4 x5 x6 = some r → W p l e rm_CM_mostSpecial s m args below meth c H locs 0 0 Q (F0 m 15 ls [])) :
    ∀ (x1 : Int32) (x2 : Int32) (x3 : Int32) (x4 : Int32) (x5 : Int32) (x6 : Int32) (ls : Array Slot), lv_has ls 9 [(0, .ref (ad 0)), (1, .int (x1)), (2, .int (x2)), (3, .int (x3)), (4, .int (x4)), (5, .int (x5)), (6, .int (x6))] → fCM_mostSpecial_b169 k15 σ x1 x2 x3 x4 x5 x6 = some r → W p l e rm_CM_mostSpecial s m args below meth c H locs 0 0 Q (F0 m 169 ls []) := by
  obtain ⟨hx, hb, hml, hown, hts⟩ := id C
  intro x1 x2 x3 x4 x5 x6 ls hl h
  unfold fCM_mostSpecial_b169 at h
  refine lv_iinc (v := x6 + (1 : Int32)) (lv' := [(6, .int (x6 + (1 : Int32))), (0, .ref (ad 0)), (1, .int (x1)), (2, .int (x2)), (3, .int (x3)), (4, .int (x4)), (5, .int (x5))]) hx hb dCM_mostSpecial_169 hl (k := 6) rfl rfl (by decide) rfl (fun ls hl => ?_)
  refine lv_goto (tgt := 15) hx hb dCM_mostSpecial_172 (by decide) ?_
  exact hk15 _ _ _ _ _ _ _ (lv_sub hl [1, 2, 3, 4, 5, 6, 0] rfl) h
def fCM_mostSpecial_b164 (k15 : Int32 → Int32 → Int32 → Int32 → Int32 → Int32 → Option Int32) (σ : xSt) (x1 : Int32) (x2 : Int32) (x4 : Int32) (x5 : Int32) (x6 : Int32) (s0 : Int32) (s1 : Int32) : Option Int32 :=
  nm (s0 + s1) fun y9 =>
  fCM_mostSpecial_b169 k15 σ x1 x2 y9 (x4 + (1 : Int32)) x5 x6
set_option maxHeartbeats 4000000 in
set_option maxRecDepth 100000 in
theorem wCM_mostSpecial_b164 {p : Program} {l : Launch} {e : Env} {s : State} {m : MethodId} {args : Array Value} {below : List Frame} {meth : Method} {c : Code} {Q : State → Prop} {dC : Nat → ClassId} {dI : Nat → Nat → Nat} {ad : Nat → Nat} {cA : Nat → ClassId} {r : Int32} {H : Heap} {locs : List Loc} {σ : xSt} (C : CallFix p m c cCM_mostSpecial 9 s args wAll RCM) (hK : va_K (dC, dI) vwC (mT cA) s) (hP : va_P (dC, dI) vwC (mW ad cA σ) H) (hend : ∀ (v : Int32) (pc : Nat) (ls : Array Slot), v = r → decode cCM_mostSpecial pc = .ok (.ireturn, 1) → W p l e rm_CM_mostSpecial s m args below meth c H locs 0 0 Q (F0 m pc ls [.int v])) {k15 : Int32 → Int32 → Int32 → Int32 → Int32 → Int32 → Option Int32} (hk15 : ∀ (x1 : Int32) (x2 : Int32) (x3 : Int32) (x4 : Int32) (x5 : Int32) (x6 : Int32) (ls : Array Slot), lv_has ls 9 [(0, .ref (ad 0)), (1, .int (x1)), (2, .int (x2)), (3, .int (x3)), (4, .int (x4)), (5, .int (x5)), (6, .int (x6))] → k15 x1 x2 x3 x4 x5 x6 = some r → W p l e rm_CM_mostSpecial s m args below meth c H locs 0 0 Q (F0 m 15 ls [])) :
    ∀ (x1 : Int32) (x2 : Int32) (x4 : Int32) (x5 : Int32) (x6 : Int32) (s0 : Int32) (s1 : Int32) (ls : Array Slot), lv_has ls 9 [(0, .ref (ad 0)), (1, .int (x1)), (2, .int (x2)), (4, .int (x4)), (5, .int (x5)), (6, .int (x6))] → fCM_mostSpecial_b164 k15 σ x1 x2 x4 x5 x6 s0 s1 = some r → W p l e rm_CM_mostSpecial s m args below meth c H locs 0 0 Q (F0 m 164 ls [.int (s1), .int (s0)]) := by
  obtain ⟨hx, hb, hml, hown, hts⟩ := id C
  intro x1 x2 x4 x5 x6 s0 s1 ls hl h
  unfold fCM_mostSpecial_b164 at h
  refine lv_iadd hx hb dCM_mostSpecial_164 ?_
  refine lv_topi (fun y9 ey9 => ?_)
  have h := nm_at ey9 h
  refine lv_istore_n (lv' := [(3, .int (y9)), (0, .ref (ad 0)), (1, .int (x1)), (2, .int (x2)), (4, .int (x4)), (5, .int (x5)), (6, .int (x6))]) hx hb dCM_mostSpecial_165 rfl hl (by decide) rfl (fun ls hl => ?_)
  refine lv_iinc (v := x4 + (1 : Int32)) (lv' := [(4, .int (x4 + (1 : Int32))), (3, .int (y9)), (0, .ref (ad 0)), (1, .int (x1)), (2, .int (x2)), (5, .int (x5)), (6, .int (x6))]) hx hb dCM_mostSpecial_166 hl (k := 4) rfl rfl (by decide) rfl (fun ls hl => ?_)
  exact wCM_mostSpecial_b169 C hK hP hend hk15 _ _ _ _ _ _ _ (lv_sub hl [2, 3, 4, 1, 0, 5, 6] rfl) h
def fCM_mostSpecial_b147 (k15 : Int32 → Int32 → Int32 → Int32 → Int32 → Int32 → Option Int32) (σ : xSt) (x1 : Int32) (x3 : Int32) (x4 : Int32) (x5 : Int32) (x6 : Int32) (s0 : Int32) : Option Int32 :=
  (fCM_has σ x6 (4 : Int32)).bind fun v8 =>
  if v8 = 0 then
    fCM_mostSpecial_b164 k15 σ x1 s0 x4 x5 x6 x3 (1 : Int32)
  else
    fCM_mostSpecial_b164 k15 σ x1 s0 x4 x5 x6 x3 (0 : Int32)
set_option maxHeartbeats 4000000 in
set_option maxRecDepth 100000 in
theorem wCM_mostSpecial_b147 {p : Program} {l : Launch} {e : Env} {s : State} {m : MethodId} {args : Array Value} {below : List Frame} {meth : Method} {c : Code} {Q : State → Prop} {dC : Nat → ClassId} {dI : Nat → Nat → Nat} {ad : Nat → Nat} {cA : Nat → ClassId} {r : Int32} {H : Heap} {locs : List Loc} {σ : xSt} (C : CallFix p m c cCM_mostSpecial 9 s args wAll RCM) (hK : va_K (dC, dI) vwC (mT cA) s) (hP : va_P (dC, dI) vwC (mW ad cA σ) H) (hend : ∀ (v : Int32) (pc : Nat) (ls : Array Slot), v = r → decode cCM_mostSpecial pc = .ok (.ireturn, 1) → W p l e rm_CM_mostSpecial s m args below meth c H locs 0 0 Q (F0 m pc ls [.int v])) {k15 : Int32 → Int32 → Int32 → Int32 → Int32 → Int32 → Option Int32} (hk15 : ∀ (x1 : Int32) (x2 : Int32) (x3 : Int32) (x4 : Int32) (x5 : Int32) (x6 : Int32) (ls : Array Slot), lv_has ls 9 [(0, .ref (ad 0)), (1, .int (x1)), (2, .int (x2)), (3, .int (x3)), (4, .int (x4)), (5, .int (x5)), (6, .int (x6))] → k15 x1 x2 x3 x4 x5 x6 = some r → W p l e rm_CM_mostSpecial s m args below meth c H locs 0 0 Q (F0 m 15 ls [])) :
    ∀ (x1 : Int32) (x3 : Int32) (x4 : Int32) (x5 : Int32) (x6 : Int32) (s0 : Int32) (ls : Array Slot), lv_has ls 9 [(0, .ref (ad 0)), (1, .int (x1)), (3, .int (x3)), (4, .int (x4)), (5, .int (x5)), (6, .int (x6))] → fCM_mostSpecial_b147 k15 σ x1 x3 x4 x5 x6 s0 = some r → W p l e rm_CM_mostSpecial s m args below meth c H locs 0 0 Q (F0 m 147 ls [.int (s0)]) := by
  obtain ⟨hx, hb, hml, hown, hts⟩ := id C
  intro x1 x3 x4 x5 x6 s0 ls hl h
  unfold fCM_mostSpecial_b147 at h
  refine lv_istore_n (lv' := [(2, .int (s0)), (0, .ref (ad 0)), (1, .int (x1)), (3, .int (x3)), (4, .int (x4)), (5, .int (x5)), (6, .int (x6))]) hx hb dCM_mostSpecial_147 rfl hl (by decide) rfl (fun ls hl => ?_)
  refine lv_iload_n hx hb dCM_mostSpecial_148 rfl (lv_at hl 3 rfl) ?_
  refine lv_aload_n hx hb dCM_mostSpecial_149 rfl (lv_at hl 1 rfl) ?_
  refine lv_iload hx hb dCM_mostSpecial_150 (lv_at hl 6 rfl) ?_
  refine lv_iconst (v := (4 : Int32)) hx hb dCM_mostSpecial_152 (by decide) ?_
  obtain ⟨v8, ev8, h⟩ := Option.bind_eq_some_iff.mp h
  refine gcall_r (b := ad 0) (As := [.int (x6), .int ((4 : Int32))]) (rest := [.int (x3)]) C hK hP (ci := 5) (q0 := 0) rfl rfl (kCM_has l dC dI ad cA σ x6 (4 : Int32) v8 ev8) (cwV 2 hts (gw mw_418 mw_419 mw_420 mw_363 mw_421) rfl rfl rfl hdCM_has ⟨Nat.le_of_ble_eq_true rfl, Nat.le_of_ble_eq_true rfl⟩) rfl hl.1 rfl (Nat.le_of_ble_eq_true rfl) dCM_mostSpecial_153 ⟨Nat.le_refl _, Nat.le_refl _⟩ ?_
  refine lv_if_eq (tgt := 163) hx hb dCM_mostSpecial_156 (by decide) (fun c10 => ?_) (fun c10 => ?_)
  · have h := (if_pos c10).symm.trans h
    refine lv_iconst (v := (1 : Int32)) hx hb dCM_mostSpecial_163 (by decide) ?_
    exact wCM_mostSpecial_b164 C hK hP hend hk15 _ _ _ _ _ _ _ _ (lv_sub hl [1, 2, 0, 4, 5, 6] rfl) h
  · have h := (if_neg c10).symm.trans h
    refine lv_iconst (v := (0 : Int32)) hx hb dCM_mostSpecial_159 (by decide) ?_
    refine lv_goto (tgt := 164) hx hb dCM_mostSpecial_160 (by decide) ?_
    exact wCM_mostSpecial_b164 C hK hP hend hk15 _ _ _ _ _ _ _ _ (lv_sub hl [1, 2, 0, 4, 5, 6] rfl) h
def fCM_mostSpecial_b130 (k15 : Int32 → Int32 → Int32 → Int32 → Int32 → Int32 → Option Int32) (σ : xSt) (x2 : Int32) (x3 : Int32) (x4 : Int32) (x5 : Int32) (x6 : Int32) (s0 : Int32) : Option Int32 :=
  (fCM_has σ x6 (4 : Int32)).bind fun v7 =>
  if v7 = 0 then
    fCM_mostSpecial_b147 k15 σ s0 x3 x4 x5 x6 x6
  else
    fCM_mostSpecial_b147 k15 σ s0 x3 x4 x5 x6 x2
set_option maxHeartbeats 4000000 in
set_option maxRecDepth 100000 in
theorem wCM_mostSpecial_b130 {p : Program} {l : Launch} {e : Env} {s : State} {m : MethodId} {args : Array Value} {below : List Frame} {meth : Method} {c : Code} {Q : State → Prop} {dC : Nat → ClassId} {dI : Nat → Nat → Nat} {ad : Nat → Nat} {cA : Nat → ClassId} {r : Int32} {H : Heap} {locs : List Loc} {σ : xSt} (C : CallFix p m c cCM_mostSpecial 9 s args wAll RCM) (hK : va_K (dC, dI) vwC (mT cA) s) (hP : va_P (dC, dI) vwC (mW ad cA σ) H) (hend : ∀ (v : Int32) (pc : Nat) (ls : Array Slot), v = r → decode cCM_mostSpecial pc = .ok (.ireturn, 1) → W p l e rm_CM_mostSpecial s m args below meth c H locs 0 0 Q (F0 m pc ls [.int v])) {k15 : Int32 → Int32 → Int32 → Int32 → Int32 → Int32 → Option Int32} (hk15 : ∀ (x1 : Int32) (x2 : Int32) (x3 : Int32) (x4 : Int32) (x5 : Int32) (x6 : Int32) (ls : Array Slot), lv_has ls 9 [(0, .ref (ad 0)), (1, .int (x1)), (2, .int (x2)), (3, .int (x3)), (4, .int (x4)), (5, .int (x5)), (6, .int (x6))] → k15 x1 x2 x3 x4 x5 x6 = some r → W p l e rm_CM_mostSpecial s m args below meth c H locs 0 0 Q (F0 m 15 ls [])) :
    ∀ (x2 : Int32) (x3 : Int32) (x4 : Int32) (x5 : Int32) (x6 : Int32) (s0 : Int32) (ls : Array Slot), lv_has ls 9 [(0, .ref (ad 0)), (2, .int (x2)), (3, .int (x3)), (4, .int (x4)), (5, .int (x5)), (6, .int (x6))] → fCM_mostSpecial_b130 k15 σ x2 x3 x4 x5 x6 s0 = some r → W p l e rm_CM_mostSpecial s m args below meth c H locs 0 0 Q (F0 m 130 ls [.int (s0)]) := by
  obtain ⟨hx, hb, hml, hown, hts⟩ := id C
  intro x2 x3 x4 x5 x6 s0 ls hl h
  unfold fCM_mostSpecial_b130 at h
  refine lv_istore_n (lv' := [(1, .int (s0)), (0, .ref (ad 0)), (2, .int (x2)), (3, .int (x3)), (4, .int (x4)), (5, .int (x5)), (6, .int (x6))]) hx hb dCM_mostSpecial_130 rfl hl (by decide) rfl (fun ls hl => ?_)
  refine lv_aload_n hx hb dCM_mostSpecial_131 rfl (lv_at hl 1 rfl) ?_
  refine lv_iload hx hb dCM_mostSpecial_132 (lv_at hl 6 rfl) ?_
  refine lv_iconst (v := (4 : Int32)) hx hb dCM_mostSpecial_134 (by decide) ?_
  obtain ⟨v7, ev7, h⟩ := Option.bind_eq_some_iff.mp h
  refine gcall_r (b := ad 0) (As := [.int (x6), .int ((4 : Int32))]) (rest := []) C hK hP (ci := 5) (q0 := 0) rfl rfl (kCM_has l dC dI ad cA σ x6 (4 : Int32) v7 ev7) (cwV 2 hts (gw mw_418 mw_419 mw_420 mw_363 mw_421) rfl rfl rfl hdCM_has ⟨Nat.le_of_ble_eq_true rfl, Nat.le_of_ble_eq_true rfl⟩) rfl hl.1 rfl (Nat.le_of_ble_eq_true rfl) dCM_mostSpecial_135 ⟨Nat.le_refl _, Nat.le_refl _⟩ ?_
  refine lv_if_eq (tgt := 145) hx hb dCM_mostSpecial_138 (by decide) (fun c11 => ?_) (fun c11 => ?_)
  · have h := (if_pos c11).symm.trans h
    refine lv_iload hx hb dCM_mostSpecial_145 (lv_at hl 6 rfl) ?_
    exact wCM_mostSpecial_b147 C hK hP hend hk15 _ _ _ _ _ _ _ (lv_sub hl [1, 0, 3, 4, 5, 6] rfl) h
  · have h := (if_neg c11).symm.trans h
    refine lv_iload_n hx hb dCM_mostSpecial_141 rfl (lv_at hl 2 rfl) ?_
    refine lv_goto (tgt := 147) hx hb dCM_mostSpecial_142 (by decide) ?_
    exact wCM_mostSpecial_b147 C hK hP hend hk15 _ _ _ _ _ _ _ (lv_sub hl [1, 0, 3, 4, 5, 6] rfl) h
def fCM_mostSpecial_b118 (k15 : Int32 → Int32 → Int32 → Int32 → Int32 → Int32 → Option Int32) (σ : xSt) (x1 : Int32) (x2 : Int32) (x3 : Int32) (x4 : Int32) (x6 : Int32) (s0 : Int32) : Option Int32 :=
  if 0 ≤ x1 then
    fCM_mostSpecial_b130 k15 σ x2 x3 x4 s0 x6 x1
  else
    fCM_mostSpecial_b130 k15 σ x2 x3 x4 s0 x6 x6
set_option maxHeartbeats 4000000 in
set_option maxRecDepth 100000 in
theorem wCM_mostSpecial_b118 {p : Program} {l : Launch} {e : Env} {s : State} {m : MethodId} {args : Array Value} {below : List Frame} {meth : Method} {c : Code} {Q : State → Prop} {dC : Nat → ClassId} {dI : Nat → Nat → Nat} {ad : Nat → Nat} {cA : Nat → ClassId} {r : Int32} {H : Heap} {locs : List Loc} {σ : xSt} (C : CallFix p m c cCM_mostSpecial 9 s args wAll RCM) (hK : va_K (dC, dI) vwC (mT cA) s) (hP : va_P (dC, dI) vwC (mW ad cA σ) H) (hend : ∀ (v : Int32) (pc : Nat) (ls : Array Slot), v = r → decode cCM_mostSpecial pc = .ok (.ireturn, 1) → W p l e rm_CM_mostSpecial s m args below meth c H locs 0 0 Q (F0 m pc ls [.int v])) {k15 : Int32 → Int32 → Int32 → Int32 → Int32 → Int32 → Option Int32} (hk15 : ∀ (x1 : Int32) (x2 : Int32) (x3 : Int32) (x4 : Int32) (x5 : Int32) (x6 : Int32) (ls : Array Slot), lv_has ls 9 [(0, .ref (ad 0)), (1, .int (x1)), (2, .int (x2)), (3, .int (x3)), (4, .int (x4)), (5, .int (x5)), (6, .int (x6))] → k15 x1 x2 x3 x4 x5 x6 = some r → W p l e rm_CM_mostSpecial s m args below meth c H locs 0 0 Q (F0 m 15 ls [])) :
    ∀ (x1 : Int32) (x2 : Int32) (x3 : Int32) (x4 : Int32) (x6 : Int32) (s0 : Int32) (ls : Array Slot), lv_has ls 9 [(0, .ref (ad 0)), (1, .int (x1)), (2, .int (x2)), (3, .int (x3)), (4, .int (x4)), (6, .int (x6))] → fCM_mostSpecial_b118 k15 σ x1 x2 x3 x4 x6 s0 = some r → W p l e rm_CM_mostSpecial s m args below meth c H locs 0 0 Q (F0 m 118 ls [.int (s0)]) := by
  obtain ⟨hx, hb, hml, hown, hts⟩ := id C
  intro x1 x2 x3 x4 x6 s0 ls hl h
  unfold fCM_mostSpecial_b118 at h
  refine lv_istore (lv' := [(5, .int (s0)), (0, .ref (ad 0)), (1, .int (x1)), (2, .int (x2)), (3, .int (x3)), (4, .int (x4)), (6, .int (x6))]) hx hb dCM_mostSpecial_118 hl (by decide) rfl (fun ls hl => ?_)
  refine lv_iload_n hx hb dCM_mostSpecial_120 rfl (lv_at hl 2 rfl) ?_
  refine lv_if_ge (tgt := 129) hx hb dCM_mostSpecial_121 (by decide) (fun c12 => ?_) (fun c12 => ?_)
  · have h := (if_pos c12).symm.trans h
    refine lv_iload_n hx hb dCM_mostSpecial_129 rfl (lv_at hl 2 rfl) ?_
    exact wCM_mostSpecial_b130 C hK hP hend hk15 _ _ _ _ _ _ _ (lv_sub hl [1, 3, 4, 5, 0, 6] rfl) h
  · have h := (if_neg c12).symm.trans h
    refine lv_iload hx hb dCM_mostSpecial_124 (lv_at hl 6 rfl) ?_
    refine lv_goto (tgt := 130) hx hb dCM_mostSpecial_126 (by decide) ?_
    exact wCM_mostSpecial_b130 C hK hP hend hk15 _ _ _ _ _ _ _ (lv_sub hl [1, 3, 4, 5, 0, 6] rfl) h
def fCM_mostSpecial_b117 (k15 : Int32 → Int32 → Int32 → Int32 → Int32 → Int32 → Option Int32) (σ : xSt) (x1 : Int32) (x2 : Int32) (x3 : Int32) (x4 : Int32) (x6 : Int32) : Option Int32 :=
  fCM_mostSpecial_b118 k15 σ x1 x2 x3 x4 x6 (0 : Int32)
set_option maxHeartbeats 4000000 in
set_option maxRecDepth 100000 in
theorem wCM_mostSpecial_b117 {p : Program} {l : Launch} {e : Env} {s : State} {m : MethodId} {args : Array Value} {below : List Frame} {meth : Method} {c : Code} {Q : State → Prop} {dC : Nat → ClassId} {dI : Nat → Nat → Nat} {ad : Nat → Nat} {cA : Nat → ClassId} {r : Int32} {H : Heap} {locs : List Loc} {σ : xSt} (C : CallFix p m c cCM_mostSpecial 9 s args wAll RCM) (hK : va_K (dC, dI) vwC (mT cA) s) (hP : va_P (dC, dI) vwC (mW ad cA σ) H) (hend : ∀ (v : Int32) (pc : Nat) (ls : Array Slot), v = r → decode cCM_mostSpecial pc = .ok (.ireturn, 1) → W p l e rm_CM_mostSpecial s m args below meth c H locs 0 0 Q (F0 m pc ls [.int v])) {k15 : Int32 → Int32 → Int32 → Int32 → Int32 → Int32 → Option Int32} (hk15 : ∀ (x1 : Int32) (x2 : Int32) (x3 : Int32) (x4 : Int32) (x5 : Int32) (x6 : Int32) (ls : Array Slot), lv_has ls 9 [(0, .ref (ad 0)), (1, .int (x1)), (2, .int (x2)), (3, .int (x3)), (4, .int (x4)), (5, .int (x5)), (6, .int (x6))] → k15 x1 x2 x3 x4 x5 x6 = some r → W p l e rm_CM_mostSpecial s m args below meth c H locs 0 0 Q (F0 m 15 ls [])) :
    ∀ (x1 : Int32) (x2 : Int32) (x3 : Int32) (x4 : Int32) (x6 : Int32) (ls : Array Slot), lv_has ls 9 [(0, .ref (ad 0)), (1, .int (x1)), (2, .int (x2)), (3, .int (x3)), (4, .int (x4)), (6, .int (x6))] → fCM_mostSpecial_b117 k15 σ x1 x2 x3 x4 x6 = some r → W p l e rm_CM_mostSpecial s m args below meth c H locs 0 0 Q (F0 m 117 ls []) := by
  obtain ⟨hx, hb, hml, hown, hts⟩ := id C
  intro x1 x2 x3 x4 x6 ls hl h
  unfold fCM_mostSpecial_b117 at h
  refine lv_iconst (v := (0 : Int32)) hx hb dCM_mostSpecial_117 (by decide) ?_
  exact wCM_mostSpecial_b118 C hK hP hend hk15 _ _ _ _ _ _ _ (lv_sub hl [0, 1, 2, 3, 4, 5] rfl) h
def fCM_mostSpecial_b113 (k15 : Int32 → Int32 → Int32 → Int32 → Int32 → Int32 → Option Int32) (σ : xSt) (x1 : Int32) (x2 : Int32) (x3 : Int32) (x4 : Int32) (x6 : Int32) : Option Int32 :=
  fCM_mostSpecial_b118 k15 σ x1 x2 x3 x4 x6 (1 : Int32)
set_option maxHeartbeats 4000000 in
set_option maxRecDepth 100000 in
theorem wCM_mostSpecial_b113 {p : Program} {l : Launch} {e : Env} {s : State} {m : MethodId} {args : Array Value} {below : List Frame} {meth : Method} {c : Code} {Q : State → Prop} {dC : Nat → ClassId} {dI : Nat → Nat → Nat} {ad : Nat → Nat} {cA : Nat → ClassId} {r : Int32} {H : Heap} {locs : List Loc} {σ : xSt} (C : CallFix p m c cCM_mostSpecial 9 s args wAll RCM) (hK : va_K (dC, dI) vwC (mT cA) s) (hP : va_P (dC, dI) vwC (mW ad cA σ) H) (hend : ∀ (v : Int32) (pc : Nat) (ls : Array Slot), v = r → decode cCM_mostSpecial pc = .ok (.ireturn, 1) → W p l e rm_CM_mostSpecial s m args below meth c H locs 0 0 Q (F0 m pc ls [.int v])) {k15 : Int32 → Int32 → Int32 → Int32 → Int32 → Int32 → Option Int32} (hk15 : ∀ (x1 : Int32) (x2 : Int32) (x3 : Int32) (x4 : Int32) (x5 : Int32) (x6 : Int32) (ls : Array Slot), lv_has ls 9 [(0, .ref (ad 0)), (1, .int (x1)), (2, .int (x2)), (3, .int (x3)), (4, .int (x4)), (5, .int (x5)), (6, .int (x6))] → k15 x1 x2 x3 x4 x5 x6 = some r → W p l e rm_CM_mostSpecial s m args below meth c H locs 0 0 Q (F0 m 15 ls [])) :
    ∀ (x1 : Int32) (x2 : Int32) (x3 : Int32) (x4 : Int32) (x6 : Int32) (ls : Array Slot), lv_has ls 9 [(0, .ref (ad 0)), (1, .int (x1)), (2, .int (x2)), (3, .int (x3)), (4, .int (x4)), (6, .int (x6))] → fCM_mostSpecial_b113 k15 σ x1 x2 x3 x4 x6 = some r → W p l e rm_CM_mostSpecial s m args below meth c H locs 0 0 Q (F0 m 113 ls []) := by
  obtain ⟨hx, hb, hml, hown, hts⟩ := id C
  intro x1 x2 x3 x4 x6 ls hl h
  unfold fCM_mostSpecial_b113 at h
  refine lv_iconst (v := (1 : Int32)) hx hb dCM_mostSpecial_113 (by decide) ?_
  refine lv_goto (tgt := 118) hx hb dCM_mostSpecial_114 (by decide) ?_
  exact wCM_mostSpecial_b118 C hK hP hend hk15 _ _ _ _ _ _ _ (lv_sub hl [0, 1, 2, 3, 4, 5] rfl) h
def fCM_mostSpecial_b81 (k15 : Int32 → Int32 → Int32 → Int32 → Int32 → Int32 → Option Int32) (k36 : Int32 → Int32 → Int32 → Int32 → Int32 → Int32 → Int32 → Int32 → Option Int32) (σ : xSt) (x1 : Int32) (x2 : Int32) (x3 : Int32) (x4 : Int32) (x5 : Int32) (x6 : Int32) (x8 : Int32) (s0 : Int32) : Option Int32 :=
  k36 x1 x2 x3 x4 x5 x6 s0 (x8 + (1 : Int32))
set_option maxHeartbeats 4000000 in
set_option maxRecDepth 100000 in
theorem wCM_mostSpecial_b81 {p : Program} {l : Launch} {e : Env} {s : State} {m : MethodId} {args : Array Value} {below : List Frame} {meth : Method} {c : Code} {Q : State → Prop} {dC : Nat → ClassId} {dI : Nat → Nat → Nat} {ad : Nat → Nat} {cA : Nat → ClassId} {r : Int32} {H : Heap} {locs : List Loc} {σ : xSt} (C : CallFix p m c cCM_mostSpecial 9 s args wAll RCM) (hK : va_K (dC, dI) vwC (mT cA) s) (hP : va_P (dC, dI) vwC (mW ad cA σ) H) (hend : ∀ (v : Int32) (pc : Nat) (ls : Array Slot), v = r → decode cCM_mostSpecial pc = .ok (.ireturn, 1) → W p l e rm_CM_mostSpecial s m args below meth c H locs 0 0 Q (F0 m pc ls [.int v])) {k15 : Int32 → Int32 → Int32 → Int32 → Int32 → Int32 → Option Int32} {k36 : Int32 → Int32 → Int32 → Int32 → Int32 → Int32 → Int32 → Int32 → Option Int32} (hk15 : ∀ (x1 : Int32) (x2 : Int32) (x3 : Int32) (x4 : Int32) (x5 : Int32) (x6 : Int32) (ls : Array Slot), lv_has ls 9 [(0, .ref (ad 0)), (1, .int (x1)), (2, .int (x2)), (3, .int (x3)), (4, .int (x4)), (5, .int (x5)), (6, .int (x6))] → k15 x1 x2 x3 x4 x5 x6 = some r → W p l e rm_CM_mostSpecial s m args below meth c H locs 0 0 Q (F0 m 15 ls [])) (hk36 : ∀ (x1 : Int32) (x2 : Int32) (x3 : Int32) (x4 : Int32) (x5 : Int32) (x6 : Int32) (x7 : Int32) (x8 : Int32) (ls : Array Slot), lv_has ls 9 [(0, .ref (ad 0)), (1, .int (x1)), (2, .int (x2)), (3, .int (x3)), (4, .int (x4)), (5, .int (x5)), (6, .int (x6)), (7, .int (x7)), (8, .int (x8))] → k36 x1 x2 x3 x4 x5 x6 x7 x8 = some r → W p l e rm_CM_mostSpecial s m args below meth c H locs 0 0 Q (F0 m 36 ls [])) :
    ∀ (x1 : Int32) (x2 : Int32) (x3 : Int32) (x4 : Int32) (x5 : Int32) (x6 : Int32) (x8 : Int32) (s0 : Int32) (ls : Array Slot), lv_has ls 9 [(0, .ref (ad 0)), (1, .int (x1)), (2, .int (x2)), (3, .int (x3)), (4, .int (x4)), (5, .int (x5)), (6, .int (x6)), (8, .int (x8))] → fCM_mostSpecial_b81 k15 k36 σ x1 x2 x3 x4 x5 x6 x8 s0 = some r → W p l e rm_CM_mostSpecial s m args below meth c H locs 0 0 Q (F0 m 81 ls [.int (s0)]) := by
  obtain ⟨hx, hb, hml, hown, hts⟩ := id C
  intro x1 x2 x3 x4 x5 x6 x8 s0 ls hl h
  unfold fCM_mostSpecial_b81 at h
  refine lv_istore (lv' := [(7, .int (s0)), (0, .ref (ad 0)), (1, .int (x1)), (2, .int (x2)), (3, .int (x3)), (4, .int (x4)), (5, .int (x5)), (6, .int (x6)), (8, .int (x8))]) hx hb dCM_mostSpecial_81 hl (by decide) rfl (fun ls hl => ?_)
  refine lv_iinc (v := x8 + (1 : Int32)) (lv' := [(8, .int (x8 + (1 : Int32))), (7, .int (s0)), (0, .ref (ad 0)), (1, .int (x1)), (2, .int (x2)), (3, .int (x3)), (4, .int (x4)), (5, .int (x5)), (6, .int (x6))]) hx hb dCM_mostSpecial_83 hl (k := 8) rfl rfl (by decide) rfl (fun ls hl => ?_)
  refine lv_goto (tgt := 36) hx hb dCM_mostSpecial_86 (by decide) ?_
  exact hk36 _ _ _ _ _ _ _ _ _ (lv_sub hl [2, 3, 4, 5, 6, 7, 8, 1, 0] rfl) h
def fCM_mostSpecial_b80 (k15 : Int32 → Int32 → Int32 → Int32 → Int32 → Int32 → Option Int32) (k36 : Int32 → Int32 → Int32 → Int32 → Int32 → Int32 → Int32 → Int32 → Option Int32) (σ : xSt) (x1 : Int32) (x2 : Int32) (x3 : Int32) (x4 : Int32) (x5 : Int32) (x6 : Int32) (x8 : Int32) : Option Int32 :=
  fCM_mostSpecial_b81 k15 k36 σ x1 x2 x3 x4 x5 x6 x8 (0 : Int32)
set_option maxHeartbeats 4000000 in
set_option maxRecDepth 100000 in
theorem wCM_mostSpecial_b80 {p : Program} {l : Launch} {e : Env} {s : State} {m : MethodId} {args : Array Value} {below : List Frame} {meth : Method} {c : Code} {Q : State → Prop} {dC : Nat → ClassId} {dI : Nat → Nat → Nat} {ad : Nat → Nat} {cA : Nat → ClassId} {r : Int32} {H : Heap} {locs : List Loc} {σ : xSt} (C : CallFix p m c cCM_mostSpecial 9 s args wAll RCM) (hK : va_K (dC, dI) vwC (mT cA) s) (hP : va_P (dC, dI) vwC (mW ad cA σ) H) (hend : ∀ (v : Int32) (pc : Nat) (ls : Array Slot), v = r → decode cCM_mostSpecial pc = .ok (.ireturn, 1) → W p l e rm_CM_mostSpecial s m args below meth c H locs 0 0 Q (F0 m pc ls [.int v])) {k15 : Int32 → Int32 → Int32 → Int32 → Int32 → Int32 → Option Int32} {k36 : Int32 → Int32 → Int32 → Int32 → Int32 → Int32 → Int32 → Int32 → Option Int32} (hk15 : ∀ (x1 : Int32) (x2 : Int32) (x3 : Int32) (x4 : Int32) (x5 : Int32) (x6 : Int32) (ls : Array Slot), lv_has ls 9 [(0, .ref (ad 0)), (1, .int (x1)), (2, .int (x2)), (3, .int (x3)), (4, .int (x4)), (5, .int (x5)), (6, .int (x6))] → k15 x1 x2 x3 x4 x5 x6 = some r → W p l e rm_CM_mostSpecial s m args below meth c H locs 0 0 Q (F0 m 15 ls [])) (hk36 : ∀ (x1 : Int32) (x2 : Int32) (x3 : Int32) (x4 : Int32) (x5 : Int32) (x6 : Int32) (x7 : Int32) (x8 : Int32) (ls : Array Slot), lv_has ls 9 [(0, .ref (ad 0)), (1, .int (x1)), (2, .int (x2)), (3, .int (x3)), (4, .int (x4)), (5, .int (x5)), (6, .int (x6)), (7, .int (x7)), (8, .int (x8))] → k36 x1 x2 x3 x4 x5 x6 x7 x8 = some r → W p l e rm_CM_mostSpecial s m args below meth c H locs 0 0 Q (F0 m 36 ls [])) :
    ∀ (x1 : Int32) (x2 : Int32) (x3 : Int32) (x4 : Int32) (x5 : Int32) (x6 : Int32) (x8 : Int32) (ls : Array Slot), lv_has ls 9 [(0, .ref (ad 0)), (1, .int (x1)), (2, .int (x2)), (3, .int (x3)), (4, .int (x4)), (5, .int (x5)), (6, .int (x6)), (8, .int (x8))] → fCM_mostSpecial_b80 k15 k36 σ x1 x2 x3 x4 x5 x6 x8 = some r → W p l e rm_CM_mostSpecial s m args below meth c H locs 0 0 Q (F0 m 80 ls []) := by
  obtain ⟨hx, hb, hml, hown, hts⟩ := id C
  intro x1 x2 x3 x4 x5 x6 x8 ls hl h
  unfold fCM_mostSpecial_b80 at h
  refine lv_iconst (v := (0 : Int32)) hx hb dCM_mostSpecial_80 (by decide) ?_
  exact wCM_mostSpecial_b81 C hK hP hend hk15 hk36 _ _ _ _ _ _ _ _ _ (lv_sub hl [0, 1, 2, 3, 4, 5, 6, 7] rfl) h
def fCM_mostSpecial_b76 (k15 : Int32 → Int32 → Int32 → Int32 → Int32 → Int32 → Option Int32) (k36 : Int32 → Int32 → Int32 → Int32 → Int32 → Int32 → Int32 → Int32 → Option Int32) (σ : xSt) (x1 : Int32) (x2 : Int32) (x3 : Int32) (x4 : Int32) (x5 : Int32) (x6 : Int32) (x8 : Int32) : Option Int32 :=
  fCM_mostSpecial_b81 k15 k36 σ x1 x2 x3 x4 x5 x6 x8 (1 : Int32)
set_option maxHeartbeats 4000000 in
set_option maxRecDepth 100000 in
theorem wCM_mostSpecial_b76 {p : Program} {l : Launch} {e : Env} {s : State} {m : MethodId} {args : Array Value} {below : List Frame} {meth : Method} {c : Code} {Q : State → Prop} {dC : Nat → ClassId} {dI : Nat → Nat → Nat} {ad : Nat → Nat} {cA : Nat → ClassId} {r : Int32} {H : Heap} {locs : List Loc} {σ : xSt} (C : CallFix p m c cCM_mostSpecial 9 s args wAll RCM) (hK : va_K (dC, dI) vwC (mT cA) s) (hP : va_P (dC, dI) vwC (mW ad cA σ) H) (hend : ∀ (v : Int32) (pc : Nat) (ls : Array Slot), v = r → decode cCM_mostSpecial pc = .ok (.ireturn, 1) → W p l e rm_CM_mostSpecial s m args below meth c H locs 0 0 Q (F0 m pc ls [.int v])) {k15 : Int32 → Int32 → Int32 → Int32 → Int32 → Int32 → Option Int32} {k36 : Int32 → Int32 → Int32 → Int32 → Int32 → Int32 → Int32 → Int32 → Option Int32} (hk15 : ∀ (x1 : Int32) (x2 : Int32) (x3 : Int32) (x4 : Int32) (x5 : Int32) (x6 : Int32) (ls : Array Slot), lv_has ls 9 [(0, .ref (ad 0)), (1, .int (x1)), (2, .int (x2)), (3, .int (x3)), (4, .int (x4)), (5, .int (x5)), (6, .int (x6))] → k15 x1 x2 x3 x4 x5 x6 = some r → W p l e rm_CM_mostSpecial s m args below meth c H locs 0 0 Q (F0 m 15 ls [])) (hk36 : ∀ (x1 : Int32) (x2 : Int32) (x3 : Int32) (x4 : Int32) (x5 : Int32) (x6 : Int32) (x7 : Int32) (x8 : Int32) (ls : Array Slot), lv_has ls 9 [(0, .ref (ad 0)), (1, .int (x1)), (2, .int (x2)), (3, .int (x3)), (4, .int (x4)), (5, .int (x5)), (6, .int (x6)), (7, .int (x7)), (8, .int (x8))] → k36 x1 x2 x3 x4 x5 x6 x7 x8 = some r → W p l e rm_CM_mostSpecial s m args below meth c H locs 0 0 Q (F0 m 36 ls [])) :
    ∀ (x1 : Int32) (x2 : Int32) (x3 : Int32) (x4 : Int32) (x5 : Int32) (x6 : Int32) (x8 : Int32) (ls : Array Slot), lv_has ls 9 [(0, .ref (ad 0)), (1, .int (x1)), (2, .int (x2)), (3, .int (x3)), (4, .int (x4)), (5, .int (x5)), (6, .int (x6)), (8, .int (x8))] → fCM_mostSpecial_b76 k15 k36 σ x1 x2 x3 x4 x5 x6 x8 = some r → W p l e rm_CM_mostSpecial s m args below meth c H locs 0 0 Q (F0 m 76 ls []) := by
  obtain ⟨hx, hb, hml, hown, hts⟩ := id C
  intro x1 x2 x3 x4 x5 x6 x8 ls hl h
  unfold fCM_mostSpecial_b76 at h
  refine lv_iconst (v := (1 : Int32)) hx hb dCM_mostSpecial_76 (by decide) ?_
  refine lv_goto (tgt := 81) hx hb dCM_mostSpecial_77 (by decide) ?_
  exact wCM_mostSpecial_b81 C hK hP hend hk15 hk36 _ _ _ _ _ _ _ _ _ (lv_sub hl [0, 1, 2, 3, 4, 5, 6, 7] rfl) h
def fCM_mostSpecial_b36 (k15 : Int32 → Int32 → Int32 → Int32 → Int32 → Int32 → Option Int32) (σ : xSt) : Nat → Int32 → Int32 → Int32 → Int32 → Int32 → Int32 → Int32 → Int32 → Option Int32
  | 0, _, _, _, _, _, _, _, _ => none
  | n + 1, x1, x2, x3, x4, x5, x6, x7, x8 =>
    if (σ.1 0 6) ≤ x8 then
      if x7 = 0 then
        fCM_mostSpecial_b169 k15 σ x1 x2 x3 x4 x5 x6
      else
        if x5 = 0 then
          fCM_mostSpecial_b117 k15 σ x1 x2 x3 x4 x6
        else
          if x1 < 0 then
            fCM_mostSpecial_b113 k15 σ x1 x2 x3 x4 x6
          else
            (fCM_sameParams σ x1 x6).bind fun v13 =>
            if v13 = 0 then
              fCM_mostSpecial_b117 k15 σ x1 x2 x3 x4 x6
            else
              fCM_mostSpecial_b113 k15 σ x1 x2 x3 x4 x6
    else
      if x7 = 0 then
        fCM_mostSpecial_b80 k15 (fCM_mostSpecial_b36 k15 σ n) σ x1 x2 x3 x4 x5 x6 x8
      else
        if x8 < 0 ∨ 60 ≤ x8.toNatClampNeg then none else
        if (σ.1 17 x8.toNatClampNeg) = 0 then
          fCM_mostSpecial_b76 k15 (fCM_mostSpecial_b36 k15 σ n) σ x1 x2 x3 x4 x5 x6 x8
        else
          if (((60 : Int32) * x6) + x8) < 0 ∨ 3600 ≤ (((60 : Int32) * x6) + x8).toNatClampNeg then none else
          if (σ.1 18 (((60 : Int32) * x6) + x8).toNatClampNeg) = 0 then
            fCM_mostSpecial_b80 k15 (fCM_mostSpecial_b36 k15 σ n) σ x1 x2 x3 x4 x5 x6 x8
          else
            fCM_mostSpecial_b76 k15 (fCM_mostSpecial_b36 k15 σ n) σ x1 x2 x3 x4 x5 x6 x8
set_option maxHeartbeats 4000000 in
set_option maxRecDepth 100000 in
theorem wCM_mostSpecial_b36 {p : Program} {l : Launch} {e : Env} {s : State} {m : MethodId} {args : Array Value} {below : List Frame} {meth : Method} {c : Code} {Q : State → Prop} {dC : Nat → ClassId} {dI : Nat → Nat → Nat} {ad : Nat → Nat} {cA : Nat → ClassId} {r : Int32} {H : Heap} {locs : List Loc} {σ : xSt} (C : CallFix p m c cCM_mostSpecial 9 s args wAll RCM) (hK : va_K (dC, dI) vwC (mT cA) s) (hP : va_P (dC, dI) vwC (mW ad cA σ) H) (hend : ∀ (v : Int32) (pc : Nat) (ls : Array Slot), v = r → decode cCM_mostSpecial pc = .ok (.ireturn, 1) → W p l e rm_CM_mostSpecial s m args below meth c H locs 0 0 Q (F0 m pc ls [.int v])) {k15 : Int32 → Int32 → Int32 → Int32 → Int32 → Int32 → Option Int32} (hk15 : ∀ (x1 : Int32) (x2 : Int32) (x3 : Int32) (x4 : Int32) (x5 : Int32) (x6 : Int32) (ls : Array Slot), lv_has ls 9 [(0, .ref (ad 0)), (1, .int (x1)), (2, .int (x2)), (3, .int (x3)), (4, .int (x4)), (5, .int (x5)), (6, .int (x6))] → k15 x1 x2 x3 x4 x5 x6 = some r → W p l e rm_CM_mostSpecial s m args below meth c H locs 0 0 Q (F0 m 15 ls [])) :
    ∀ (n : Nat) (x1 : Int32) (x2 : Int32) (x3 : Int32) (x4 : Int32) (x5 : Int32) (x6 : Int32) (x7 : Int32) (x8 : Int32) (ls : Array Slot), lv_has ls 9 [(0, .ref (ad 0)), (1, .int (x1)), (2, .int (x2)), (3, .int (x3)), (4, .int (x4)), (5, .int (x5)), (6, .int (x6)), (7, .int (x7)), (8, .int (x8))] → fCM_mostSpecial_b36 k15 σ n x1 x2 x3 x4 x5 x6 x7 x8 = some r → W p l e rm_CM_mostSpecial s m args below meth c H locs 0 0 Q (F0 m 36 ls []) := by
  obtain ⟨hx, hb, hml, hown, hts⟩ := id C
  intro n
  induction n with
  | zero =>
    intro x1 x2 x3 x4 x5 x6 x7 x8 ls hl h
    rw [fCM_mostSpecial_b36] at h
    cases h
  | succ n ih =>
    intro x1 x2 x3 x4 x5 x6 x7 x8 ls hl h
    rw [fCM_mostSpecial_b36] at h
    refine lv_iload hx hb dCM_mostSpecial_36 (lv_at hl 8 rfl) ?_
    refine lv_aload_n hx hb dCM_mostSpecial_38 rfl (lv_at hl 0 rfl) ?_
    refine va_get (D := (dC, dI)) (ci := 5) (v := .int (σ.1 0 6)) (C := RCM) (T := TCM) (N := 23) hx hb hts inCM hown hK hP 0 rfl rfl 6 (by decide) (hts _ mw_401) (fun _ h9 => h9) rfl dCM_mostSpecial_39 ?_
    refine lv_icmp_ge (tgt := 89) hx hb dCM_mostSpecial_42 (by decide) (fun c23 => ?_) (fun c23 => ?_)
    · have h := (if_pos c23).symm.trans h
      refine lv_iload hx hb dCM_mostSpecial_89 (lv_at hl 7 rfl) ?_
      refine lv_if_eq (tgt := 169) hx hb dCM_mostSpecial_91 (by decide) (fun c17 => ?_) (fun c17 => ?_)
      · have h := (if_pos c17).symm.trans h
        exact wCM_mostSpecial_b169 C hK hP hend hk15 _ _ _ _ _ _ _ (lv_sub hl [0, 1, 2, 3, 4, 5, 6] rfl) h
      · have h := (if_neg c17).symm.trans h
        refine lv_iload hx hb dCM_mostSpecial_94 (lv_at hl 5 rfl) ?_
        refine lv_if_eq (tgt := 117) hx hb dCM_mostSpecial_96 (by decide) (fun c16 => ?_) (fun c16 => ?_)
        · have h := (if_pos c16).symm.trans h
          exact wCM_mostSpecial_b117 C hK hP hend hk15 _ _ _ _ _ _ (lv_sub hl [0, 1, 2, 3, 4, 6] rfl) h
        · have h := (if_neg c16).symm.trans h
          refine lv_iload_n hx hb dCM_mostSpecial_99 rfl (lv_at hl 1 rfl) ?_
          refine lv_if_lt (tgt := 113) hx hb dCM_mostSpecial_100 (by decide) (fun c15 => ?_) (fun c15 => ?_)
          · have h := (if_pos c15).symm.trans h
            exact wCM_mostSpecial_b113 C hK hP hend hk15 _ _ _ _ _ _ (lv_sub hl [0, 1, 2, 3, 4, 6] rfl) h
          · have h := (if_neg c15).symm.trans h
            refine lv_aload_n hx hb dCM_mostSpecial_103 rfl (lv_at hl 0 rfl) ?_
            refine lv_iload_n hx hb dCM_mostSpecial_104 rfl (lv_at hl 1 rfl) ?_
            refine lv_iload hx hb dCM_mostSpecial_105 (lv_at hl 6 rfl) ?_
            obtain ⟨v13, ev13, h⟩ := Option.bind_eq_some_iff.mp h
            refine gcall_r (b := ad 0) (As := [.int (x1), .int (x6)]) (rest := []) C hK hP (ci := 5) (q0 := 0) rfl rfl (kCM_sameParams l dC dI ad cA σ x1 x6 v13 ev13) (cwV 2 hts (gw mw_422 mw_423 mw_424 mw_363 mw_425) rfl rfl rfl hdCM_sameParams ⟨Nat.le_of_ble_eq_true rfl, Nat.le_of_ble_eq_true rfl⟩) rfl hl.1 rfl (Nat.le_of_ble_eq_true rfl) dCM_mostSpecial_107 ⟨Nat.le_refl _, Nat.le_refl _⟩ ?_
            refine lv_if_eq (tgt := 117) hx hb dCM_mostSpecial_110 (by decide) (fun c14 => ?_) (fun c14 => ?_)
            · have h := (if_pos c14).symm.trans h
              exact wCM_mostSpecial_b117 C hK hP hend hk15 _ _ _ _ _ _ (lv_sub hl [0, 1, 2, 3, 4, 6] rfl) h
            · have h := (if_neg c14).symm.trans h
              exact wCM_mostSpecial_b113 C hK hP hend hk15 _ _ _ _ _ _ (lv_sub hl [0, 1, 2, 3, 4, 6] rfl) h
    · have h := (if_neg c23).symm.trans h
      refine lv_iload hx hb dCM_mostSpecial_45 (lv_at hl 7 rfl) ?_
      refine lv_if_eq (tgt := 80) hx hb dCM_mostSpecial_47 (by decide) (fun c22 => ?_) (fun c22 => ?_)
      · have h := (if_pos c22).symm.trans h
        exact wCM_mostSpecial_b80 C hK hP hend hk15 ih _ _ _ _ _ _ _ _ (lv_sub hl [0, 1, 2, 3, 4, 5, 6, 8] rfl) h
      · have h := (if_neg c22).symm.trans h
        refine lv_aload_n hx hb dCM_mostSpecial_50 rfl (lv_at hl 0 rfl) ?_
        refine va_get (D := (dC, dI)) (ci := 5) (v := .ref (ad 17)) (C := RCM) (T := TCM) (N := 23) hx hb hts inCM hown hK hP 0 rfl rfl 20 (by decide) (hts _ mw_449) (fun _ h9 => h9) rfl dCM_mostSpecial_51 ?_
        refine lv_iload hx hb dCM_mostSpecial_54 (lv_at hl 8 rfl) ?_
        obtain ⟨b18, h⟩ := gx_nb h
        refine va_zald hx hb hK hP 17 16 rfl rfl b18 dCM_mostSpecial_56 ?_
        refine lv_if_eq (tgt := 76) hx hb dCM_mostSpecial_57 (by decide) (fun c21 => ?_) (fun c21 => ?_)
        · have h := (if_pos c21).symm.trans h
          exact wCM_mostSpecial_b76 C hK hP hend hk15 ih _ _ _ _ _ _ _ _ (lv_sub hl [0, 1, 2, 3, 4, 5, 6, 8] rfl) h
        · have h := (if_neg c21).symm.trans h
          refine lv_aload_n hx hb dCM_mostSpecial_60 rfl (lv_at hl 0 rfl) ?_
          refine va_get (D := (dC, dI)) (ci := 5) (v := .ref (ad 18)) (C := RCM) (T := TCM) (N := 23) hx hb hts inCM hown hK hP 0 rfl rfl 21 (by decide) (hts _ mw_450) (fun _ h9 => h9) rfl dCM_mostSpecial_61 ?_
          refine lv_bipush (v := (60 : Int32)) hx hb dCM_mostSpecial_64 (by decide) ?_
          refine lv_iload hx hb dCM_mostSpecial_66 (lv_at hl 6 rfl) ?_
          refine lv_imul hx hb dCM_mostSpecial_68 ?_
          refine lv_iload hx hb dCM_mostSpecial_69 (lv_at hl 8 rfl) ?_
          refine lv_iadd hx hb dCM_mostSpecial_71 ?_
          obtain ⟨b19, h⟩ := gx_nb h
          refine va_zald hx hb hK hP 18 17 rfl rfl b19 dCM_mostSpecial_72 ?_
          refine lv_if_eq (tgt := 80) hx hb dCM_mostSpecial_73 (by decide) (fun c20 => ?_) (fun c20 => ?_)
          · have h := (if_pos c20).symm.trans h
            exact wCM_mostSpecial_b80 C hK hP hend hk15 ih _ _ _ _ _ _ _ _ (lv_sub hl [0, 1, 2, 3, 4, 5, 6, 8] rfl) h
          · have h := (if_neg c20).symm.trans h
            exact wCM_mostSpecial_b76 C hK hP hend hk15 ih _ _ _ _ _ _ _ _ (lv_sub hl [0, 1, 2, 3, 4, 5, 6, 8] rfl) h
def fCM_mostSpecial_b15 (σ : xSt) : Nat → Int32 → Int32 → Int32 → Int32 → Int32 → Int32 → Option Int32
  | 0, _, _, _, _, _, _ => none
  | n + 1, x1, x2, x3, x4, x5, x6 =>
    if (σ.1 0 6) ≤ x6 then
      if (2 : Int32) ≤ x4 then
        if x5 = 0 then
          some (-1 : Int32)
        else
          if x3 ≤ (1 : Int32) then
            if x3 = (1 : Int32) then
              some x2
            else
              some x1
          else
            some (-1 : Int32)
      else
        some x1
    else
      if x6 < 0 ∨ 60 ≤ x6.toNatClampNeg then none else
      nm (σ.1 17 x6.toNatClampNeg) fun y6 =>
      fCM_mostSpecial_b36 (fCM_mostSpecial_b15 σ n) σ gF x1 x2 x3 x4 x5 x6 y6 (0 : Int32)
set_option maxHeartbeats 4000000 in
set_option maxRecDepth 100000 in
theorem wCM_mostSpecial_b15 {p : Program} {l : Launch} {e : Env} {s : State} {m : MethodId} {args : Array Value} {below : List Frame} {meth : Method} {c : Code} {Q : State → Prop} {dC : Nat → ClassId} {dI : Nat → Nat → Nat} {ad : Nat → Nat} {cA : Nat → ClassId} {r : Int32} {H : Heap} {locs : List Loc} {σ : xSt} (C : CallFix p m c cCM_mostSpecial 9 s args wAll RCM) (hK : va_K (dC, dI) vwC (mT cA) s) (hP : va_P (dC, dI) vwC (mW ad cA σ) H) (hend : ∀ (v : Int32) (pc : Nat) (ls : Array Slot), v = r → decode cCM_mostSpecial pc = .ok (.ireturn, 1) → W p l e rm_CM_mostSpecial s m args below meth c H locs 0 0 Q (F0 m pc ls [.int v])) :
    ∀ (n : Nat) (x1 : Int32) (x2 : Int32) (x3 : Int32) (x4 : Int32) (x5 : Int32) (x6 : Int32) (ls : Array Slot), lv_has ls 9 [(0, .ref (ad 0)), (1, .int (x1)), (2, .int (x2)), (3, .int (x3)), (4, .int (x4)), (5, .int (x5)), (6, .int (x6))] → fCM_mostSpecial_b15 σ n x1 x2 x3 x4 x5 x6 = some r → W p l e rm_CM_mostSpecial s m args below meth c H locs 0 0 Q (F0 m 15 ls []) := by
  obtain ⟨hx, hb, hml, hown, hts⟩ := id C
  intro n
  induction n with
  | zero =>
    intro x1 x2 x3 x4 x5 x6 ls hl h
    rw [fCM_mostSpecial_b15] at h
    cases h
  | succ n ih =>
    intro x1 x2 x3 x4 x5 x6 ls hl h
    rw [fCM_mostSpecial_b15] at h
    refine lv_iload hx hb dCM_mostSpecial_15 (lv_at hl 6 rfl) ?_
    refine lv_aload_n hx hb dCM_mostSpecial_17 rfl (lv_at hl 0 rfl) ?_
    refine va_get (D := (dC, dI)) (ci := 5) (v := .int (σ.1 0 6)) (C := RCM) (T := TCM) (N := 23) hx hb hts inCM hown hK hP 0 rfl rfl 6 (by decide) (hts _ mw_401) (fun _ h9 => h9) rfl dCM_mostSpecial_18 ?_
    refine lv_icmp_ge (tgt := 175) hx hb dCM_mostSpecial_21 (by decide) (fun c24 => ?_) (fun c24 => ?_)
    · have h := (if_pos c24).symm.trans h
      refine lv_iload hx hb dCM_mostSpecial_175 (lv_at hl 4 rfl) ?_
      refine lv_iconst (v := (2 : Int32)) hx hb dCM_mostSpecial_177 (by decide) ?_
      refine lv_icmp_ge (tgt := 183) hx hb dCM_mostSpecial_178 (by decide) (fun c4 => ?_) (fun c4 => ?_)
      · have h := (if_pos c4).symm.trans h
        refine lv_iload hx hb dCM_mostSpecial_183 (lv_at hl 5 rfl) ?_
        refine lv_if_eq (tgt := 193) hx hb dCM_mostSpecial_185 (by decide) (fun c3 => ?_) (fun c3 => ?_)
        · have h := (if_pos c3).symm.trans h
          refine lv_iconst (v := (-1 : Int32)) hx hb dCM_mostSpecial_193 (by decide) ?_
          refine lv_goto (tgt := 207) hx hb dCM_mostSpecial_194 (by decide) ?_
          exact hend _ _ _ (Option.some.inj h) dCM_mostSpecial_207
        · have h := (if_neg c3).symm.trans h
          refine lv_iload_n hx hb dCM_mostSpecial_188 rfl (lv_at hl 3 rfl) ?_
          refine lv_iconst (v := (1 : Int32)) hx hb dCM_mostSpecial_189 (by decide) ?_
          refine lv_icmp_le (tgt := 197) hx hb dCM_mostSpecial_190 (by decide) (fun c2 => ?_) (fun c2 => ?_)
          · have h := (if_pos c2).symm.trans h
            refine lv_iload_n hx hb dCM_mostSpecial_197 rfl (lv_at hl 3 rfl) ?_
            refine lv_iconst (v := (1 : Int32)) hx hb dCM_mostSpecial_198 (by decide) ?_
            refine lv_icmp_ne (tgt := 206) hx hb dCM_mostSpecial_199 (by decide) (fun c1 => ?_) (fun c1 => ?_)
            · have h := (if_neg c1).symm.trans h
              refine lv_iload_n hx hb dCM_mostSpecial_206 rfl (lv_at hl 1 rfl) ?_
              exact hend _ _ _ (Option.some.inj h) dCM_mostSpecial_207
            · have h := (if_pos c1).symm.trans h
              refine lv_iload_n hx hb dCM_mostSpecial_202 rfl (lv_at hl 2 rfl) ?_
              refine lv_goto (tgt := 207) hx hb dCM_mostSpecial_203 (by decide) ?_
              exact hend _ _ _ (Option.some.inj h) dCM_mostSpecial_207
          · have h := (if_neg c2).symm.trans h
            refine lv_iconst (v := (-1 : Int32)) hx hb dCM_mostSpecial_193 (by decide) ?_
            refine lv_goto (tgt := 207) hx hb dCM_mostSpecial_194 (by decide) ?_
            exact hend _ _ _ (Option.some.inj h) dCM_mostSpecial_207
      · have h := (if_neg c4).symm.trans h
        refine lv_iload_n hx hb dCM_mostSpecial_181 rfl (lv_at hl 1 rfl) ?_
        exact hend _ _ _ (Option.some.inj h) dCM_mostSpecial_182
    · have h := (if_neg c24).symm.trans h
      refine lv_aload_n hx hb dCM_mostSpecial_24 rfl (lv_at hl 0 rfl) ?_
      refine va_get (D := (dC, dI)) (ci := 5) (v := .ref (ad 17)) (C := RCM) (T := TCM) (N := 23) hx hb hts inCM hown hK hP 0 rfl rfl 20 (by decide) (hts _ mw_449) (fun _ h9 => h9) rfl dCM_mostSpecial_25 ?_
      refine lv_iload hx hb dCM_mostSpecial_28 (lv_at hl 6 rfl) ?_
      obtain ⟨b5, h⟩ := gx_nb h
      refine va_zald hx hb hK hP 17 16 rfl rfl b5 dCM_mostSpecial_30 ?_
      refine lv_topi (fun y6 ey6 => ?_)
      have h := nm_at ey6 h
      refine lv_istore (lv' := [(7, .int (y6)), (0, .ref (ad 0)), (1, .int (x1)), (2, .int (x2)), (3, .int (x3)), (4, .int (x4)), (5, .int (x5)), (6, .int (x6))]) hx hb dCM_mostSpecial_31 hl (by decide) rfl (fun ls hl => ?_)
      refine lv_iconst (v := (0 : Int32)) hx hb dCM_mostSpecial_33 (by decide) ?_
      refine lv_istore (lv' := [(8, .int ((0 : Int32))), (7, .int (y6)), (0, .ref (ad 0)), (1, .int (x1)), (2, .int (x2)), (3, .int (x3)), (4, .int (x4)), (5, .int (x5)), (6, .int (x6))]) hx hb dCM_mostSpecial_34 hl (by decide) rfl (fun ls hl => ?_)
      exact wCM_mostSpecial_b36 C hK hP hend ih _ _ _ _ _ _ _ _ _ _ (lv_sub hl [2, 3, 4, 5, 6, 7, 8, 1, 0] rfl) h
def fCM_mostSpecial (σ : xSt) : Option Int32 :=
  fCM_mostSpecial_b15 σ gF (-1 : Int32) (-1 : Int32) (0 : Int32) (0 : Int32) (1 : Int32) (0 : Int32)
set_option maxHeartbeats 4000000 in
set_option maxRecDepth 100000 in
theorem wCM_mostSpecial {p : Program} {l : Launch} {e : Env} {s : State} {m : MethodId} {args : Array Value} {below : List Frame} {meth : Method} {c : Code} {Q : State → Prop} {dC : Nat → ClassId} {dI : Nat → Nat → Nat} {ad : Nat → Nat} {cA : Nat → ClassId} {r : Int32} {H : Heap} {locs : List Loc} {σ : xSt} (C : CallFix p m c cCM_mostSpecial 9 s args wAll RCM) (hK : va_K (dC, dI) vwC (mT cA) s) (hP : va_P (dC, dI) vwC (mW ad cA σ) H) (hend : ∀ (v : Int32) (pc : Nat) (ls : Array Slot), v = r → decode cCM_mostSpecial pc = .ok (.ireturn, 1) → W p l e rm_CM_mostSpecial s m args below meth c H locs 0 0 Q (F0 m pc ls [.int v])) (ls : Array Slot) (hl : lv_has ls 9 [(0, .ref (ad 0))]) (h : fCM_mostSpecial σ = some r) : W p l e rm_CM_mostSpecial s m args below meth c H locs 0 0 Q (F0 m 0 ls []) := by
  obtain ⟨hx, hb, hml, hown, hts⟩ := id C
  unfold fCM_mostSpecial at h
  refine lv_iconst (v := (-1 : Int32)) hx hb dCM_mostSpecial_0 (by decide) ?_
  refine lv_istore_n (lv' := [(1, .int ((-1 : Int32))), (0, .ref (ad 0))]) hx hb dCM_mostSpecial_1 rfl hl (by decide) rfl (fun ls hl => ?_)
  refine lv_iconst (v := (-1 : Int32)) hx hb dCM_mostSpecial_2 (by decide) ?_
  refine lv_istore_n (lv' := [(2, .int ((-1 : Int32))), (1, .int ((-1 : Int32))), (0, .ref (ad 0))]) hx hb dCM_mostSpecial_3 rfl hl (by decide) rfl (fun ls hl => ?_)
  refine lv_iconst (v := (0 : Int32)) hx hb dCM_mostSpecial_4 (by decide) ?_
  refine lv_istore_n (lv' := [(3, .int ((0 : Int32))), (2, .int ((-1 : Int32))), (1, .int ((-1 : Int32))), (0, .ref (ad 0))]) hx hb dCM_mostSpecial_5 rfl hl (by decide) rfl (fun ls hl => ?_)
  refine lv_iconst (v := (0 : Int32)) hx hb dCM_mostSpecial_6 (by decide) ?_
  refine lv_istore (lv' := [(4, .int ((0 : Int32))), (3, .int ((0 : Int32))), (2, .int ((-1 : Int32))), (1, .int ((-1 : Int32))), (0, .ref (ad 0))]) hx hb dCM_mostSpecial_7 hl (by decide) rfl (fun ls hl => ?_)
  refine lv_iconst (v := (1 : Int32)) hx hb dCM_mostSpecial_9 (by decide) ?_
  refine lv_istore (lv' := [(5, .int ((1 : Int32))), (4, .int ((0 : Int32))), (3, .int ((0 : Int32))), (2, .int ((-1 : Int32))), (1, .int ((-1 : Int32))), (0, .ref (ad 0))]) hx hb dCM_mostSpecial_10 hl (by decide) rfl (fun ls hl => ?_)
  refine lv_iconst (v := (0 : Int32)) hx hb dCM_mostSpecial_12 (by decide) ?_
  refine lv_istore (lv' := [(6, .int ((0 : Int32))), (5, .int ((1 : Int32))), (4, .int ((0 : Int32))), (3, .int ((0 : Int32))), (2, .int ((-1 : Int32))), (1, .int ((-1 : Int32))), (0, .ref (ad 0))]) hx hb dCM_mostSpecial_13 hl (by decide) rfl (fun ls hl => ?_)
  exact wCM_mostSpecial_b15 C hK hP hend _ _ _ _ _ _ _ _ (lv_sub hl [6, 5, 4, 3, 2, 1, 0] rfl) h
set_option maxHeartbeats 4000000 in
set_option maxRecDepth 100000 in
theorem kCM_mostSpecial (l : Launch) (dC : Nat → ClassId) (dI : Nat → Nat → Nat) (ad : Nat → Nat) (cA : Nat → ClassId) (σ : xSt) (r : Int32) (h : fCM_mostSpecial σ = some r) : Met l yCM_mostSpecial wsCM_mostSpecial rm_CM_mostSpecial (va_Pc [.ref (ad 0)] (fun U => va_P (dC, dI) vwC (mW ad cA σ) U.heap ∧ va_K (dC, dI) vwC (mT cA) U)) (vp_Si (fun v => v = r)) 0 0 (fun _ => False) := by
  refine Met.ofW (cc := cCM_mostSpecial) (maxL := 9) (ret := (some .int)) (by decide) rfl ?_
  intro p e s m args below meth c s₁ B hml hv
  obtain ⟨rfl, hP, hK⟩ := hv
  have hr := B.returns
  have hlocks := B.notSynchronized
  have hl := lv_entry ([.ref (ad 0)]) (n := 9) (Nat.le_of_ble_eq_true rfl)
  rw [lg_entry_eq]
  exact wCM_mostSpecial ⟨B.exec, B.bytes, hml, findClass_of_methodNamed B.named, fun w h => atoms_spec (ws := wsCM_mostSpecial) B.pre w (List.mem_cons_of_mem _ h)⟩ hK hP (fun v pc ls hv hd => W.iret (v := v) B.exec B.bytes hr (fun t ht hW => ⟨v, rfl, hv, ht⟩) (fun q hq => absurd hq List.not_mem_nil) hd) _ hl h
