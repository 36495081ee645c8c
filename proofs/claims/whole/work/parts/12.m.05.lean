abbrev rm_CM_typeAt : Room := { frames := 0, cells := 0, slots := 0, locals := 0 }
def fCM_typeAt_b37 (σ : xSt) (x1 : Int32) (x2 : Int32) : Option Int32 :=
  if (((4 : Int32) * x1) + x2) < 0 ∨ 240 ≤ (((4 : Int32) * x1) + x2).toNatClampNeg then none else
  some (σ.1 11 (((4 : Int32) * x1) + x2).toNatClampNeg)
set_option maxHeartbeats 4000000 in
set_option maxRecDepth 100000 in
theorem wCM_typeAt_b37 {p : Program} {l : Launch} {e : Env} {s : State} {m : MethodId} {args : Array Value} {below : List Frame} {meth : Method} {c : Code} {Q : State → Prop} {dC : Nat → ClassId} {dI : Nat → Nat → Nat} {ad : Nat → Nat} {cA : Nat → ClassId} {r : Int32} {H : Heap} {locs : List Loc} {σ : xSt} (C : CallFix p m c cCM_typeAt 5 s args wAll RCM) (hK : va_K (dC, dI) vwC (mT cA) s) (hP : va_P (dC, dI) vwC (mW ad cA σ) H) (hend : ∀ (v : Int32) (pc : Nat) (ls : Array Slot), v = r → decode cCM_typeAt pc = .ok (.ireturn, 1) → W p l e rm_CM_typeAt s m args below meth c H locs 0 0 Q (F0 m pc ls [.int v])) :
    ∀ (x1 : Int32) (x2 : Int32) (ls : Array Slot), lv_has ls 5 [(0, .ref (ad 0)), (1, .int (x1)), (2, .int (x2))] → fCM_typeAt_b37 σ x1 x2 = some r → W p l e rm_CM_typeAt s m args below meth c H locs 0 0 Q (F0 m 37 ls []) := by
  obtain ⟨hx, hb, hml, hown, hts⟩ := id C
  intro x1 x2 ls hl h
  unfold fCM_typeAt_b37 at h
  refine lv_aload_n hx hb dCM_typeAt_37 rfl (lv_at hl 0 rfl) ?_
  refine va_get (D := (dC, dI)) (ci := 5) (v := .ref (ad 11)) (C := RCM) (T := TCM) (N := 23) hx hb hts inCM hown hK hP 0 rfl rfl 12 (by decide) (hts _ mw_407) (fun _ h9 => h9) rfl dCM_typeAt_38 ?_
  refine lv_iconst (v := (4 : Int32)) hx hb dCM_typeAt_41 (by decide) ?_
  refine lv_iload_n hx hb dCM_typeAt_42 rfl (lv_at hl 1 rfl) ?_
  refine lv_imul hx hb dCM_typeAt_43 ?_
  refine lv_iload_n hx hb dCM_typeAt_44 rfl (lv_at hl 2 rfl) ?_
  refine lv_iadd hx hb dCM_typeAt_45 ?_
  obtain ⟨b3, h⟩ := gx_nb h
  refine va_iald hx hb hK hP 11 10 rfl rfl b3 dCM_typeAt_46 ?_
  exact hend _ _ _ (Option.some.inj h) dCM_typeAt_47
def fCM_typeAt (σ : xSt) (x1 : Int32) (x2 : Int32) (x3 : Int32) : Option Int32 :=
  if x1 < 0 ∨ 60 ≤ x1.toNatClampNeg then none else
  nm ((σ.1 10 x1.toNatClampNeg) - (1 : Int32)) fun y2 =>
  if x3 = 0 then
    fCM_typeAt_b37 σ x1 x2
  else
    if x2 < y2 then
      fCM_typeAt_b37 σ x1 x2
    else
      if (((4 : Int32) * x1) + y2) < 0 ∨ 240 ≤ (((4 : Int32) * x1) + y2).toNatClampNeg then none else
      some ((σ.1 11 (((4 : Int32) * x1) + y2).toNatClampNeg) - (64 : Int32))
set_option maxHeartbeats 4000000 in
set_option maxRecDepth 100000 in
theorem wCM_typeAt {p : Program} {l : Launch} {e : Env} {s : State} {m : MethodId} {args : Array Value} {below : List Frame} {meth : Method} {c : Code} {Q : State → Prop} {dC : Nat → ClassId} {dI : Nat → Nat → Nat} {ad : Nat → Nat} {cA : Nat → ClassId} {r : Int32} {H : Heap} {locs : List Loc} {σ : xSt} (C : CallFix p m c cCM_typeAt 5 s args wAll RCM) (hK : va_K (dC, dI) vwC (mT cA) s) (hP : va_P (dC, dI) vwC (mW ad cA σ) H) (hend : ∀ (v : Int32) (pc : Nat) (ls : Array Slot), v = r → decode cCM_typeAt pc = .ok (.ireturn, 1) → W p l e rm_CM_typeAt s m args below meth c H locs 0 0 Q (F0 m pc ls [.int v])) {x1 : Int32} {x2 : Int32} {x3 : Int32} (ls : Array Slot) (hl : lv_has ls 5 [(0, .ref (ad 0)), (1, .int (x1)), (2, .int (x2)), (3, .int (x3))]) (h : fCM_typeAt σ x1 x2 x3 = some r) : W p l e rm_CM_typeAt s m args below meth c H locs 0 0 Q (F0 m 0 ls []) := by
  obtain ⟨hx, hb, hml, hown, hts⟩ := id C
  unfold fCM_typeAt at h
  refine lv_aload_n hx hb dCM_typeAt_0 rfl (lv_at hl 0 rfl) ?_
  refine va_get (D := (dC, dI)) (ci := 5) (v := .ref (ad 10)) (C := RCM) (T := TCM) (N := 23) hx hb hts inCM hown hK hP 0 rfl rfl 11 (by decide) (hts _ mw_406) (fun _ h9 => h9) rfl dCM_typeAt_1 ?_
  refine lv_iload_n hx hb dCM_typeAt_4 rfl (lv_at hl 1 rfl) ?_
  obtain ⟨b1, h⟩ := gx_nb h
  refine va_iald hx hb hK hP 10 9 rfl rfl b1 dCM_typeAt_5 ?_
  refine lv_iconst (v := (1 : Int32)) hx hb dCM_typeAt_6 (by decide) ?_
  refine lv_isub hx hb dCM_typeAt_7 ?_
  refine lv_topi (fun y2 ey2 => ?_)
  have h := nm_at ey2 h
  refine lv_istore (lv' := [(4, .int (y2)), (0, .ref (ad 0)), (1, .int (x1)), (2, .int (x2)), (3, .int (x3))]) hx hb dCM_typeAt_8 hl (by decide) rfl (fun ls hl => ?_)
  refine lv_iload_n hx hb dCM_typeAt_10 rfl (lv_at hl 4 rfl) ?_
  refine lv_if_eq (tgt := 37) hx hb dCM_typeAt_11 (by decide) (fun c6 => ?_) (fun c6 => ?_)
  · have h := (if_pos c6).symm.trans h
    exact wCM_typeAt_b37 C hK hP hend _ _ _ (lv_sub hl [1, 2, 3] rfl) h
  · have h := (if_neg c6).symm.trans h
    refine lv_iload_n hx hb dCM_typeAt_14 rfl (lv_at hl 3 rfl) ?_
    refine lv_iload hx hb dCM_typeAt_15 (lv_at hl 0 rfl) ?_
    refine lv_icmp_lt (tgt := 37) hx hb dCM_typeAt_17 (by decide) (fun c5 => ?_) (fun c5 => ?_)
    · have h := (if_pos c5).symm.trans h
      exact wCM_typeAt_b37 C hK hP hend _ _ _ (lv_sub hl [1, 2, 3] rfl) h
    · have h := (if_neg c5).symm.trans h
      refine lv_aload_n hx hb dCM_typeAt_20 rfl (lv_at hl 1 rfl) ?_
      refine va_get (D := (dC, dI)) (ci := 5) (v := .ref (ad 11)) (C := RCM) (T := TCM) (N := 23) hx hb hts inCM hown hK hP 0 rfl rfl 12 (by decide) (hts _ mw_407) (fun _ h9 => h9) rfl dCM_typeAt_21 ?_
      refine lv_iconst (v := (4 : Int32)) hx hb dCM_typeAt_24 (by decide) ?_
      refine lv_iload_n hx hb dCM_typeAt_25 rfl (lv_at hl 2 rfl) ?_
      refine lv_imul hx hb dCM_typeAt_26 ?_
      refine lv_iload hx hb dCM_typeAt_27 (lv_at hl 0 rfl) ?_
      refine lv_iadd hx hb dCM_typeAt_29 ?_
      obtain ⟨b4, h⟩ := gx_nb h
      refine va_iald hx hb hK hP 11 10 rfl rfl b4 dCM_typeAt_30 ?_
      refine lv_bipush (v := (64 : Int32)) hx hb dCM_typeAt_31 (by decide) ?_
      refine lv_isub hx hb dCM_typeAt_33 ?_
      refine lv_goto (tgt := 47) hx hb dCM_typeAt_34 (by decide) ?_
      exact hend _ _ _ (Option.some.inj h) dCM_typeAt_47
set_option maxHeartbeats 4000000 in
set_option maxRecDepth 100000 in
theorem kCM_typeAt (l : Launch) (dC : Nat → ClassId) (dI : Nat → Nat → Nat) (ad : Nat → Nat) (cA : Nat → ClassId) (σ : xSt) (x1 : Int32) (x2 : Int32) (x3 : Int32) (r : Int32) (h : fCM_typeAt σ x1 x2 x3 = some r) : Met l yCM_typeAt wsCM_typeAt rm_CM_typeAt (va_Pc [.ref (ad 0), .int (x1), .int (x2), .int (x3)] (fun U => va_P (dC, dI) vwC (mW ad cA σ) U.heap ∧ va_K (dC, dI) vwC (mT cA) U)) (vp_Si (fun v => v = r)) 0 0 (fun _ => False) := by
  refine Met.ofW (cc := cCM_typeAt) (maxL := 5) (ret := (some .int)) (by decide) rfl ?_
  intro p e s m args below meth c s₁ B hml hv
  obtain ⟨rfl, hP, hK⟩ := hv
  have hr := B.returns
  have hlocks := B.notSynchronized
  have hl := lv_entry ([.ref (ad 0), .int (x1), .int (x2), .int (x3)]) (n := 5) (Nat.le_of_ble_eq_true rfl)
  rw [lg_entry_eq]
  exact wCM_typeAt ⟨B.exec, B.bytes, hml, findClass_of_methodNamed B.named, fun w h => atoms_spec (ws := wsCM_typeAt) B.pre w (List.mem_cons_of_mem _ h)⟩ hK hP (fun v pc ls hv hd => W.iret (v := v) B.exec B.bytes hr (fun t ht hW => ⟨v, rfl, hv, ht⟩) (fun q hq => absurd hq List.not_mem_nil) hd) _ hl h
abbrev rm_CM_isFiner : Room := { frames := 6, cells := 0, slots := 0, locals := 134 }
def fCM_isFiner_b132 (σ : xSt) (x6 : Int32) (x7 : Int32) (x8 : Int32) : Option (Int32 × xSt) :=
  (fCM_isPrimitive σ x6).bind fun v18 =>
  if v18 = 0 then
    (fCM_isPrimitive σ x7).bind fun v19 =>
    if v19 = 0 then
      some ((0 : Int32), σ)
    else
      if x8 = 0 then
        some ((1 : Int32), σ)
      else
        some ((0 : Int32), σ)
  else
    some ((0 : Int32), σ)
set_option maxHeartbeats 4000000 in
set_option maxRecDepth 100000 in
theorem wCM_isFiner_b132 {p : Program} {l : Launch} {e : Env} {s : State} {m : MethodId} {args : Array Value} {below : List Frame} {meth : Method} {c : Code} {Q : State → Prop} {dC : Nat → ClassId} {dI : Nat → Nat → Nat} {ad : Nat → Nat} {cA : Nat → ClassId} {r : (Int32 × xSt)} (C : CallFix p m c cCM_isFiner 9 s args wAll RCM) (hK : va_K (dC, dI) vwC (mT cA) s) (hend : ∀ (v : Int32) (σ : xSt) (H : Heap) (locs : List Loc) (pc : Nat) (ls : Array Slot), (v, σ) = r → narrow .boolean (.int v) = .int v → va_P (dC, dI) vwC (mW ad cA σ) H → va_S (mA ad) s.heap H locs → decode cCM_isFiner pc = .ok (.ireturn, 1) → W p l e rm_CM_isFiner s m args below meth c H locs 0 0 Q (F0 m pc ls [.int v])) :
    ∀ (σ : xSt) (H : Heap) (locs : List Loc) (x6 : Int32) (x7 : Int32) (x8 : Int32) (ls : Array Slot), va_P (dC, dI) vwC (mW ad cA σ) H → va_D (mA ad) (mW ad cA σ) → va_S (mA ad) s.heap H locs → lv_has ls 9 [(6, .int (x6)), (7, .int (x7)), (8, .int (x8))] → fCM_isFiner_b132 σ x6 x7 x8 = some r → W p l e rm_CM_isFiner s m args below meth c H locs 0 0 Q (F0 m 132 ls []) := by
  obtain ⟨hx, hb, hml, hown, hts⟩ := id C
  intro σ H locs x6 x7 x8 ls hP hD hS hl h
  unfold fCM_isFiner_b132 at h
  refine lv_iload hx hb dCM_isFiner_132 (lv_at hl 0 rfl) ?_
  obtain ⟨v18, ev18, h⟩ := Option.bind_eq_some_iff.mp h
  refine gcall_s (As := [.int (x6)]) (rest := []) C hK hP (kCM_isPrimitive l dC dI ad cA σ x6 v18 ev18) (va_cwS 1 hts (gws mw_383 mw_384 mw_363 mw_385) rfl rfl rfl hdCM_isPrimitive ⟨Nat.le_of_ble_eq_true rfl, Nat.le_of_ble_eq_true rfl⟩) rfl hl.1 rfl (Nat.le_of_ble_eq_true rfl) dCM_isFiner_134 ⟨Nat.le_refl _, Nat.le_refl _⟩ ?_
  refine lv_if_ne (tgt := 157) hx hb dCM_isFiner_137 (by decide) (fun c22 => ?_) (fun c22 => ?_)
  · have h := (if_neg c22).symm.trans h
    refine lv_iconst (v := (0 : Int32)) hx hb dCM_isFiner_157 (by decide) ?_
    exact hend _ _ _ _ _ _ (Option.some.inj h) rfl hP hS dCM_isFiner_158
  · have h := (if_pos c22).symm.trans h
    refine lv_iload hx hb dCM_isFiner_140 (lv_at hl 1 rfl) ?_
    obtain ⟨v19, ev19, h⟩ := Option.bind_eq_some_iff.mp h
    refine gcall_s (As := [.int (x7)]) (rest := []) C hK hP (kCM_isPrimitive l dC dI ad cA σ x7 v19 ev19) (va_cwS 1 hts (gws mw_383 mw_384 mw_363 mw_385) rfl rfl rfl hdCM_isPrimitive ⟨Nat.le_of_ble_eq_true rfl, Nat.le_of_ble_eq_true rfl⟩) rfl hl.1 rfl (Nat.le_of_ble_eq_true rfl) dCM_isFiner_142 ⟨Nat.le_refl _, Nat.le_refl _⟩ ?_
    refine lv_if_eq (tgt := 157) hx hb dCM_isFiner_145 (by decide) (fun c21 => ?_) (fun c21 => ?_)
    · have h := (if_pos c21).symm.trans h
      refine lv_iconst (v := (0 : Int32)) hx hb dCM_isFiner_157 (by decide) ?_
      exact hend _ _ _ _ _ _ (Option.some.inj h) rfl hP hS dCM_isFiner_158
    · have h := (if_neg c21).symm.trans h
      refine lv_iload hx hb dCM_isFiner_148 (lv_at hl 2 rfl) ?_
      refine lv_if_ne (tgt := 157) hx hb dCM_isFiner_150 (by decide) (fun c20 => ?_) (fun c20 => ?_)
      · have h := (if_neg c20).symm.trans h
        refine lv_iconst (v := (0 : Int32)) hx hb dCM_isFiner_157 (by decide) ?_
        exact hend _ _ _ _ _ _ (Option.some.inj h) rfl hP hS dCM_isFiner_158
      · have h := (if_pos c20).symm.trans h
        refine lv_iconst (v := (1 : Int32)) hx hb dCM_isFiner_153 (by decide) ?_
        refine lv_goto (tgt := 158) hx hb dCM_isFiner_154 (by decide) ?_
        exact hend _ _ _ _ _ _ (Option.some.inj h) rfl hP hS dCM_isFiner_158
def fCM_isFiner (σ : xSt) (x1 : Int32) (x2 : Int32) (x3 : Int32) : Option (Int32 × xSt) :=
  gx_b2 (fCM_functionOf σ x1) fun v1 σ2 =>
  gx_b2 (fCM_functionOf σ2 x2) fun v4 σ5 =>
  if v1 < 0 then
    some ((0 : Int32), σ5)
  else
    if v4 < 0 then
      some ((0 : Int32), σ5)
    else
      (fCM_sameParams σ5 v1 v4).bind fun v7 =>
      if v7 = 0 then
        some ((0 : Int32), σ5)
      else
        (fCM_isIt σ5 x1 x2).bind fun v8 =>
        if v8 = 0 then
          (fCM_isIt σ5 x2 x1).bind fun v9 =>
          if v9 = 0 then
            if v1 < 0 ∨ 60 ≤ v1.toNatClampNeg then none else
            nm (σ5.1 9 v1.toNatClampNeg) fun y11 =>
            if v4 < 0 ∨ 60 ≤ v4.toNatClampNeg then none else
            nm (σ5.1 9 v4.toNatClampNeg) fun y13 =>
            if y13 = (-1 : Int32) then
              some ((1 : Int32), σ5)
            else
              if y11 = (-1 : Int32) then
                some ((0 : Int32), σ5)
              else
                if x3 < 0 ∨ 5 ≤ x3.toNatClampNeg then none else
                (fCM_isPrimitive σ5 (σ5.1 16 x3.toNatClampNeg)).bind fun v15 =>
                (fCM_isIt σ5 y11 y13).bind fun v16 =>
                if v16 = 0 then
                  (fCM_isPrimitive σ5 y11).bind fun v17 =>
                  if v17 = 0 then
                    fCM_isFiner_b132 σ5 y11 y13 v15
                  else
                    (fCM_isPrimitive σ5 y13).bind fun v23 =>
                    if v23 = 0 then
                      if v15 = 0 then
                        fCM_isFiner_b132 σ5 y11 y13 v15
                      else
                        some ((1 : Int32), σ5)
                    else
                      fCM_isFiner_b132 σ5 y11 y13 v15
                else
                  some ((1 : Int32), σ5)
          else
            some ((0 : Int32), σ5)
        else
          some ((0 : Int32), σ5)
set_option maxHeartbeats 4000000 in
set_option maxRecDepth 100000 in
theorem wCM_isFiner {p : Program} {l : Launch} {e : Env} {s : State} {m : MethodId} {args : Array Value} {below : List Frame} {meth : Method} {c : Code} {Q : State → Prop} {dC : Nat → ClassId} {dI : Nat → Nat → Nat} {ad : Nat → Nat} {cA : Nat → ClassId} {r : (Int32 × xSt)} (C : CallFix p m c cCM_isFiner 9 s args wAll RCM) (hK : va_K (dC, dI) vwC (mT cA) s) (hend : ∀ (v : Int32) (σ : xSt) (H : Heap) (locs : List Loc) (pc : Nat) (ls : Array Slot), (v, σ) = r → narrow .boolean (.int v) = .int v → va_P (dC, dI) vwC (mW ad cA σ) H → va_S (mA ad) s.heap H locs → decode cCM_isFiner pc = .ok (.ireturn, 1) → W p l e rm_CM_isFiner s m args below meth c H locs 0 0 Q (F0 m pc ls [.int v])) {H : Heap} {locs : List Loc} {σ : xSt} (hP : va_P (dC, dI) vwC (mW ad cA σ) H) (hD : va_D (mA ad) (mW ad cA σ)) (hS : va_S (mA ad) s.heap H locs) {x1 : Int32} {x2 : Int32} {x3 : Int32} (ls : Array Slot) (hl : lv_has ls 9 [(0, .ref (ad 0)), (1, .int (x1)), (2, .int (x2)), (3, .int (x3))]) (h : fCM_isFiner σ x1 x2 x3 = some r) : W p l e rm_CM_isFiner s m args below meth c H locs 0 0 Q (F0 m 0 ls []) := by
  obtain ⟨hx, hb, hml, hown, hts⟩ := id C
  unfold fCM_isFiner at h
  refine lv_aload_n hx hb dCM_isFiner_0 rfl (lv_at hl 0 rfl) ?_
  refine lv_iload_n hx hb dCM_isFiner_1 rfl (lv_at hl 1 rfl) ?_
  obtain ⟨v1, σ2, ez3, h⟩ := gx_b2_at h
  refine gcall_i (wd := mW ad cA) (b := ad 0) (As := [.int (x1)]) (rest := []) mkeys C hK hP hD hS (ci := 5) (q0 := 0) rfl rfl (kCM_functionOf l dC dI ad cA σ x1 (v1, σ2) ez3) (cwV 1 hts (gw mw_434 mw_435 mw_436 mw_363 mw_437) rfl rfl rfl hdCM_functionOf ⟨Nat.le_of_ble_eq_true rfl, Nat.le_of_ble_eq_true rfl⟩) rfl hl.1 rfl (Nat.le_of_ble_eq_true rfl) dCM_isFiner_2 ⟨Nat.le_refl _, Nat.le_refl _⟩ (fun H locs hP hD hS => ?_)
  refine lv_istore (lv' := [(4, .int (v1)), (0, .ref (ad 0)), (1, .int (x1)), (2, .int (x2)), (3, .int (x3))]) hx hb dCM_isFiner_5 hl (by decide) rfl (fun ls hl => ?_)
  refine lv_aload_n hx hb dCM_isFiner_7 rfl (lv_at hl 1 rfl) ?_
  refine lv_iload_n hx hb dCM_isFiner_8 rfl (lv_at hl 3 rfl) ?_
  obtain ⟨v4, σ5, ez6, h⟩ := gx_b2_at h
  refine gcall_i (wd := mW ad cA) (b := ad 0) (As := [.int (x2)]) (rest := []) mkeys C hK hP hD hS (ci := 5) (q0 := 0) rfl rfl (kCM_functionOf l dC dI ad cA σ2 x2 (v4, σ5) ez6) (cwV 1 hts (gw mw_434 mw_435 mw_436 mw_363 mw_437) rfl rfl rfl hdCM_functionOf ⟨Nat.le_of_ble_eq_true rfl, Nat.le_of_ble_eq_true rfl⟩) rfl hl.1 rfl (Nat.le_of_ble_eq_true rfl) dCM_isFiner_9 ⟨Nat.le_refl _, Nat.le_refl _⟩ (fun H locs hP hD hS => ?_)
  refine lv_istore (lv' := [(5, .int (v4)), (4, .int (v1)), (0, .ref (ad 0)), (1, .int (x1)), (2, .int (x2)), (3, .int (x3))]) hx hb dCM_isFiner_12 hl (by decide) rfl (fun ls hl => ?_)
  refine lv_iload hx hb dCM_isFiner_14 (lv_at hl 1 rfl) ?_
  refine lv_if_lt (tgt := 53) hx hb dCM_isFiner_16 (by decide) (fun c34 => ?_) (fun c34 => ?_)
  · have h := (if_pos c34).symm.trans h
    refine lv_iconst (v := (0 : Int32)) hx hb dCM_isFiner_53 (by decide) ?_
    exact hend _ _ _ _ _ _ (Option.some.inj h) rfl hP hS dCM_isFiner_54
  · have h := (if_neg c34).symm.trans h
    refine lv_iload hx hb dCM_isFiner_19 (lv_at hl 0 rfl) ?_
    refine lv_if_lt (tgt := 53) hx hb dCM_isFiner_21 (by decide) (fun c33 => ?_) (fun c33 => ?_)
    · have h := (if_pos c33).symm.trans h
      refine lv_iconst (v := (0 : Int32)) hx hb dCM_isFiner_53 (by decide) ?_
      exact hend _ _ _ _ _ _ (Option.some.inj h) rfl hP hS dCM_isFiner_54
    · have h := (if_neg c33).symm.trans h
      refine lv_aload_n hx hb dCM_isFiner_24 rfl (lv_at hl 2 rfl) ?_
      refine lv_iload hx hb dCM_isFiner_25 (lv_at hl 1 rfl) ?_
      refine lv_iload hx hb dCM_isFiner_27 (lv_at hl 0 rfl) ?_
      obtain ⟨v7, ev7, h⟩ := Option.bind_eq_some_iff.mp h
      refine gcall_r (b := ad 0) (As := [.int (v1), .int (v4)]) (rest := []) C hK hP (ci := 5) (q0 := 0) rfl rfl (kCM_sameParams l dC dI ad cA σ5 v1 v4 v7 ev7) (cwV 2 hts (gw mw_422 mw_423 mw_424 mw_363 mw_425) rfl rfl rfl hdCM_sameParams ⟨Nat.le_of_ble_eq_true rfl, Nat.le_of_ble_eq_true rfl⟩) rfl hl.1 rfl (Nat.le_of_ble_eq_true rfl) dCM_isFiner_29 ⟨Nat.le_refl _, Nat.le_refl _⟩ ?_
      refine lv_if_eq (tgt := 53) hx hb dCM_isFiner_32 (by decide) (fun c32 => ?_) (fun c32 => ?_)
      · have h := (if_pos c32).symm.trans h
        refine lv_iconst (v := (0 : Int32)) hx hb dCM_isFiner_53 (by decide) ?_
        exact hend _ _ _ _ _ _ (Option.some.inj h) rfl hP hS dCM_isFiner_54
      · have h := (if_neg c32).symm.trans h
        refine lv_aload_n hx hb dCM_isFiner_35 rfl (lv_at hl 2 rfl) ?_
        refine lv_iload_n hx hb dCM_isFiner_36 rfl (lv_at hl 3 rfl) ?_
        refine lv_iload_n hx hb dCM_isFiner_37 rfl (lv_at hl 4 rfl) ?_
        obtain ⟨v8, ev8, h⟩ := Option.bind_eq_some_iff.mp h
        refine gcall_r (b := ad 0) (As := [.int (x1), .int (x2)]) (rest := []) C hK hP (ci := 5) (q0 := 0) rfl rfl (kCM_isIt l dC dI ad cA σ5 x1 x2 v8 ev8) (cwV 2 hts (gw mw_390 mw_391 mw_392 mw_363 mw_393) rfl rfl rfl hdCM_isIt ⟨Nat.le_of_ble_eq_true rfl, Nat.le_of_ble_eq_true rfl⟩) rfl hl.1 rfl (Nat.le_of_ble_eq_true rfl) dCM_isFiner_38 ⟨Nat.le_refl _, Nat.le_refl _⟩ ?_
        refine lv_if_ne (tgt := 53) hx hb dCM_isFiner_41 (by decide) (fun c31 => ?_) (fun c31 => ?_)
        · have h := (if_neg c31).symm.trans h
          refine lv_iconst (v := (0 : Int32)) hx hb dCM_isFiner_53 (by decide) ?_
          exact hend _ _ _ _ _ _ (Option.some.inj h) rfl hP hS dCM_isFiner_54
        · have h := (if_pos c31).symm.trans h
          refine lv_aload_n hx hb dCM_isFiner_44 rfl (lv_at hl 2 rfl) ?_
          refine lv_iload_n hx hb dCM_isFiner_45 rfl (lv_at hl 4 rfl) ?_
          refine lv_iload_n hx hb dCM_isFiner_46 rfl (lv_at hl 3 rfl) ?_
          obtain ⟨v9, ev9, h⟩ := Option.bind_eq_some_iff.mp h
          refine gcall_r (b := ad 0) (As := [.int (x2), .int (x1)]) (rest := []) C hK hP (ci := 5) (q0 := 0) rfl rfl (kCM_isIt l dC dI ad cA σ5 x2 x1 v9 ev9) (cwV 2 hts (gw mw_390 mw_391 mw_392 mw_363 mw_393) rfl rfl rfl hdCM_isIt ⟨Nat.le_of_ble_eq_true rfl, Nat.le_of_ble_eq_true rfl⟩) rfl hl.1 rfl (Nat.le_of_ble_eq_true rfl) dCM_isFiner_47 ⟨Nat.le_refl _, Nat.le_refl _⟩ ?_
          refine lv_if_eq (tgt := 55) hx hb dCM_isFiner_50 (by decide) (fun c30 => ?_) (fun c30 => ?_)
          · have h := (if_pos c30).symm.trans h
            refine lv_aload_n hx hb dCM_isFiner_55 rfl (lv_at hl 2 rfl) ?_
            refine va_get (D := (dC, dI)) (ci := 5) (v := .ref (ad 9)) (C := RCM) (T := TCM) (N := 23) hx hb hts inCM hown hK hP 0 rfl rfl 10 (by decide) (hts _ mw_405) (fun _ h9 => h9) rfl dCM_isFiner_56 ?_
            refine lv_iload hx hb dCM_isFiner_59 (lv_at hl 1 rfl) ?_
            obtain ⟨b10, h⟩ := gx_nb h
            refine va_iald hx hb hK hP 9 8 rfl rfl b10 dCM_isFiner_61 ?_
            refine lv_topi (fun y11 ey11 => ?_)
            have h := nm_at ey11 h
            refine lv_istore (lv' := [(6, .int (y11)), (5, .int (v4)), (4, .int (v1)), (0, .ref (ad 0)), (1, .int (x1)), (2, .int (x2)), (3, .int (x3))]) hx hb dCM_isFiner_62 hl (by decide) rfl (fun ls hl => ?_)
            refine lv_aload_n hx hb dCM_isFiner_64 rfl (lv_at hl 3 rfl) ?_
            refine va_get (D := (dC, dI)) (ci := 5) (v := .ref (ad 9)) (C := RCM) (T := TCM) (N := 23) hx hb hts inCM hown hK hP 0 rfl rfl 10 (by decide) (hts _ mw_405) (fun _ h9 => h9) rfl dCM_isFiner_65 ?_
            refine lv_iload hx hb dCM_isFiner_68 (lv_at hl 1 rfl) ?_
            obtain ⟨b12, h⟩ := gx_nb h
            refine va_iald hx hb hK hP 9 8 rfl rfl b12 dCM_isFiner_70 ?_
            refine lv_topi (fun y13 ey13 => ?_)
            have h := nm_at ey13 h
            refine lv_istore (lv' := [(7, .int (y13)), (6, .int (y11)), (5, .int (v4)), (4, .int (v1)), (0, .ref (ad 0)), (1, .int (x1)), (2, .int (x2)), (3, .int (x3))]) hx hb dCM_isFiner_71 hl (by decide) rfl (fun ls hl => ?_)
            refine lv_iload hx hb dCM_isFiner_73 (lv_at hl 0 rfl) ?_
            refine lv_iconst (v := (-1 : Int32)) hx hb dCM_isFiner_75 (by decide) ?_
            refine lv_icmp_ne (tgt := 81) hx hb dCM_isFiner_76 (by decide) (fun c29 => ?_) (fun c29 => ?_)
            · have h := (if_neg c29).symm.trans h
              refine lv_iload hx hb dCM_isFiner_81 (lv_at hl 1 rfl) ?_
              refine lv_iconst (v := (-1 : Int32)) hx hb dCM_isFiner_83 (by decide) ?_
              refine lv_icmp_ne (tgt := 89) hx hb dCM_isFiner_84 (by decide) (fun c28 => ?_) (fun c28 => ?_)
              · have h := (if_neg c28).symm.trans h
                refine lv_aload_n hx hb dCM_isFiner_89 rfl (lv_at hl 4 rfl) ?_
                refine va_get (D := (dC, dI)) (ci := 5) (v := .ref (ad 16)) (C := RCM) (T := TCM) (N := 23) hx hb hts inCM hown hK hP 0 rfl rfl 18 (by decide) (hts _ mw_447) (fun _ h9 => h9) rfl dCM_isFiner_90 ?_
                refine lv_iload_n hx hb dCM_isFiner_93 rfl (lv_at hl 7 rfl) ?_
                obtain ⟨b14, h⟩ := gx_nb h
                refine va_iald hx hb hK hP 16 15 rfl rfl b14 dCM_isFiner_94 ?_
                obtain ⟨v15, ev15, h⟩ := Option.bind_eq_some_iff.mp h
                refine gcall_s (As := [.int (σ5.1 16 x3.toNatClampNeg)]) (rest := []) C hK hP (kCM_isPrimitive l dC dI ad cA σ5 (σ5.1 16 x3.toNatClampNeg) v15 ev15) (va_cwS 1 hts (gws mw_383 mw_384 mw_363 mw_385) rfl rfl rfl hdCM_isPrimitive ⟨Nat.le_of_ble_eq_true rfl, Nat.le_of_ble_eq_true rfl⟩) rfl hl.1 rfl (Nat.le_of_ble_eq_true rfl) dCM_isFiner_95 ⟨Nat.le_refl _, Nat.le_refl _⟩ ?_
                refine lv_istore (lv' := [(8, .int (v15)), (7, .int (y13)), (6, .int (y11)), (5, .int (v4)), (4, .int (v1)), (0, .ref (ad 0)), (1, .int (x1)), (2, .int (x2)), (3, .int (x3))]) hx hb dCM_isFiner_98 hl (by decide) rfl (fun ls hl => ?_)
                refine lv_aload_n hx hb dCM_isFiner_100 rfl (lv_at hl 5 rfl) ?_
                refine lv_iload hx hb dCM_isFiner_101 (lv_at hl 2 rfl) ?_
                refine lv_iload hx hb dCM_isFiner_103 (lv_at hl 1 rfl) ?_
                obtain ⟨v16, ev16, h⟩ := Option.bind_eq_some_iff.mp h
                refine gcall_r (b := ad 0) (As := [.int (y11), .int (y13)]) (rest := []) C hK hP (ci := 5) (q0 := 0) rfl rfl (kCM_isIt l dC dI ad cA σ5 y11 y13 v16 ev16) (cwV 2 hts (gw mw_390 mw_391 mw_392 mw_363 mw_393) rfl rfl rfl hdCM_isIt ⟨Nat.le_of_ble_eq_true rfl, Nat.le_of_ble_eq_true rfl⟩) rfl hl.1 rfl (Nat.le_of_ble_eq_true rfl) dCM_isFiner_105 ⟨Nat.le_refl _, Nat.le_refl _⟩ ?_
                refine lv_if_ne (tgt := 153) hx hb dCM_isFiner_108 (by decide) (fun c27 => ?_) (fun c27 => ?_)
                · have h := (if_neg c27).symm.trans h
                  refine lv_iconst (v := (1 : Int32)) hx hb dCM_isFiner_153 (by decide) ?_
                  refine lv_goto (tgt := 158) hx hb dCM_isFiner_154 (by decide) ?_
                  exact hend _ _ _ _ _ _ (Option.some.inj h) rfl hP hS dCM_isFiner_158
                · have h := (if_pos c27).symm.trans h
                  refine lv_iload hx hb dCM_isFiner_111 (lv_at hl 2 rfl) ?_
                  obtain ⟨v17, ev17, h⟩ := Option.bind_eq_some_iff.mp h
                  refine gcall_s (As := [.int (y11)]) (rest := []) C hK hP (kCM_isPrimitive l dC dI ad cA σ5 y11 v17 ev17) (va_cwS 1 hts (gws mw_383 mw_384 mw_363 mw_385) rfl rfl rfl hdCM_isPrimitive ⟨Nat.le_of_ble_eq_true rfl, Nat.le_of_ble_eq_true rfl⟩) rfl hl.1 rfl (Nat.le_of_ble_eq_true rfl) dCM_isFiner_113 ⟨Nat.le_refl _, Nat.le_refl _⟩ ?_
                  refine lv_if_eq (tgt := 132) hx hb dCM_isFiner_116 (by decide) (fun c26 => ?_) (fun c26 => ?_)
                  · have h := (if_pos c26).symm.trans h
                    exact wCM_isFiner_b132 C hK hend _ _ _ _ _ _ _ hP hD hS (lv_sub hl [2, 1, 0] rfl) h
                  · have h := (if_neg c26).symm.trans h
                    refine lv_iload hx hb dCM_isFiner_119 (lv_at hl 1 rfl) ?_
                    obtain ⟨v23, ev23, h⟩ := Option.bind_eq_some_iff.mp h
                    refine gcall_s (As := [.int (y13)]) (rest := []) C hK hP (kCM_isPrimitive l dC dI ad cA σ5 y13 v23 ev23) (va_cwS 1 hts (gws mw_383 mw_384 mw_363 mw_385) rfl rfl rfl hdCM_isPrimitive ⟨Nat.le_of_ble_eq_true rfl, Nat.le_of_ble_eq_true rfl⟩) rfl hl.1 rfl (Nat.le_of_ble_eq_true rfl) dCM_isFiner_121 ⟨Nat.le_refl _, Nat.le_refl _⟩ ?_
                    refine lv_if_ne (tgt := 132) hx hb dCM_isFiner_124 (by decide) (fun c25 => ?_) (fun c25 => ?_)
                    · have h := (if_neg c25).symm.trans h
                      exact wCM_isFiner_b132 C hK hend _ _ _ _ _ _ _ hP hD hS (lv_sub hl [2, 1, 0] rfl) h
                    · have h := (if_pos c25).symm.trans h
                      refine lv_iload hx hb dCM_isFiner_127 (lv_at hl 0 rfl) ?_
                      refine lv_if_ne (tgt := 153) hx hb dCM_isFiner_129 (by decide) (fun c24 => ?_) (fun c24 => ?_)
                      · have h := (if_neg c24).symm.trans h
                        refine lv_iconst (v := (1 : Int32)) hx hb dCM_isFiner_153 (by decide) ?_
                        refine lv_goto (tgt := 158) hx hb dCM_isFiner_154 (by decide) ?_
                        exact hend _ _ _ _ _ _ (Option.some.inj h) rfl hP hS dCM_isFiner_158
                      · have h := (if_pos c24).symm.trans h
                        exact wCM_isFiner_b132 C hK hend _ _ _ _ _ _ _ hP hD hS (lv_sub hl [2, 1, 0] rfl) h
              · have h := (if_pos c28).symm.trans h
                refine lv_iconst (v := (0 : Int32)) hx hb dCM_isFiner_87 (by decide) ?_
                exact hend _ _ _ _ _ _ (Option.some.inj h) rfl hP hS dCM_isFiner_88
            · have h := (if_pos c29).symm.trans h
              refine lv_iconst (v := (1 : Int32)) hx hb dCM_isFiner_79 (by decide) ?_
              exact hend _ _ _ _ _ _ (Option.some.inj h) rfl hP hS dCM_isFiner_80
          · have h := (if_neg c30).symm.trans h
            refine lv_iconst (v := (0 : Int32)) hx hb dCM_isFiner_53 (by decide) ?_
            exact hend _ _ _ _ _ _ (Option.some.inj h) rfl hP hS dCM_isFiner_54
set_option maxHeartbeats 4000000 in
set_option maxRecDepth 100000 in
theorem kCM_isFiner (l : Launch) (dC : Nat → ClassId) (dI : Nat → Nat → Nat) (ad : Nat → Nat) (cA : Nat → ClassId) (σ : xSt) (x1 : Int32) (x2 : Int32) (x3 : Int32) (r : (Int32 × xSt)) (h : fCM_isFiner σ x1 x2 x3 = some r) : Met l yCM_isFiner wsCM_isFiner rm_CM_isFiner (va_Pc [.ref (ad 0), .int (x1), .int (x2), .int (x3)] (fun U => va_P (dC, dI) vwC (mW ad cA σ) U.heap ∧ va_K (dC, dI) vwC (mT cA) U ∧ va_D (mA ad) (mW ad cA σ))) (va_Qi (fun (v : Int32) (u : xSt) => (v, u) = r) (fun u t => va_P (dC, dI) vwC (mW ad cA u) t.heap) (mA ad)) 0 0 (mA ad) := by
  refine Met.ofW (cc := cCM_isFiner) (maxL := 9) (ret := (some .boolean)) (by decide) rfl ?_
  intro p e s m args below meth c s₁ B hml hv
  obtain ⟨rfl, hP, hK, hD⟩ := hv
  have hr := B.returns
  have hlocks := B.notSynchronized
  have hl := lv_entry ([.ref (ad 0), .int (x1), .int (x2), .int (x3)]) (n := 9) (Nat.le_of_ble_eq_true rfl)
  rw [lg_entry_eq]
  exact wCM_isFiner ⟨B.exec, B.bytes, hml, findClass_of_methodNamed B.named, fun w h => atoms_spec (ws := wsCM_isFiner) B.pre w (List.mem_cons_of_mem _ h)⟩ hK (fun v σ H locs pc ls hv hn hP hS hd => W.zret (v := v) B.exec B.bytes hr hn (fun t ht hW => ⟨⟨v, σ, rfl, hv, by show va_P _ _ _ t.heap; rw [ht]; exact hP⟩, hS.F ht⟩) hS.2.2 hd) hP hD va_S.rf _ hl h
abbrev rm_CM_isSpecial : Room := { frames := 7, cells := 0, slots := 0, locals := 162 }
def fCM_isSpecial_b83 (k17 : xSt → Int32 → Int32 → Int32 → Int32 → Option (Int32 × xSt)) (σ : xSt) (x1 : Int32) (x2 : Int32) (x3 : Int32) (x4 : Int32) : Option (Int32 × xSt) :=
  k17 σ x1 x2 x3 (x4 + (1 : Int32))
set_option maxHeartbeats 4000000 in
set_option maxRecDepth 100000 in
theorem wCM_isSpecial_b83 {p : Program} {l : Launch} {e : Env} {s : State} {m : MethodId} {args : Array Value} {below : List Frame} {meth : Method} {c : Code} {Q : State → Prop} {dC : Nat → ClassId} {dI : Nat → Nat → Nat} {ad : Nat → Nat} {cA : Nat → ClassId} {r : (Int32 × xSt)} (C : CallFix p m c cCM_isSpecial 7 s args wAll RCM) (hK : va_K (dC, dI) vwC (mT cA) s) (hend : ∀ (v : Int32) (σ : xSt) (H : Heap) (locs : List Loc) (pc : Nat) (ls : Array Slot), (v, σ) = r → narrow .boolean (.int v) = .int v → va_P (dC, dI) vwC (mW ad cA σ) H → va_S (mA ad) s.heap H locs → decode cCM_isSpecial pc = .ok (.ireturn, 1) → W p l e rm_CM_isSpecial s m args below meth c H locs 0 0 Q (F0 m pc ls [.int v])) {k17 : xSt → Int32 → Int32 → Int32 → Int32 → Option (Int32 × xSt)} (hk17 : ∀ (σ : xSt) (H : Heap) (locs : List Loc) (x1 : Int32) (x2 : Int32) (x3 : Int32) (x4 : Int32) (ls : Array Slot), va_P (dC, dI) vwC (mW ad cA σ) H → va_D (mA ad) (mW ad cA σ) → va_S (mA ad) s.heap H locs → lv_has ls 7 [(0, .ref (ad 0)), (1, .int (x1)), (2, .int (x2)), (3, .int (x3)), (4, .int (x4))] → k17 σ x1 x2 x3 x4 = some r → W p l e rm_CM_isSpecial s m args below meth c H locs 0 0 Q (F0 m 17 ls [])) :
    ∀ (σ : xSt) (H : Heap) (locs : List Loc) (x1 : Int32) (x2 : Int32) (x3 : Int32) (x4 : Int32) (ls : Array Slot), va_P (dC, dI) vwC (mW ad cA σ) H → va_D (mA ad) (mW ad cA σ) → va_S (mA ad) s.heap H locs → lv_has ls 7 [(0, .ref (ad 0)), (1, .int (x1)), (2, .int (x2)), (3, .int (x3)), (4, .int (x4))] → fCM_isSpecial_b83 k17 σ x1 x2 x3 x4 = some r → W p l e rm_CM_isSpecial s m args below meth c H locs 0 0 Q (F0 m 83 ls []) := by
  obtain ⟨hx, hb, hml, hown, hts⟩ := id C
  intro σ H locs x1 x2 x3 x4 ls hP hD hS hl h
  unfold fCM_isSpecial_b83 at h
  refine lv_iinc (v := x4 + (1 : Int32)) (lv' := [(4, .int (x4 + (1 : Int32))), (0, .ref (ad 0)), (1, .int (x1)), (2, .int (x2)), (3, .int (x3))]) hx hb dCM_isSpecial_83 hl (k := 4) rfl rfl (by decide) rfl (fun ls hl => ?_)
  refine lv_goto (tgt := 17) hx hb dCM_isSpecial_86 (by decide) ?_
  exact hk17 _ _ _ _ _ _ _ _ hP hD hS (lv_sub hl [1, 2, 3, 4, 0] rfl) h
def fCM_isSpecial_b17 : Nat → xSt → Int32 → Int32 → Int32 → Int32 → Option (Int32 × xSt)
  | 0, _, _, _, _, _ => none
  | n + 1, σ, x1, x2, x3, x4 =>
    if (σ.1 0 13) ≤ x4 then
      if x3 = 0 then
        some ((1 : Int32), σ)
      else
        if x1 < 0 ∨ 60 ≤ x1.toNatClampNeg then none else
        if ((((4 : Int32) * x1) + (σ.1 10 x1.toNatClampNeg)) - (1 : Int32)) < 0 ∨ 240 ≤ ((((4 : Int32) * x1) + (σ.1 10 x1.toNatClampNeg)) - (1 : Int32)).toNatClampNeg then none else
        if x2 < 0 ∨ 60 ≤ x2.toNatClampNeg then none else
        if ((((4 : Int32) * x2) + (σ.1 10 x2.toNatClampNeg)) - (1 : Int32)) < 0 ∨ 240 ≤ ((((4 : Int32) * x2) + (σ.1 10 x2.toNatClampNeg)) - (1 : Int32)).toNatClampNeg then none else
        (fCM_isIt σ ((σ.1 11 ((((4 : Int32) * x1) + (σ.1 10 x1.toNatClampNeg)) - (1 : Int32)).toNatClampNeg) - (64 : Int32)) ((σ.1 11 ((((4 : Int32) * x2) + (σ.1 10 x2.toNatClampNeg)) - (1 : Int32)).toNatClampNeg) - (64 : Int32))).bind fun v5 =>
        if v5 = 0 then
          some ((0 : Int32), σ)
        else
          some ((1 : Int32), σ)
    else
      (fCM_typeAt σ x1 x4 x3).bind fun v8 =>
      (fCM_typeAt σ x2 x4 x3).bind fun v9 =>
      (fCM_isIt σ v8 v9).bind fun v10 =>
      if v10 = 0 then
        if x4 < 0 ∨ 5 ≤ x4.toNatClampNeg then none else
        if (σ.1 13 x4.toNatClampNeg) = (2 : Int32) then
          gx_b2 (fCM_isFiner σ v8 v9 x4) fun v12 σ13 =>
          if v12 = 0 then
            some ((0 : Int32), σ13)
          else
            fCM_isSpecial_b83 (fCM_isSpecial_b17 n) σ13 x1 x2 x3 x4
        else
          some ((0 : Int32), σ)
      else
        fCM_isSpecial_b83 (fCM_isSpecial_b17 n) σ x1 x2 x3 x4
set_option maxHeartbeats 4000000 in
set_option maxRecDepth 100000 in
theorem wCM_isSpecial_b17 {p : Program} {l : Launch} {e : Env} {s : State} {m : MethodId} {args : Array Value} {below : List Frame} {meth : Method} {c : Code} {Q : State → Prop} {dC : Nat → ClassId} {dI : Nat → Nat → Nat} {ad : Nat → Nat} {cA : Nat → ClassId} {r : (Int32 × xSt)} (C : CallFix p m c cCM_isSpecial 7 s args wAll RCM) (hK : va_K (dC, dI) vwC (mT cA) s) (hend : ∀ (v : Int32) (σ : xSt) (H : Heap) (locs : List Loc) (pc : Nat) (ls : Array Slot), (v, σ) = r → narrow .boolean (.int v) = .int v → va_P (dC, dI) vwC (mW ad cA σ) H → va_S (mA ad) s.heap H locs → decode cCM_isSpecial pc = .ok (.ireturn, 1) → W p l e rm_CM_isSpecial s m args below meth c H locs 0 0 Q (F0 m pc ls [.int v])) :
    ∀ (n : Nat) (σ : xSt) (H : Heap) (locs : List Loc) (x1 : Int32) (x2 : Int32) (x3 : Int32) (x4 : Int32) (ls : Array Slot), va_P (dC, dI) vwC (mW ad cA σ) H → va_D (mA ad) (mW ad cA σ) → va_S (mA ad) s.heap H locs → lv_has ls 7 [(0, .ref (ad 0)), (1, .int (x1)), (2, .int (x2)), (3, .int (x3)), (4, .int (x4))] → fCM_isSpecial_b17 n σ x1 x2 x3 x4 = some r → W p l e rm_CM_isSpecial s m args below meth c H locs 0 0 Q (F0 m 17 ls []) := by
  obtain ⟨hx, hb, hml, hown, hts⟩ := id C
  intro n
  induction n with
  | zero =>
    intro σ H locs x1 x2 x3 x4 ls hP hD hS hl h
    rw [fCM_isSpecial_b17] at h
    cases h
  | succ n ih =>
    intro σ H locs x1 x2 x3 x4 ls hP hD hS hl h
    rw [fCM_isSpecial_b17] at h
    refine lv_iload hx hb dCM_isSpecial_17 (lv_at hl 4 rfl) ?_
    refine lv_aload_n hx hb dCM_isSpecial_19 rfl (lv_at hl 0 rfl) ?_
    refine va_get (D := (dC, dI)) (ci := 5) (v := .int (σ.1 0 13)) (C := RCM) (T := TCM) (N := 23) hx hb hts inCM hown hK hP 0 rfl rfl 13 (by decide) (hts _ mw_442) (fun _ h9 => h9) rfl dCM_isSpecial_20 ?_
    refine lv_icmp_ge (tgt := 89) hx hb dCM_isSpecial_23 (by decide) (fun c18 => ?_) (fun c18 => ?_)
    · have h := (if_pos c18).symm.trans h
      refine lv_iload_n hx hb dCM_isSpecial_89 rfl (lv_at hl 3 rfl) ?_
      refine lv_if_eq (tgt := 140) hx hb dCM_isSpecial_90 (by decide) (fun c7 => ?_) (fun c7 => ?_)
      · have h := (if_pos c7).symm.trans h
        refine lv_iconst (v := (1 : Int32)) hx hb dCM_isSpecial_140 (by decide) ?_
        refine lv_goto (tgt := 145) hx hb dCM_isSpecial_141 (by decide) ?_
        exact hend _ _ _ _ _ _ (Option.some.inj h) rfl hP hS dCM_isSpecial_145
      · have h := (if_neg c7).symm.trans h
        refine lv_aload_n hx hb dCM_isSpecial_93 rfl (lv_at hl 0 rfl) ?_
        refine lv_aload_n hx hb dCM_isSpecial_94 rfl (lv_at hl 0 rfl) ?_
        refine va_get (D := (dC, dI)) (ci := 5) (v := .ref (ad 11)) (C := RCM) (T := TCM) (N := 23) hx hb hts inCM hown hK hP 0 rfl rfl 12 (by decide) (hts _ mw_407) (fun _ h9 => h9) rfl dCM_isSpecial_95 ?_
        refine lv_iconst (v := (4 : Int32)) hx hb dCM_isSpecial_98 (by decide) ?_
        refine lv_iload_n hx hb dCM_isSpecial_99 rfl (lv_at hl 1 rfl) ?_
        refine lv_imul hx hb dCM_isSpecial_100 ?_
        refine lv_aload_n hx hb dCM_isSpecial_101 rfl (lv_at hl 0 rfl) ?_
        refine va_get (D := (dC, dI)) (ci := 5) (v := .ref (ad 10)) (C := RCM) (T := TCM) (N := 23) hx hb hts inCM hown hK hP 0 rfl rfl 11 (by decide) (hts _ mw_406) (fun _ h9 => h9) rfl dCM_isSpecial_102 ?_
        refine lv_iload_n hx hb dCM_isSpecial_105 rfl (lv_at hl 1 rfl) ?_
        obtain ⟨b1, h⟩ := gx_nb h
        refine va_iald hx hb hK hP 10 9 rfl rfl b1 dCM_isSpecial_106 ?_
        refine lv_iadd hx hb dCM_isSpecial_107 ?_
        refine lv_iconst (v := (1 : Int32)) hx hb dCM_isSpecial_108 (by decide) ?_
        refine lv_isub hx hb dCM_isSpecial_109 ?_
        obtain ⟨b2, h⟩ := gx_nb h
        refine va_iald hx hb hK hP 11 10 rfl rfl b2 dCM_isSpecial_110 ?_
        refine lv_bipush (v := (64 : Int32)) hx hb dCM_isSpecial_111 (by decide) ?_
        refine lv_isub hx hb dCM_isSpecial_113 ?_
        refine lv_aload_n hx hb dCM_isSpecial_114 rfl (lv_at hl 0 rfl) ?_
        refine va_get (D := (dC, dI)) (ci := 5) (v := .ref (ad 11)) (C := RCM) (T := TCM) (N := 23) hx hb hts inCM hown hK hP 0 rfl rfl 12 (by decide) (hts _ mw_407) (fun _ h9 => h9) rfl dCM_isSpecial_115 ?_
        refine lv_iconst (v := (4 : Int32)) hx hb dCM_isSpecial_118 (by decide) ?_
        refine lv_iload_n hx hb dCM_isSpecial_119 rfl (lv_at hl 2 rfl) ?_
        refine lv_imul hx hb dCM_isSpecial_120 ?_
        refine lv_aload_n hx hb dCM_isSpecial_121 rfl (lv_at hl 0 rfl) ?_
        refine va_get (D := (dC, dI)) (ci := 5) (v := .ref (ad 10)) (C := RCM) (T := TCM) (N := 23) hx hb hts inCM hown hK hP 0 rfl rfl 11 (by decide) (hts _ mw_406) (fun _ h9 => h9) rfl dCM_isSpecial_122 ?_
        refine lv_iload_n hx hb dCM_isSpecial_125 rfl (lv_at hl 2 rfl) ?_
        obtain ⟨b3, h⟩ := gx_nb h
        refine va_iald hx hb hK hP 10 9 rfl rfl b3 dCM_isSpecial_126 ?_
        refine lv_iadd hx hb dCM_isSpecial_127 ?_
        refine lv_iconst (v := (1 : Int32)) hx hb dCM_isSpecial_128 (by decide) ?_
        refine lv_isub hx hb dCM_isSpecial_129 ?_
        obtain ⟨b4, h⟩ := gx_nb h
        refine va_iald hx hb hK hP 11 10 rfl rfl b4 dCM_isSpecial_130 ?_
        refine lv_bipush (v := (64 : Int32)) hx hb dCM_isSpecial_131 (by decide) ?_
        refine lv_isub hx hb dCM_isSpecial_133 ?_
        obtain ⟨v5, ev5, h⟩ := Option.bind_eq_some_iff.mp h
        refine gcall_r (b := ad 0) (As := [.int ((σ.1 11 ((((4 : Int32) * x1) + (σ.1 10 x1.toNatClampNeg)) - (1 : Int32)).toNatClampNeg) - (64 : Int32)), .int ((σ.1 11 ((((4 : Int32) * x2) + (σ.1 10 x2.toNatClampNeg)) - (1 : Int32)).toNatClampNeg) - (64 : Int32))]) (rest := []) C hK hP (ci := 5) (q0 := 0) rfl rfl (kCM_isIt l dC dI ad cA σ ((σ.1 11 ((((4 : Int32) * x1) + (σ.1 10 x1.toNatClampNeg)) - (1 : Int32)).toNatClampNeg) - (64 : Int32)) ((σ.1 11 ((((4 : Int32) * x2) + (σ.1 10 x2.toNatClampNeg)) - (1 : Int32)).toNatClampNeg) - (64 : Int32)) v5 ev5) (cwV 2 hts (gw mw_390 mw_391 mw_392 mw_363 mw_393) rfl rfl rfl hdCM_isIt ⟨Nat.le_of_ble_eq_true rfl, Nat.le_of_ble_eq_true rfl⟩) rfl hl.1 rfl (Nat.le_of_ble_eq_true rfl) dCM_isSpecial_134 ⟨Nat.le_refl _, Nat.le_refl _⟩ ?_
        refine lv_if_eq (tgt := 144) hx hb dCM_isSpecial_137 (by decide) (fun c6 => ?_) (fun c6 => ?_)
        · have h := (if_pos c6).symm.trans h
          refine lv_iconst (v := (0 : Int32)) hx hb dCM_isSpecial_144 (by decide) ?_
          exact hend _ _ _ _ _ _ (Option.some.inj h) rfl hP hS dCM_isSpecial_145
        · have h := (if_neg c6).symm.trans h
          refine lv_iconst (v := (1 : Int32)) hx hb dCM_isSpecial_140 (by decide) ?_
          refine lv_goto (tgt := 145) hx hb dCM_isSpecial_141 (by decide) ?_
          exact hend _ _ _ _ _ _ (Option.some.inj h) rfl hP hS dCM_isSpecial_145
    · have h := (if_neg c18).symm.trans h
      refine lv_aload_n hx hb dCM_isSpecial_26 rfl (lv_at hl 0 rfl) ?_
      refine lv_iload_n hx hb dCM_isSpecial_27 rfl (lv_at hl 1 rfl) ?_
      refine lv_iload hx hb dCM_isSpecial_28 (lv_at hl 4 rfl) ?_
      refine lv_iload_n hx hb dCM_isSpecial_30 rfl (lv_at hl 3 rfl) ?_
      obtain ⟨v8, ev8, h⟩ := Option.bind_eq_some_iff.mp h
      refine gcall_r (b := ad 0) (As := [.int (x1), .int (x4), .int (x3)]) (rest := []) C hK hP (ci := 5) (q0 := 0) rfl rfl (kCM_typeAt l dC dI ad cA σ x1 x4 x3 v8 ev8) (cwV 3 hts (gw mw_455 mw_456 mw_457 mw_363 mw_458) rfl rfl rfl hdCM_typeAt ⟨Nat.le_of_ble_eq_true rfl, Nat.le_of_ble_eq_true rfl⟩) rfl hl.1 rfl (Nat.le_of_ble_eq_true rfl) dCM_isSpecial_31 ⟨Nat.le_refl _, Nat.le_refl _⟩ ?_
      refine lv_istore (lv' := [(5, .int (v8)), (0, .ref (ad 0)), (1, .int (x1)), (2, .int (x2)), (3, .int (x3)), (4, .int (x4))]) hx hb dCM_isSpecial_34 hl (by decide) rfl (fun ls hl => ?_)
      refine lv_aload_n hx hb dCM_isSpecial_36 rfl (lv_at hl 1 rfl) ?_
      refine lv_iload_n hx hb dCM_isSpecial_37 rfl (lv_at hl 3 rfl) ?_
      refine lv_iload hx hb dCM_isSpecial_38 (lv_at hl 5 rfl) ?_
      refine lv_iload_n hx hb dCM_isSpecial_40 rfl (lv_at hl 4 rfl) ?_
      obtain ⟨v9, ev9, h⟩ := Option.bind_eq_some_iff.mp h
      refine gcall_r (b := ad 0) (As := [.int (x2), .int (x4), .int (x3)]) (rest := []) C hK hP (ci := 5) (q0 := 0) rfl rfl (kCM_typeAt l dC dI ad cA σ x2 x4 x3 v9 ev9) (cwV 3 hts (gw mw_455 mw_456 mw_457 mw_363 mw_458) rfl rfl rfl hdCM_typeAt ⟨Nat.le_of_ble_eq_true rfl, Nat.le_of_ble_eq_true rfl⟩) rfl hl.1 rfl (Nat.le_of_ble_eq_true rfl) dCM_isSpecial_41 ⟨Nat.le_refl _, Nat.le_refl _⟩ ?_
      refine lv_istore (lv' := [(6, .int (v9)), (5, .int (v8)), (0, .ref (ad 0)), (1, .int (x1)), (2, .int (x2)), (3, .int (x3)), (4, .int (x4))]) hx hb dCM_isSpecial_44 hl (by decide) rfl (fun ls hl => ?_)
      refine lv_aload_n hx hb dCM_isSpecial_46 rfl (lv_at hl 2 rfl) ?_
      refine lv_iload hx hb dCM_isSpecial_47 (lv_at hl 1 rfl) ?_
      refine lv_iload hx hb dCM_isSpecial_49 (lv_at hl 0 rfl) ?_
      obtain ⟨v10, ev10, h⟩ := Option.bind_eq_some_iff.mp h
      refine gcall_r (b := ad 0) (As := [.int (v8), .int (v9)]) (rest := []) C hK hP (ci := 5) (q0 := 0) rfl rfl (kCM_isIt l dC dI ad cA σ v8 v9 v10 ev10) (cwV 2 hts (gw mw_390 mw_391 mw_392 mw_363 mw_393) rfl rfl rfl hdCM_isIt ⟨Nat.le_of_ble_eq_true rfl, Nat.le_of_ble_eq_true rfl⟩) rfl hl.1 rfl (Nat.le_of_ble_eq_true rfl) dCM_isSpecial_51 ⟨Nat.le_refl _, Nat.le_refl _⟩ ?_
      refine lv_if_ne (tgt := 83) hx hb dCM_isSpecial_54 (by decide) (fun c17 => ?_) (fun c17 => ?_)
      · have h := (if_neg c17).symm.trans h
        exact wCM_isSpecial_b83 C hK hend ih _ _ _ _ _ _ _ _ hP hD hS (lv_sub hl [2, 3, 4, 5, 6] rfl) h
      · have h := (if_pos c17).symm.trans h
        refine lv_aload_n hx hb dCM_isSpecial_57 rfl (lv_at hl 2 rfl) ?_
        refine va_get (D := (dC, dI)) (ci := 5) (v := .ref (ad 13)) (C := RCM) (T := TCM) (N := 23) hx hb hts inCM hown hK hP 0 rfl rfl 15 (by decide) (hts _ mw_444) (fun _ h9 => h9) rfl dCM_isSpecial_58 ?_
        refine lv_iload hx hb dCM_isSpecial_61 (lv_at hl 6 rfl) ?_
        obtain ⟨b11, h⟩ := gx_nb h
        refine va_iald hx hb hK hP 13 12 rfl rfl b11 dCM_isSpecial_63 ?_
        refine lv_iconst (v := (2 : Int32)) hx hb dCM_isSpecial_64 (by decide) ?_
        refine lv_icmp_ne (tgt := 81) hx hb dCM_isSpecial_65 (by decide) (fun c16 => ?_) (fun c16 => ?_)
        · have h := (if_neg c16).symm.trans h
          refine lv_iconst (v := (0 : Int32)) hx hb dCM_isSpecial_81 (by decide) ?_
          exact hend _ _ _ _ _ _ (Option.some.inj h) rfl hP hS dCM_isSpecial_82
        · have h := (if_pos c16).symm.trans h
          refine lv_aload_n hx hb dCM_isSpecial_68 rfl (lv_at hl 2 rfl) ?_
          refine lv_iload hx hb dCM_isSpecial_69 (lv_at hl 1 rfl) ?_
          refine lv_iload hx hb dCM_isSpecial_71 (lv_at hl 0 rfl) ?_
          refine lv_iload hx hb dCM_isSpecial_73 (lv_at hl 6 rfl) ?_
          obtain ⟨v12, σ13, ez14, h⟩ := gx_b2_at h
          refine gcall_i (wd := mW ad cA) (b := ad 0) (As := [.int (v8), .int (v9), .int (x4)]) (rest := []) mkeys C hK hP hD hS (ci := 5) (q0 := 0) rfl rfl (kCM_isFiner l dC dI ad cA σ v8 v9 x4 (v12, σ13) ez14) (cwV 3 hts (gw mw_459 mw_460 mw_461 mw_363 mw_462) rfl rfl rfl hdCM_isFiner ⟨Nat.le_of_ble_eq_true rfl, Nat.le_of_ble_eq_true rfl⟩) rfl hl.1 rfl (Nat.le_of_ble_eq_true rfl) dCM_isSpecial_75 ⟨Nat.le_refl _, Nat.le_refl _⟩ (fun H locs hP hD hS => ?_)
          refine lv_if_ne (tgt := 83) hx hb dCM_isSpecial_78 (by decide) (fun c15 => ?_) (fun c15 => ?_)
          · have h := (if_neg c15).symm.trans h
            exact wCM_isSpecial_b83 C hK hend ih _ _ _ _ _ _ _ _ hP hD hS (lv_sub hl [2, 3, 4, 5, 6] rfl) h
          · have h := (if_pos c15).symm.trans h
            refine lv_iconst (v := (0 : Int32)) hx hb dCM_isSpecial_81 (by decide) ?_
            exact hend _ _ _ _ _ _ (Option.some.inj h) rfl hP hS dCM_isSpecial_82
def fCM_isSpecial_b13 (σ : xSt) (x1 : Int32) (x2 : Int32) (s0 : Int32) : Option (Int32 × xSt) :=
  fCM_isSpecial_b17 gF σ x1 x2 s0 (0 : Int32)
set_option maxHeartbeats 4000000 in
set_option maxRecDepth 100000 in
theorem wCM_isSpecial_b13 {p : Program} {l : Launch} {e : Env} {s : State} {m : MethodId} {args : Array Value} {below : List Frame} {meth : Method} {c : Code} {Q : State → Prop} {dC : Nat → ClassId} {dI : Nat → Nat → Nat} {ad : Nat → Nat} {cA : Nat → ClassId} {r : (Int32 × xSt)} (C : CallFix p m c cCM_isSpecial 7 s args wAll RCM) (hK : va_K (dC, dI) vwC (mT cA) s) (hend : ∀ (v : Int32) (σ : xSt) (H : Heap) (locs : List Loc) (pc : Nat) (ls : Array Slot), (v, σ) = r → narrow .boolean (.int v) = .int v → va_P (dC, dI) vwC (mW ad cA σ) H → va_S (mA ad) s.heap H locs → decode cCM_isSpecial pc = .ok (.ireturn, 1) → W p l e rm_CM_isSpecial s m args below meth c H locs 0 0 Q (F0 m pc ls [.int v])) :
    ∀ (σ : xSt) (H : Heap) (locs : List Loc) (x1 : Int32) (x2 : Int32) (s0 : Int32) (ls : Array Slot), va_P (dC, dI) vwC (mW ad cA σ) H → va_D (mA ad) (mW ad cA σ) → va_S (mA ad) s.heap H locs → lv_has ls 7 [(0, .ref (ad 0)), (1, .int (x1)), (2, .int (x2))] → fCM_isSpecial_b13 σ x1 x2 s0 = some r → W p l e rm_CM_isSpecial s m args below meth c H locs 0 0 Q (F0 m 13 ls [.int (s0)]) := by
  obtain ⟨hx, hb, hml, hown, hts⟩ := id C
  intro σ H locs x1 x2 s0 ls hP hD hS hl h
  unfold fCM_isSpecial_b13 at h
  refine lv_istore_n (lv' := [(3, .int (s0)), (0, .ref (ad 0)), (1, .int (x1)), (2, .int (x2))]) hx hb dCM_isSpecial_13 rfl hl (by decide) rfl (fun ls hl => ?_)
  refine lv_iconst (v := (0 : Int32)) hx hb dCM_isSpecial_14 (by decide) ?_
  refine lv_istore (lv' := [(4, .int ((0 : Int32))), (3, .int (s0)), (0, .ref (ad 0)), (1, .int (x1)), (2, .int (x2))]) hx hb dCM_isSpecial_15 hl (by decide) rfl (fun ls hl => ?_)
  exact wCM_isSpecial_b17 C hK hend _ _ _ _ _ _ _ _ _ hP hD hS (lv_sub hl [2, 3, 4, 1, 0] rfl) h
def fCM_isSpecial (σ : xSt) (x1 : Int32) (x2 : Int32) : Option (Int32 × xSt) :=
  if (σ.1 0 19) = (3 : Int32) then
    fCM_isSpecial_b13 σ x1 x2 (1 : Int32)
  else
    fCM_isSpecial_b13 σ x1 x2 (0 : Int32)
set_option maxHeartbeats 4000000 in
set_option maxRecDepth 100000 in
theorem wCM_isSpecial {p : Program} {l : Launch} {e : Env} {s : State} {m : MethodId} {args : Array Value} {below : List Frame} {meth : Method} {c : Code} {Q : State → Prop} {dC : Nat → ClassId} {dI : Nat → Nat → Nat} {ad : Nat → Nat} {cA : Nat → ClassId} {r : (Int32 × xSt)} (C : CallFix p m c cCM_isSpecial 7 s args wAll RCM) (hK : va_K (dC, dI) vwC (mT cA) s) (hend : ∀ (v : Int32) (σ : xSt) (H : Heap) (locs : List Loc) (pc : Nat) (ls : Array Slot), (v, σ) = r → narrow .boolean (.int v) = .int v → va_P (dC, dI) vwC (mW ad cA σ) H → va_S (mA ad) s.heap H locs → decode cCM_isSpecial pc = .ok (.ireturn, 1) → W p l e rm_CM_isSpecial s m args below meth c H locs 0 0 Q (F0 m pc ls [.int v])) {H : Heap} {locs : List Loc} {σ : xSt} (hP : va_P (dC, dI) vwC (mW ad cA σ) H) (hD : va_D (mA ad) (mW ad cA σ)) (hS : va_S (mA ad) s.heap H locs) {x1 : Int32} {x2 : Int32} (ls : Array Slot) (hl : lv_has ls 7 [(0, .ref (ad 0)), (1, .int (x1)), (2, .int (x2))]) (h : fCM_isSpecial σ x1 x2 = some r) : W p l e rm_CM_isSpecial s m args below meth c H locs 0 0 Q (F0 m 0 ls []) := by
  obtain ⟨hx, hb, hml, hown, hts⟩ := id C
  unfold fCM_isSpecial at h
  refine lv_aload_n hx hb dCM_isSpecial_0 rfl (lv_at hl 0 rfl) ?_
  refine va_get (D := (dC, dI)) (ci := 5) (v := .int (σ.1 0 19)) (C := RCM) (T := TCM) (N := 23) hx hb hts inCM hown hK hP 0 rfl rfl 19 (by decide) (hts _ mw_448) (fun _ h9 => h9) rfl dCM_isSpecial_1 ?_
  refine lv_iconst (v := (3 : Int32)) hx hb dCM_isSpecial_4 (by decide) ?_
  refine lv_icmp_ne (tgt := 12) hx hb dCM_isSpecial_5 (by decide) (fun c19 => ?_) (fun c19 => ?_)
  · have h := (if_neg c19).symm.trans h
    refine lv_iconst (v := (0 : Int32)) hx hb dCM_isSpecial_12 (by decide) ?_
    exact wCM_isSpecial_b13 C hK hend _ _ _ _ _ _ _ hP hD hS (lv_sub hl [0, 1, 2] rfl) h
  · have h := (if_pos c19).symm.trans h
    refine lv_iconst (v := (1 : Int32)) hx hb dCM_isSpecial_8 (by decide) ?_
    refine lv_goto (tgt := 13) hx hb dCM_isSpecial_9 (by decide) ?_
    exact wCM_isSpecial_b13 C hK hend _ _ _ _ _ _ _ hP hD hS (lv_sub hl [0, 1, 2] rfl) h
set_option maxHeartbeats 4000000 in
set_option maxRecDepth 100000 in
theorem kCM_isSpecial (l : Launch) (dC : Nat → ClassId) (dI : Nat → Nat → Nat) (ad : Nat → Nat) (cA : Nat → ClassId) (σ : xSt) (x1 : Int32) (x2 : Int32) (r : (Int32 × xSt)) (h : fCM_isSpecial σ x1 x2 = some r) : Met l yCM_isSpecial wsCM_isSpecial rm_CM_isSpecial (va_Pc [.ref (ad 0), .int (x1), .int (x2)] (fun U => va_P (dC, dI) vwC (mW ad cA σ) U.heap ∧ va_K (dC, dI) vwC (mT cA) U ∧ va_D (mA ad) (mW ad cA σ))) (va_Qi (fun (v : Int32) (u : xSt) => (v, u) = r) (fun u t => va_P (dC, dI) vwC (mW ad cA u) t.heap) (mA ad)) 0 0 (mA ad) := by
  refine Met.ofW (cc := cCM_isSpecial) (maxL := 7) (ret := (some .boolean)) (by decide) rfl ?_
  intro p e s m args below meth c s₁ B hml hv
  obtain ⟨rfl, hP, hK, hD⟩ := hv
  have hr := B.returns
  have hlocks := B.notSynchronized
  have hl := lv_entry ([.ref (ad 0), .int (x1), .int (x2)]) (n := 7) (Nat.le_of_ble_eq_true rfl)
  rw [lg_entry_eq]
  exact wCM_isSpecial ⟨B.exec, B.bytes, hml, findClass_of_methodNamed B.named, fun w h => atoms_spec (ws := wsCM_isSpecial) B.pre w (List.mem_cons_of_mem _ h)⟩ hK (fun v σ H locs pc ls hv hn hP hS hd => W.zret (v := v) B.exec B.bytes hr hn (fun t ht hW => ⟨⟨v, σ, rfl, hv, by show va_P _ _ _ t.heap; rw [ht]; exact hP⟩, hS.F ht⟩) hS.2.2 hd) hP hD va_S.rf _ hl h
abbrev rm_CM_hasShape : Room := { frames := 6, cells := 0, slots := 0, locals := 134 }
def fCM_hasShape_b55 (σ : xSt) (s0 : Int32) (s1 : Int32) : Option (Int32 × xSt) :=
  if s0 = s1 then
    some ((1 : Int32), σ)
  else
    some ((0 : Int32), σ)
set_option maxHeartbeats 4000000 in
set_option maxRecDepth 100000 in
theorem wCM_hasShape_b55 {p : Program} {l : Launch} {e : Env} {s : State} {m : MethodId} {args : Array Value} {below : List Frame} {meth : Method} {c : Code} {Q : State → Prop} {dC : Nat → ClassId} {dI : Nat → Nat → Nat} {ad : Nat → Nat} {cA : Nat → ClassId} {r : (Int32 × xSt)} (C : CallFix p m c cCM_hasShape 4 s args wAll RCM) (hK : va_K (dC, dI) vwC (mT cA) s) (hend : ∀ (v : Int32) (σ : xSt) (H : Heap) (locs : List Loc) (pc : Nat) (ls : Array Slot), (v, σ) = r → narrow .boolean (.int v) = .int v → va_P (dC, dI) vwC (mW ad cA σ) H → va_S (mA ad) s.heap H locs → decode cCM_hasShape pc = .ok (.ireturn, 1) → W p l e rm_CM_hasShape s m args below meth c H locs 0 0 Q (F0 m pc ls [.int v])) :
    ∀ (σ : xSt) (H : Heap) (locs : List Loc) (s0 : Int32) (s1 : Int32) (ls : Array Slot), va_P (dC, dI) vwC (mW ad cA σ) H → va_D (mA ad) (mW ad cA σ) → va_S (mA ad) s.heap H locs → lv_has ls 4 [] → fCM_hasShape_b55 σ s0 s1 = some r → W p l e rm_CM_hasShape s m args below meth c H locs 0 0 Q (F0 m 55 ls [.int (s1), .int (s0)]) := by
  obtain ⟨hx, hb, hml, hown, hts⟩ := id C
  intro σ H locs s0 s1 ls hP hD hS hl h
  unfold fCM_hasShape_b55 at h
  refine lv_icmp_ne (tgt := 62) hx hb dCM_hasShape_55 (by decide) (fun c8 => ?_) (fun c8 => ?_)
  · have h := (if_neg c8).symm.trans h
    refine lv_iconst (v := (0 : Int32)) hx hb dCM_hasShape_62 (by decide) ?_
    exact hend _ _ _ _ _ _ (Option.some.inj h) rfl hP hS dCM_hasShape_63
  · have h := (if_pos c8).symm.trans h
    refine lv_iconst (v := (1 : Int32)) hx hb dCM_hasShape_58 (by decide) ?_
    refine lv_goto (tgt := 63) hx hb dCM_hasShape_59 (by decide) ?_
    exact hend _ _ _ _ _ _ (Option.some.inj h) rfl hP hS dCM_hasShape_63
def fCM_hasShape_b40 (σ : xSt) (x2 : Int32) (s0 : Int32) : Option (Int32 × xSt) :=
  if x2 < 0 ∨ 5 ≤ x2.toNatClampNeg then none else
  if (σ.1 16 x2.toNatClampNeg) = (-1 : Int32) then
    fCM_hasShape_b55 σ s0 (1 : Int32)
  else
    fCM_hasShape_b55 σ s0 (0 : Int32)
set_option maxHeartbeats 4000000 in
set_option maxRecDepth 100000 in
theorem wCM_hasShape_b40 {p : Program} {l : Launch} {e : Env} {s : State} {m : MethodId} {args : Array Value} {below : List Frame} {meth : Method} {c : Code} {Q : State → Prop} {dC : Nat → ClassId} {dI : Nat → Nat → Nat} {ad : Nat → Nat} {cA : Nat → ClassId} {r : (Int32 × xSt)} (C : CallFix p m c cCM_hasShape 4 s args wAll RCM) (hK : va_K (dC, dI) vwC (mT cA) s) (hend : ∀ (v : Int32) (σ : xSt) (H : Heap) (locs : List Loc) (pc : Nat) (ls : Array Slot), (v, σ) = r → narrow .boolean (.int v) = .int v → va_P (dC, dI) vwC (mW ad cA σ) H → va_S (mA ad) s.heap H locs → decode cCM_hasShape pc = .ok (.ireturn, 1) → W p l e rm_CM_hasShape s m args below meth c H locs 0 0 Q (F0 m pc ls [.int v])) :
    ∀ (σ : xSt) (H : Heap) (locs : List Loc) (x2 : Int32) (s0 : Int32) (ls : Array Slot), va_P (dC, dI) vwC (mW ad cA σ) H → va_D (mA ad) (mW ad cA σ) → va_S (mA ad) s.heap H locs → lv_has ls 4 [(0, .ref (ad 0)), (2, .int (x2))] → fCM_hasShape_b40 σ x2 s0 = some r → W p l e rm_CM_hasShape s m args below meth c H locs 0 0 Q (F0 m 40 ls [.int (s0)]) := by
  obtain ⟨hx, hb, hml, hown, hts⟩ := id C
  intro σ H locs x2 s0 ls hP hD hS hl h
  unfold fCM_hasShape_b40 at h
  refine lv_aload_n hx hb dCM_hasShape_40 rfl (lv_at hl 0 rfl) ?_
  refine va_get (D := (dC, dI)) (ci := 5) (v := .ref (ad 16)) (C := RCM) (T := TCM) (N := 23) hx hb hts inCM hown hK hP 0 rfl rfl 18 (by decide) (hts _ mw_447) (fun _ h9 => h9) rfl dCM_hasShape_41 ?_
  refine lv_iload_n hx hb dCM_hasShape_44 rfl (lv_at hl 1 rfl) ?_
  obtain ⟨b7, h⟩ := gx_nb h
  refine va_iald hx hb hK hP 16 15 rfl rfl b7 dCM_hasShape_45 ?_
  refine lv_iconst (v := (-1 : Int32)) hx hb dCM_hasShape_46 (by decide) ?_
  refine lv_icmp_ne (tgt := 54) hx hb dCM_hasShape_47 (by decide) (fun c9 => ?_) (fun c9 => ?_)
  · have h := (if_neg c9).symm.trans h
    refine lv_iconst (v := (0 : Int32)) hx hb dCM_hasShape_54 (by decide) ?_
    exact wCM_hasShape_b55 C hK hend _ _ _ _ _ _ hP hD hS (lv_sub hl [] rfl) h
  · have h := (if_pos c9).symm.trans h
    refine lv_iconst (v := (1 : Int32)) hx hb dCM_hasShape_50 (by decide) ?_
    refine lv_goto (tgt := 55) hx hb dCM_hasShape_51 (by decide) ?_
    exact wCM_hasShape_b55 C hK hend _ _ _ _ _ _ hP hD hS (lv_sub hl [] rfl) h
def fCM_hasShape (σ : xSt) (x1 : Int32) (x2 : Int32) : Option (Int32 × xSt) :=
  gx_b2 (fCM_functionOf σ x1) fun v1 σ2 =>
  if v1 < 0 then
    some ((0 : Int32), σ2)
  else
    if v1 < 0 ∨ 60 ≤ v1.toNatClampNeg then none else
    if x2 < 0 ∨ 5 ≤ x2.toNatClampNeg then none else
    if (σ2.1 10 v1.toNatClampNeg) = (σ2.1 14 x2.toNatClampNeg) then
      if v1 < 0 ∨ 60 ≤ v1.toNatClampNeg then none else
      if (σ2.1 9 v1.toNatClampNeg) = (-1 : Int32) then
        fCM_hasShape_b40 σ2 x2 (1 : Int32)
      else
        fCM_hasShape_b40 σ2 x2 (0 : Int32)
    else
      some ((0 : Int32), σ2)
set_option maxHeartbeats 4000000 in
set_option maxRecDepth 100000 in
theorem wCM_hasShape {p : Program} {l : Launch} {e : Env} {s : State} {m : MethodId} {args : Array Value} {below : List Frame} {meth : Method} {c : Code} {Q : State → Prop} {dC : Nat → ClassId} {dI : Nat → Nat → Nat} {ad : Nat → Nat} {cA : Nat → ClassId} {r : (Int32 × xSt)} (C : CallFix p m c cCM_hasShape 4 s args wAll RCM) (hK : va_K (dC, dI) vwC (mT cA) s) (hend : ∀ (v : Int32) (σ : xSt) (H : Heap) (locs : List Loc) (pc : Nat) (ls : Array Slot), (v, σ) = r → narrow .boolean (.int v) = .int v → va_P (dC, dI) vwC (mW ad cA σ) H → va_S (mA ad) s.heap H locs → decode cCM_hasShape pc = .ok (.ireturn, 1) → W p l e rm_CM_hasShape s m args below meth c H locs 0 0 Q (F0 m pc ls [.int v])) {H : Heap} {locs : List Loc} {σ : xSt} (hP : va_P (dC, dI) vwC (mW ad cA σ) H) (hD : va_D (mA ad) (mW ad cA σ)) (hS : va_S (mA ad) s.heap H locs) {x1 : Int32} {x2 : Int32} (ls : Array Slot) (hl : lv_has ls 4 [(0, .ref (ad 0)), (1, .int (x1)), (2, .int (x2))]) (h : fCM_hasShape σ x1 x2 = some r) : W p l e rm_CM_hasShape s m args below meth c H locs 0 0 Q (F0 m 0 ls []) := by
  obtain ⟨hx, hb, hml, hown, hts⟩ := id C
  unfold fCM_hasShape at h
  refine lv_aload_n hx hb dCM_hasShape_0 rfl (lv_at hl 0 rfl) ?_
  refine lv_iload_n hx hb dCM_hasShape_1 rfl (lv_at hl 1 rfl) ?_
  obtain ⟨v1, σ2, ez3, h⟩ := gx_b2_at h
  refine gcall_i (wd := mW ad cA) (b := ad 0) (As := [.int (x1)]) (rest := []) mkeys C hK hP hD hS (ci := 5) (q0 := 0) rfl rfl (kCM_functionOf l dC dI ad cA σ x1 (v1, σ2) ez3) (cwV 1 hts (gw mw_434 mw_435 mw_436 mw_363 mw_437) rfl rfl rfl hdCM_functionOf ⟨Nat.le_of_ble_eq_true rfl, Nat.le_of_ble_eq_true rfl⟩) rfl hl.1 rfl (Nat.le_of_ble_eq_true rfl) dCM_hasShape_2 ⟨Nat.le_refl _, Nat.le_refl _⟩ (fun H locs hP hD hS => ?_)
  refine lv_istore_n (lv' := [(3, .int (v1)), (0, .ref (ad 0)), (1, .int (x1)), (2, .int (x2))]) hx hb dCM_hasShape_5 rfl hl (by decide) rfl (fun ls hl => ?_)
  refine lv_iload_n hx hb dCM_hasShape_6 rfl (lv_at hl 0 rfl) ?_
  refine lv_if_lt (tgt := 62) hx hb dCM_hasShape_7 (by decide) (fun c12 => ?_) (fun c12 => ?_)
  · have h := (if_pos c12).symm.trans h
    refine lv_iconst (v := (0 : Int32)) hx hb dCM_hasShape_62 (by decide) ?_
    exact hend _ _ _ _ _ _ (Option.some.inj h) rfl hP hS dCM_hasShape_63
  · have h := (if_neg c12).symm.trans h
    refine lv_aload_n hx hb dCM_hasShape_10 rfl (lv_at hl 1 rfl) ?_
    refine va_get (D := (dC, dI)) (ci := 5) (v := .ref (ad 10)) (C := RCM) (T := TCM) (N := 23) hx hb hts inCM hown hK hP 0 rfl rfl 11 (by decide) (hts _ mw_406) (fun _ h9 => h9) rfl dCM_hasShape_11 ?_
    refine lv_iload_n hx hb dCM_hasShape_14 rfl (lv_at hl 0 rfl) ?_
    obtain ⟨b4, h⟩ := gx_nb h
    refine va_iald hx hb hK hP 10 9 rfl rfl b4 dCM_hasShape_15 ?_
    refine lv_aload_n hx hb dCM_hasShape_16 rfl (lv_at hl 1 rfl) ?_
    refine va_get (D := (dC, dI)) (ci := 5) (v := .ref (ad 14)) (C := RCM) (T := TCM) (N := 23) hx hb hts inCM hown hK hP 0 rfl rfl 16 (by decide) (hts _ mw_445) (fun _ h9 => h9) rfl dCM_hasShape_17 ?_
    refine lv_iload_n hx hb dCM_hasShape_20 rfl (lv_at hl 3 rfl) ?_
    obtain ⟨b5, h⟩ := gx_nb h
    refine va_iald hx hb hK hP 14 13 rfl rfl b5 dCM_hasShape_21 ?_
    refine lv_icmp_ne (tgt := 62) hx hb dCM_hasShape_22 (by decide) (fun c11 => ?_) (fun c11 => ?_)
    · have h := (if_neg c11).symm.trans h
      refine lv_iconst (v := (0 : Int32)) hx hb dCM_hasShape_62 (by decide) ?_
      exact hend _ _ _ _ _ _ (Option.some.inj h) rfl hP hS dCM_hasShape_63
    · have h := (if_pos c11).symm.trans h
      refine lv_aload_n hx hb dCM_hasShape_25 rfl (lv_at hl 1 rfl) ?_
      refine va_get (D := (dC, dI)) (ci := 5) (v := .ref (ad 9)) (C := RCM) (T := TCM) (N := 23) hx hb hts inCM hown hK hP 0 rfl rfl 10 (by decide) (hts _ mw_405) (fun _ h9 => h9) rfl dCM_hasShape_26 ?_
      refine lv_iload_n hx hb dCM_hasShape_29 rfl (lv_at hl 0 rfl) ?_
      obtain ⟨b6, h⟩ := gx_nb h
      refine va_iald hx hb hK hP 9 8 rfl rfl b6 dCM_hasShape_30 ?_
      refine lv_iconst (v := (-1 : Int32)) hx hb dCM_hasShape_31 (by decide) ?_
      refine lv_icmp_ne (tgt := 39) hx hb dCM_hasShape_32 (by decide) (fun c10 => ?_) (fun c10 => ?_)
      · have h := (if_neg c10).symm.trans h
        refine lv_iconst (v := (0 : Int32)) hx hb dCM_hasShape_39 (by decide) ?_
        exact wCM_hasShape_b40 C hK hend _ _ _ _ _ _ hP hD hS (lv_sub hl [1, 3] rfl) h
      · have h := (if_pos c10).symm.trans h
        refine lv_iconst (v := (1 : Int32)) hx hb dCM_hasShape_35 (by decide) ?_
        refine lv_goto (tgt := 40) hx hb dCM_hasShape_36 (by decide) ?_
        exact wCM_hasShape_b40 C hK hend _ _ _ _ _ _ hP hD hS (lv_sub hl [1, 3] rfl) h
set_option maxHeartbeats 4000000 in
set_option maxRecDepth 100000 in
theorem kCM_hasShape (l : Launch) (dC : Nat → ClassId) (dI : Nat → Nat → Nat) (ad : Nat → Nat) (cA : Nat → ClassId) (σ : xSt) (x1 : Int32) (x2 : Int32) (r : (Int32 × xSt)) (h : fCM_hasShape σ x1 x2 = some r) : Met l yCM_hasShape wsCM_hasShape rm_CM_hasShape (va_Pc [.ref (ad 0), .int (x1), .int (x2)] (fun U => va_P (dC, dI) vwC (mW ad cA σ) U.heap ∧ va_K (dC, dI) vwC (mT cA) U ∧ va_D (mA ad) (mW ad cA σ))) (va_Qi (fun (v : Int32) (u : xSt) => (v, u) = r) (fun u t => va_P (dC, dI) vwC (mW ad cA u) t.heap) (mA ad)) 0 0 (mA ad) := by
  refine Met.ofW (cc := cCM_hasShape) (maxL := 4) (ret := (some .boolean)) (by decide) rfl ?_
  intro p e s m args below meth c s₁ B hml hv
  obtain ⟨rfl, hP, hK, hD⟩ := hv
  have hr := B.returns
  have hlocks := B.notSynchronized
  have hl := lv_entry ([.ref (ad 0), .int (x1), .int (x2)]) (n := 4) (Nat.le_of_ble_eq_true rfl)
  rw [lg_entry_eq]
  exact wCM_hasShape ⟨B.exec, B.bytes, hml, findClass_of_methodNamed B.named, fun w h => atoms_spec (ws := wsCM_hasShape) B.pre w (List.mem_cons_of_mem _ h)⟩ hK (fun v σ H locs pc ls hv hn hP hS hd => W.zret (v := v) B.exec B.bytes hr hn (fun t ht hW => ⟨⟨v, σ, rfl, hv, by show va_P _ _ _ t.heap; rw [ht]; exact hP⟩, hS.F ht⟩) hS.2.2 hd) hP hD va_S.rf _ hl h
abbrev rm_CM_passes : Room := { frames := 4, cells := 0, slots := 0, locals := 87 }
def fCM_passes (σ : xSt) (x1 : Int32) (x2 : Int32) (x3 : Int32) : Option Int32 :=
  if x3 = (1 : Int32) then
    (fCM_isIt σ x1 x2).bind fun v3 =>
    if v3 &&& 1 = v3 then
      some v3
    else none
  else
    (fCM_fitsIt σ x1 x2).bind fun v1 =>
    if v1 &&& 1 = v1 then
      some v1
    else none
set_option maxHeartbeats 4000000 in
set_option maxRecDepth 100000 in
theorem wCM_passes {p : Program} {l : Launch} {e : Env} {s : State} {m : MethodId} {args : Array Value} {below : List Frame} {meth : Method} {c : Code} {Q : State → Prop} {dC : Nat → ClassId} {dI : Nat → Nat → Nat} {ad : Nat → Nat} {cA : Nat → ClassId} {r : Int32} {H : Heap} {locs : List Loc} {σ : xSt} (C : CallFix p m c cCM_passes 4 s args wAll RCM) (hK : va_K (dC, dI) vwC (mT cA) s) (hP : va_P (dC, dI) vwC (mW ad cA σ) H) (hend : ∀ (v : Int32) (pc : Nat) (ls : Array Slot), v = r → narrow .boolean (.int v) = .int v → decode cCM_passes pc = .ok (.ireturn, 1) → W p l e rm_CM_passes s m args below meth c H locs 0 0 Q (F0 m pc ls [.int v])) {x1 : Int32} {x2 : Int32} {x3 : Int32} (ls : Array Slot) (hl : lv_has ls 4 [(0, .ref (ad 0)), (1, .int (x1)), (2, .int (x2)), (3, .int (x3))]) (h : fCM_passes σ x1 x2 x3 = some r) : W p l e rm_CM_passes s m args below meth c H locs 0 0 Q (F0 m 0 ls []) := by
  obtain ⟨hx, hb, hml, hown, hts⟩ := id C
  unfold fCM_passes at h
  refine lv_iload_n hx hb dCM_passes_0 rfl (lv_at hl 3 rfl) ?_
  refine lv_iconst (v := (1 : Int32)) hx hb dCM_passes_1 (by decide) ?_
  refine lv_icmp_ne (tgt := 14) hx hb dCM_passes_2 (by decide) (fun c5 => ?_) (fun c5 => ?_)
  · have h := (if_neg c5).symm.trans h
    refine lv_aload_n hx hb dCM_passes_14 rfl (lv_at hl 0 rfl) ?_
    refine lv_iload_n hx hb dCM_passes_15 rfl (lv_at hl 1 rfl) ?_
    refine lv_iload_n hx hb dCM_passes_16 rfl (lv_at hl 2 rfl) ?_
    obtain ⟨v1, ev1, h⟩ := Option.bind_eq_some_iff.mp h
    refine gcall_r (b := ad 0) (As := [.int (x1), .int (x2)]) (rest := []) C hK hP (ci := 5) (q0 := 0) rfl rfl (kCM_fitsIt l dC dI ad cA σ x1 x2 v1 ev1) (cwV 2 hts (gw mw_397 mw_398 mw_399 mw_363 mw_400) rfl rfl rfl hdCM_fitsIt ⟨Nat.le_of_ble_eq_true rfl, Nat.le_of_ble_eq_true rfl⟩) rfl hl.1 rfl (Nat.le_of_ble_eq_true rfl) dCM_passes_17 ⟨Nat.le_refl _, Nat.le_refl _⟩ ?_
    obtain ⟨b2, h⟩ := gx_gd h
    exact hend _ _ _ (Option.some.inj h) (gx_nar b2) dCM_passes_20
  · have h := (if_pos c5).symm.trans h
    refine lv_aload_n hx hb dCM_passes_5 rfl (lv_at hl 0 rfl) ?_
    refine lv_iload_n hx hb dCM_passes_6 rfl (lv_at hl 1 rfl) ?_
    refine lv_iload_n hx hb dCM_passes_7 rfl (lv_at hl 2 rfl) ?_
    obtain ⟨v3, ev3, h⟩ := Option.bind_eq_some_iff.mp h
    refine gcall_r (b := ad 0) (As := [.int (x1), .int (x2)]) (rest := []) C hK hP (ci := 5) (q0 := 0) rfl rfl (kCM_isIt l dC dI ad cA σ x1 x2 v3 ev3) (cwV 2 hts (gw mw_390 mw_391 mw_392 mw_363 mw_393) rfl rfl rfl hdCM_isIt ⟨Nat.le_of_ble_eq_true rfl, Nat.le_of_ble_eq_true rfl⟩) rfl hl.1 rfl (Nat.le_of_ble_eq_true rfl) dCM_passes_8 ⟨Nat.le_refl _, Nat.le_refl _⟩ ?_
    refine lv_goto (tgt := 20) hx hb dCM_passes_11 (by decide) ?_
    obtain ⟨b4, h⟩ := gx_gd h
    exact hend _ _ _ (Option.some.inj h) (gx_nar b4) dCM_passes_20
set_option maxHeartbeats 4000000 in
set_option maxRecDepth 100000 in
theorem kCM_passes (l : Launch) (dC : Nat → ClassId) (dI : Nat → Nat → Nat) (ad : Nat → Nat) (cA : Nat → ClassId) (σ : xSt) (x1 : Int32) (x2 : Int32) (x3 : Int32) (r : Int32) (h : fCM_passes σ x1 x2 x3 = some r) : Met l yCM_passes wsCM_passes rm_CM_passes (va_Pc [.ref (ad 0), .int (x1), .int (x2), .int (x3)] (fun U => va_P (dC, dI) vwC (mW ad cA σ) U.heap ∧ va_K (dC, dI) vwC (mT cA) U)) (vp_Si (fun v => v = r)) 0 0 (fun _ => False) := by
  refine Met.ofW (cc := cCM_passes) (maxL := 4) (ret := (some .boolean)) (by decide) rfl ?_
  intro p e s m args below meth c s₁ B hml hv
  obtain ⟨rfl, hP, hK⟩ := hv
  have hr := B.returns
  have hlocks := B.notSynchronized
  have hl := lv_entry ([.ref (ad 0), .int (x1), .int (x2), .int (x3)]) (n := 4) (Nat.le_of_ble_eq_true rfl)
  rw [lg_entry_eq]
  exact wCM_passes ⟨B.exec, B.bytes, hml, findClass_of_methodNamed B.named, fun w h => atoms_spec (ws := wsCM_passes) B.pre w (List.mem_cons_of_mem _ h)⟩ hK hP (fun v pc ls hv hn hd => W.zret (v := v) B.exec B.bytes hr hn (fun t ht hW => ⟨v, rfl, hv, ht⟩) (fun q hq => absurd hq List.not_mem_nil) hd) _ hl h
abbrev rm_CM_takes : Room := { frames := 7, cells := 0, slots := 0, locals := 157 }
def fCM_takes_b111 (σ : xSt) (x2 : Int32) (x3 : Int32) (x4 : Int32) (x5 : Int32) : Option (Int32 × xSt) :=
  if x5 = 0 then
    some ((0 : Int32), σ)
  else
    if x2 < 0 ∨ 5 ≤ x2.toNatClampNeg then none else
    if (σ.1 13 x2.toNatClampNeg) = (1 : Int32) then
      some ((1 : Int32), σ)
    else
      if x2 < 0 ∨ 5 ≤ x2.toNatClampNeg then none else
      if (σ.1 16 x2.toNatClampNeg) = (-1 : Int32) then
        some ((1 : Int32), σ)
      else
        if x2 < 0 ∨ 5 ≤ x2.toNatClampNeg then none else
        if x4 < 0 ∨ 60 ≤ x4.toNatClampNeg then none else
        (fCM_passes σ (σ.1 16 x2.toNatClampNeg) (σ.1 9 x4.toNatClampNeg) x3).bind fun v13 =>
        if v13 = 0 then
          some ((0 : Int32), σ)
        else
          some ((1 : Int32), σ)
set_option maxHeartbeats 4000000 in
set_option maxRecDepth 100000 in
theorem wCM_takes_b111 {p : Program} {l : Launch} {e : Env} {s : State} {m : MethodId} {args : Array Value} {below : List Frame} {meth : Method} {c : Code} {Q : State → Prop} {dC : Nat → ClassId} {dI : Nat → Nat → Nat} {ad : Nat → Nat} {cA : Nat → ClassId} {r : (Int32 × xSt)} (C : CallFix p m c cCM_takes 7 s args wAll RCM) (hK : va_K (dC, dI) vwC (mT cA) s) (hend : ∀ (v : Int32) (σ : xSt) (H : Heap) (locs : List Loc) (pc : Nat) (ls : Array Slot), (v, σ) = r → narrow .boolean (.int v) = .int v → va_P (dC, dI) vwC (mW ad cA σ) H → va_S (mA ad) s.heap H locs → decode cCM_takes pc = .ok (.ireturn, 1) → W p l e rm_CM_takes s m args below meth c H locs 0 0 Q (F0 m pc ls [.int v])) :
    ∀ (σ : xSt) (H : Heap) (locs : List Loc) (x2 : Int32) (x3 : Int32) (x4 : Int32) (x5 : Int32) (ls : Array Slot), va_P (dC, dI) vwC (mW ad cA σ) H → va_D (mA ad) (mW ad cA σ) → va_S (mA ad) s.heap H locs → lv_has ls 7 [(0, .ref (ad 0)), (2, .int (x2)), (3, .int (x3)), (4, .int (x4)), (5, .int (x5))] → fCM_takes_b111 σ x2 x3 x4 x5 = some r → W p l e rm_CM_takes s m args below meth c H locs 0 0 Q (F0 m 111 ls []) := by
  obtain ⟨hx, hb, hml, hown, hts⟩ := id C
  intro σ H locs x2 x3 x4 x5 ls hP hD hS hl h
  unfold fCM_takes_b111 at h
  refine lv_iload hx hb dCM_takes_111 (lv_at hl 4 rfl) ?_
  refine lv_if_eq (tgt := 161) hx hb dCM_takes_113 (by decide) (fun c17 => ?_) (fun c17 => ?_)
  · have h := (if_pos c17).symm.trans h
    refine lv_iconst (v := (0 : Int32)) hx hb dCM_takes_161 (by decide) ?_
    exact hend _ _ _ _ _ _ (Option.some.inj h) rfl hP hS dCM_takes_162
  · have h := (if_neg c17).symm.trans h
    refine lv_aload_n hx hb dCM_takes_116 rfl (lv_at hl 0 rfl) ?_
    refine va_get (D := (dC, dI)) (ci := 5) (v := .ref (ad 13)) (C := RCM) (T := TCM) (N := 23) hx hb hts inCM hown hK hP 0 rfl rfl 15 (by decide) (hts _ mw_444) (fun _ h9 => h9) rfl dCM_takes_117 ?_
    refine lv_iload_n hx hb dCM_takes_120 rfl (lv_at hl 1 rfl) ?_
    obtain ⟨b9, h⟩ := gx_nb h
    refine va_iald hx hb hK hP 13 12 rfl rfl b9 dCM_takes_121 ?_
    refine lv_iconst (v := (1 : Int32)) hx hb dCM_takes_122 (by decide) ?_
    refine lv_icmp_eq (tgt := 157) hx hb dCM_takes_123 (by decide) (fun c16 => ?_) (fun c16 => ?_)
    · have h := (if_pos c16).symm.trans h
      refine lv_iconst (v := (1 : Int32)) hx hb dCM_takes_157 (by decide) ?_
      refine lv_goto (tgt := 162) hx hb dCM_takes_158 (by decide) ?_
      exact hend _ _ _ _ _ _ (Option.some.inj h) rfl hP hS dCM_takes_162
    · have h := (if_neg c16).symm.trans h
      refine lv_aload_n hx hb dCM_takes_126 rfl (lv_at hl 0 rfl) ?_
      refine va_get (D := (dC, dI)) (ci := 5) (v := .ref (ad 16)) (C := RCM) (T := TCM) (N := 23) hx hb hts inCM hown hK hP 0 rfl rfl 18 (by decide) (hts _ mw_447) (fun _ h9 => h9) rfl dCM_takes_127 ?_
      refine lv_iload_n hx hb dCM_takes_130 rfl (lv_at hl 1 rfl) ?_
      obtain ⟨b10, h⟩ := gx_nb h
      refine va_iald hx hb hK hP 16 15 rfl rfl b10 dCM_takes_131 ?_
      refine lv_iconst (v := (-1 : Int32)) hx hb dCM_takes_132 (by decide) ?_
      refine lv_icmp_eq (tgt := 157) hx hb dCM_takes_133 (by decide) (fun c15 => ?_) (fun c15 => ?_)
      · have h := (if_pos c15).symm.trans h
        refine lv_iconst (v := (1 : Int32)) hx hb dCM_takes_157 (by decide) ?_
        refine lv_goto (tgt := 162) hx hb dCM_takes_158 (by decide) ?_
        exact hend _ _ _ _ _ _ (Option.some.inj h) rfl hP hS dCM_takes_162
      · have h := (if_neg c15).symm.trans h
        refine lv_aload_n hx hb dCM_takes_136 rfl (lv_at hl 0 rfl) ?_
        refine lv_aload_n hx hb dCM_takes_137 rfl (lv_at hl 0 rfl) ?_
        refine va_get (D := (dC, dI)) (ci := 5) (v := .ref (ad 16)) (C := RCM) (T := TCM) (N := 23) hx hb hts inCM hown hK hP 0 rfl rfl 18 (by decide) (hts _ mw_447) (fun _ h9 => h9) rfl dCM_takes_138 ?_
        refine lv_iload_n hx hb dCM_takes_141 rfl (lv_at hl 1 rfl) ?_
        obtain ⟨b11, h⟩ := gx_nb h
        refine va_iald hx hb hK hP 16 15 rfl rfl b11 dCM_takes_142 ?_
        refine lv_aload_n hx hb dCM_takes_143 rfl (lv_at hl 0 rfl) ?_
        refine va_get (D := (dC, dI)) (ci := 5) (v := .ref (ad 9)) (C := RCM) (T := TCM) (N := 23) hx hb hts inCM hown hK hP 0 rfl rfl 10 (by decide) (hts _ mw_405) (fun _ h9 => h9) rfl dCM_takes_144 ?_
        refine lv_iload hx hb dCM_takes_147 (lv_at hl 3 rfl) ?_
        obtain ⟨b12, h⟩ := gx_nb h
        refine va_iald hx hb hK hP 9 8 rfl rfl b12 dCM_takes_149 ?_
        refine lv_iload_n hx hb dCM_takes_150 rfl (lv_at hl 2 rfl) ?_
        obtain ⟨v13, ev13, h⟩ := Option.bind_eq_some_iff.mp h
        refine gcall_r (b := ad 0) (As := [.int (σ.1 16 x2.toNatClampNeg), .int (σ.1 9 x4.toNatClampNeg), .int (x3)]) (rest := []) C hK hP (ci := 5) (q0 := 0) rfl rfl (kCM_passes l dC dI ad cA σ (σ.1 16 x2.toNatClampNeg) (σ.1 9 x4.toNatClampNeg) x3 v13 ev13) (cwV 3 hts (gw mw_471 mw_472 mw_473 mw_363 mw_474) rfl rfl rfl hdCM_passes ⟨Nat.le_of_ble_eq_true rfl, Nat.le_of_ble_eq_true rfl⟩) rfl hl.1 rfl (Nat.le_of_ble_eq_true rfl) dCM_takes_151 ⟨Nat.le_refl _, Nat.le_refl _⟩ ?_
        refine lv_if_eq (tgt := 161) hx hb dCM_takes_154 (by decide) (fun c14 => ?_) (fun c14 => ?_)
        · have h := (if_pos c14).symm.trans h
          refine lv_iconst (v := (0 : Int32)) hx hb dCM_takes_161 (by decide) ?_
          exact hend _ _ _ _ _ _ (Option.some.inj h) rfl hP hS dCM_takes_162
        · have h := (if_neg c14).symm.trans h
          refine lv_iconst (v := (1 : Int32)) hx hb dCM_takes_157 (by decide) ?_
          refine lv_goto (tgt := 162) hx hb dCM_takes_158 (by decide) ?_
          exact hend _ _ _ _ _ _ (Option.some.inj h) rfl hP hS dCM_takes_162
def fCM_takes_b103 (k46 : xSt → Int32 → Int32 → Int32 → Int32 → Int32 → Option (Int32 × xSt)) (σ : xSt) (x2 : Int32) (x3 : Int32) (x4 : Int32) (x6 : Int32) (s0 : Int32) : Option (Int32 × xSt) :=
  k46 σ x2 x3 x4 s0 (x6 + (1 : Int32))
set_option maxHeartbeats 4000000 in
set_option maxRecDepth 100000 in
theorem wCM_takes_b103 {p : Program} {l : Launch} {e : Env} {s : State} {m : MethodId} {args : Array Value} {below : List Frame} {meth : Method} {c : Code} {Q : State → Prop} {dC : Nat → ClassId} {dI : Nat → Nat → Nat} {ad : Nat → Nat} {cA : Nat → ClassId} {r : (Int32 × xSt)} (C : CallFix p m c cCM_takes 7 s args wAll RCM) (hK : va_K (dC, dI) vwC (mT cA) s) (hend : ∀ (v : Int32) (σ : xSt) (H : Heap) (locs : List Loc) (pc : Nat) (ls : Array Slot), (v, σ) = r → narrow .boolean (.int v) = .int v → va_P (dC, dI) vwC (mW ad cA σ) H → va_S (mA ad) s.heap H locs → decode cCM_takes pc = .ok (.ireturn, 1) → W p l e rm_CM_takes s m args below meth c H locs 0 0 Q (F0 m pc ls [.int v])) {k46 : xSt → Int32 → Int32 → Int32 → Int32 → Int32 → Option (Int32 × xSt)} (hk46 : ∀ (σ : xSt) (H : Heap) (locs : List Loc) (x2 : Int32) (x3 : Int32) (x4 : Int32) (x5 : Int32) (x6 : Int32) (ls : Array Slot), va_P (dC, dI) vwC (mW ad cA σ) H → va_D (mA ad) (mW ad cA σ) → va_S (mA ad) s.heap H locs → lv_has ls 7 [(0, .ref (ad 0)), (2, .int (x2)), (3, .int (x3)), (4, .int (x4)), (5, .int (x5)), (6, .int (x6))] → k46 σ x2 x3 x4 x5 x6 = some r → W p l e rm_CM_takes s m args below meth c H locs 0 0 Q (F0 m 46 ls [])) :
    ∀ (σ : xSt) (H : Heap) (locs : List Loc) (x2 : Int32) (x3 : Int32) (x4 : Int32) (x6 : Int32) (s0 : Int32) (ls : Array Slot), va_P (dC, dI) vwC (mW ad cA σ) H → va_D (mA ad) (mW ad cA σ) → va_S (mA ad) s.heap H locs → lv_has ls 7 [(0, .ref (ad 0)), (2, .int (x2)), (3, .int (x3)), (4, .int (x4)), (6, .int (x6))] → fCM_takes_b103 k46 σ x2 x3 x4 x6 s0 = some r → W p l e rm_CM_takes s m args below meth c H locs 0 0 Q (F0 m 103 ls [.int (s0)]) := by
  obtain ⟨hx, hb, hml, hown, hts⟩ := id C
  intro σ H locs x2 x3 x4 x6 s0 ls hP hD hS hl h
  unfold fCM_takes_b103 at h
  refine lv_istore (lv' := [(5, .int (s0)), (0, .ref (ad 0)), (2, .int (x2)), (3, .int (x3)), (4, .int (x4)), (6, .int (x6))]) hx hb dCM_takes_103 hl (by decide) rfl (fun ls hl => ?_)
  refine lv_iinc (v := x6 + (1 : Int32)) (lv' := [(6, .int (x6 + (1 : Int32))), (5, .int (s0)), (0, .ref (ad 0)), (2, .int (x2)), (3, .int (x3)), (4, .int (x4))]) hx hb dCM_takes_105 hl (k := 5) rfl rfl (by decide) rfl (fun ls hl => ?_)
  refine lv_goto (tgt := 46) hx hb dCM_takes_108 (by decide) ?_
  exact hk46 _ _ _ _ _ _ _ _ _ hP hD hS (lv_sub hl [2, 3, 4, 5, 1, 0] rfl) h
def fCM_takes_b102 (k46 : xSt → Int32 → Int32 → Int32 → Int32 → Int32 → Option (Int32 × xSt)) (σ : xSt) (x2 : Int32) (x3 : Int32) (x4 : Int32) (x6 : Int32) : Option (Int32 × xSt) :=
  fCM_takes_b103 k46 σ x2 x3 x4 x6 (0 : Int32)
set_option maxHeartbeats 4000000 in
set_option maxRecDepth 100000 in
theorem wCM_takes_b102 {p : Program} {l : Launch} {e : Env} {s : State} {m : MethodId} {args : Array Value} {below : List Frame} {meth : Method} {c : Code} {Q : State → Prop} {dC : Nat → ClassId} {dI : Nat → Nat → Nat} {ad : Nat → Nat} {cA : Nat → ClassId} {r : (Int32 × xSt)} (C : CallFix p m c cCM_takes 7 s args wAll RCM) (hK : va_K (dC, dI) vwC (mT cA) s) (hend : ∀ (v : Int32) (σ : xSt) (H : Heap) (locs : List Loc) (pc : Nat) (ls : Array Slot), (v, σ) = r → narrow .boolean (.int v) = .int v → va_P (dC, dI) vwC (mW ad cA σ) H → va_S (mA ad) s.heap H locs → decode cCM_takes pc = .ok (.ireturn, 1) → W p l e rm_CM_takes s m args below meth c H locs 0 0 Q (F0 m pc ls [.int v])) {k46 : xSt → Int32 → Int32 → Int32 → Int32 → Int32 → Option (Int32 × xSt)} (hk46 : ∀ (σ : xSt) (H : Heap) (locs : List Loc) (x2 : Int32) (x3 : Int32) (x4 : Int32) (x5 : Int32) (x6 : Int32) (ls : Array Slot), va_P (dC, dI) vwC (mW ad cA σ) H → va_D (mA ad) (mW ad cA σ) → va_S (mA ad) s.heap H locs → lv_has ls 7 [(0, .ref (ad 0)), (2, .int (x2)), (3, .int (x3)), (4, .int (x4)), (5, .int (x5)), (6, .int (x6))] → k46 σ x2 x3 x4 x5 x6 = some r → W p l e rm_CM_takes s m args below meth c H locs 0 0 Q (F0 m 46 ls [])) :
    ∀ (σ : xSt) (H : Heap) (locs : List Loc) (x2 : Int32) (x3 : Int32) (x4 : Int32) (x6 : Int32) (ls : Array Slot), va_P (dC, dI) vwC (mW ad cA σ) H → va_D (mA ad) (mW ad cA σ) → va_S (mA ad) s.heap H locs → lv_has ls 7 [(0, .ref (ad 0)), (2, .int (x2)), (3, .int (x3)), (4, .int (x4)), (6, .int (x6))] → fCM_takes_b102 k46 σ x2 x3 x4 x6 = some r → W p l e rm_CM_takes s m args below meth c H locs 0 0 Q (F0 m 102 ls []) := by
  obtain ⟨hx, hb, hml, hown, hts⟩ := id C
  intro σ H locs x2 x3 x4 x6 ls hP hD hS hl h
  unfold fCM_takes_b102 at h
  refine lv_iconst (v := (0 : Int32)) hx hb dCM_takes_102 (by decide) ?_
  exact wCM_takes_b103 C hK hend hk46 _ _ _ _ _ _ _ _ _ hP hD hS (lv_sub hl [0, 1, 2, 3, 4] rfl) h
def fCM_takes_b46 : Nat → xSt → Int32 → Int32 → Int32 → Int32 → Int32 → Option (Int32 × xSt)
  | 0, _, _, _, _, _, _ => none
  | n + 1, σ, x2, x3, x4, x5, x6 =>
    if x2 < 0 ∨ 5 ≤ x2.toNatClampNeg then none else
    if (σ.1 14 x2.toNatClampNeg) ≤ x6 then
      fCM_takes_b111 σ x2 x3 x4 x5
    else
      if x2 < 0 ∨ 5 ≤ x2.toNatClampNeg then none else
      if (σ.1 13 x2.toNatClampNeg) = (2 : Int32) then
        if x5 = 0 then
          fCM_takes_b102 (fCM_takes_b46 n) σ x2 x3 x4 x6
        else
          if (((4 : Int32) * x4) + x6) < 0 ∨ 240 ≤ (((4 : Int32) * x4) + x6).toNatClampNeg then none else
          if (((2 : Int32) * x2) + x6) < 0 ∨ 10 ≤ (((2 : Int32) * x2) + x6).toNatClampNeg then none else
          if (σ.1 11 (((4 : Int32) * x4) + x6).toNatClampNeg) = (σ.1 15 (((2 : Int32) * x2) + x6).toNatClampNeg) then
            fCM_takes_b103 (fCM_takes_b46 n) σ x2 x3 x4 x6 (1 : Int32)
          else
            fCM_takes_b102 (fCM_takes_b46 n) σ x2 x3 x4 x6
      else
        fCM_takes_b111 σ x2 x3 x4 x5
set_option maxHeartbeats 4000000 in
set_option maxRecDepth 100000 in
theorem wCM_takes_b46 {p : Program} {l : Launch} {e : Env} {s : State} {m : MethodId} {args : Array Value} {below : List Frame} {meth : Method} {c : Code} {Q : State → Prop} {dC : Nat → ClassId} {dI : Nat → Nat → Nat} {ad : Nat → Nat} {cA : Nat → ClassId} {r : (Int32 × xSt)} (C : CallFix p m c cCM_takes 7 s args wAll RCM) (hK : va_K (dC, dI) vwC (mT cA) s) (hend : ∀ (v : Int32) (σ : xSt) (H : Heap) (locs : List Loc) (pc : Nat) (ls : Array Slot), (v, σ) = r → narrow .boolean (.int v) = .int v → va_P (dC, dI) vwC (mW ad cA σ) H → va_S (mA ad) s.heap H locs → decode cCM_takes pc = .ok (.ireturn, 1) → W p l e rm_CM_takes s m args below meth c H locs 0 0 Q (F0 m pc ls [.int v])) :
    ∀ (n : Nat) (σ : xSt) (H : Heap) (locs : List Loc) (x2 : Int32) (x3 : Int32) (x4 : Int32) (x5 : Int32) (x6 : Int32) (ls : Array Slot), va_P (dC, dI) vwC (mW ad cA σ) H → va_D (mA ad) (mW ad cA σ) → va_S (mA ad) s.heap H locs → lv_has ls 7 [(0, .ref (ad 0)), (2, .int (x2)), (3, .int (x3)), (4, .int (x4)), (5, .int (x5)), (6, .int (x6))] → fCM_takes_b46 n σ x2 x3 x4 x5 x6 = some r → W p l e rm_CM_takes s m args below meth c H locs 0 0 Q (F0 m 46 ls []) := by
  obtain ⟨hx, hb, hml, hown, hts⟩ := id C
  intro n
  induction n with
  | zero =>
    intro σ H locs x2 x3 x4 x5 x6 ls hP hD hS hl h
    rw [fCM_takes_b46] at h
    cases h
  | succ n ih =>
    intro σ H locs x2 x3 x4 x5 x6 ls hP hD hS hl h
    rw [fCM_takes_b46] at h
    refine lv_iload hx hb dCM_takes_46 (lv_at hl 5 rfl) ?_
    refine lv_aload_n hx hb dCM_takes_48 rfl (lv_at hl 0 rfl) ?_
    refine va_get (D := (dC, dI)) (ci := 5) (v := .ref (ad 14)) (C := RCM) (T := TCM) (N := 23) hx hb hts inCM hown hK hP 0 rfl rfl 16 (by decide) (hts _ mw_445) (fun _ h9 => h9) rfl dCM_takes_49 ?_
    refine lv_iload_n hx hb dCM_takes_52 rfl (lv_at hl 1 rfl) ?_
    obtain ⟨b8, h⟩ := gx_nb h
    refine va_iald hx hb hK hP 14 13 rfl rfl b8 dCM_takes_53 ?_
    refine lv_icmp_ge (tgt := 111) hx hb dCM_takes_54 (by decide) (fun c24 => ?_) (fun c24 => ?_)
    · have h := (if_pos c24).symm.trans h
      exact wCM_takes_b111 C hK hend _ _ _ _ _ _ _ _ hP hD hS (lv_sub hl [0, 1, 2, 3, 4] rfl) h
    · have h := (if_neg c24).symm.trans h
      refine lv_aload_n hx hb dCM_takes_57 rfl (lv_at hl 0 rfl) ?_
      refine va_get (D := (dC, dI)) (ci := 5) (v := .ref (ad 13)) (C := RCM) (T := TCM) (N := 23) hx hb hts inCM hown hK hP 0 rfl rfl 15 (by decide) (hts _ mw_444) (fun _ h9 => h9) rfl dCM_takes_58 ?_
      refine lv_iload_n hx hb dCM_takes_61 rfl (lv_at hl 1 rfl) ?_
      obtain ⟨b18, h⟩ := gx_nb h
      refine va_iald hx hb hK hP 13 12 rfl rfl b18 dCM_takes_62 ?_
      refine lv_iconst (v := (2 : Int32)) hx hb dCM_takes_63 (by decide) ?_
      refine lv_icmp_ne (tgt := 111) hx hb dCM_takes_64 (by decide) (fun c23 => ?_) (fun c23 => ?_)
      · have h := (if_neg c23).symm.trans h
        exact wCM_takes_b111 C hK hend _ _ _ _ _ _ _ _ hP hD hS (lv_sub hl [0, 1, 2, 3, 4] rfl) h
      · have h := (if_pos c23).symm.trans h
        refine lv_iload hx hb dCM_takes_67 (lv_at hl 4 rfl) ?_
        refine lv_if_eq (tgt := 102) hx hb dCM_takes_69 (by decide) (fun c22 => ?_) (fun c22 => ?_)
        · have h := (if_pos c22).symm.trans h
          exact wCM_takes_b102 C hK hend ih _ _ _ _ _ _ _ _ hP hD hS (lv_sub hl [0, 1, 2, 3, 5] rfl) h
        · have h := (if_neg c22).symm.trans h
          refine lv_aload_n hx hb dCM_takes_72 rfl (lv_at hl 0 rfl) ?_
          refine va_get (D := (dC, dI)) (ci := 5) (v := .ref (ad 11)) (C := RCM) (T := TCM) (N := 23) hx hb hts inCM hown hK hP 0 rfl rfl 12 (by decide) (hts _ mw_407) (fun _ h9 => h9) rfl dCM_takes_73 ?_
          refine lv_iconst (v := (4 : Int32)) hx hb dCM_takes_76 (by decide) ?_
          refine lv_iload hx hb dCM_takes_77 (lv_at hl 3 rfl) ?_
          refine lv_imul hx hb dCM_takes_79 ?_
          refine lv_iload hx hb dCM_takes_80 (lv_at hl 5 rfl) ?_
          refine lv_iadd hx hb dCM_takes_82 ?_
          obtain ⟨b19, h⟩ := gx_nb h
          refine va_iald hx hb hK hP 11 10 rfl rfl b19 dCM_takes_83 ?_
          refine lv_aload_n hx hb dCM_takes_84 rfl (lv_at hl 0 rfl) ?_
          refine va_get (D := (dC, dI)) (ci := 5) (v := .ref (ad 15)) (C := RCM) (T := TCM) (N := 23) hx hb hts inCM hown hK hP 0 rfl rfl 17 (by decide) (hts _ mw_446) (fun _ h9 => h9) rfl dCM_takes_85 ?_
          refine lv_iconst (v := (2 : Int32)) hx hb dCM_takes_88 (by decide) ?_
          refine lv_iload_n hx hb dCM_takes_89 rfl (lv_at hl 1 rfl) ?_
          refine lv_imul hx hb dCM_takes_90 ?_
          refine lv_iload hx hb dCM_takes_91 (lv_at hl 5 rfl) ?_
          refine lv_iadd hx hb dCM_takes_93 ?_
          obtain ⟨b20, h⟩ := gx_nb h
          refine va_iald hx hb hK hP 15 14 rfl rfl b20 dCM_takes_94 ?_
          refine lv_icmp_ne (tgt := 102) hx hb dCM_takes_95 (by decide) (fun c21 => ?_) (fun c21 => ?_)
          · have h := (if_neg c21).symm.trans h
            exact wCM_takes_b102 C hK hend ih _ _ _ _ _ _ _ _ hP hD hS (lv_sub hl [0, 1, 2, 3, 5] rfl) h
          · have h := (if_pos c21).symm.trans h
            refine lv_iconst (v := (1 : Int32)) hx hb dCM_takes_98 (by decide) ?_
            refine lv_goto (tgt := 103) hx hb dCM_takes_99 (by decide) ?_
            exact wCM_takes_b103 C hK hend ih _ _ _ _ _ _ _ _ _ hP hD hS (lv_sub hl [0, 1, 2, 3, 5] rfl) h
def fCM_takes (σ : xSt) (x1 : Int32) (x2 : Int32) (x3 : Int32) : Option (Int32 × xSt) :=
  if x2 < 0 ∨ 5 ≤ x2.toNatClampNeg then none else
  if (σ.1 13 x2.toNatClampNeg) = 0 then
    if x2 < 0 ∨ 5 ≤ x2.toNatClampNeg then none else
    (fCM_passes σ (σ.1 12 x2.toNatClampNeg) x1 x3).bind fun v27 =>
    if v27 &&& 1 = v27 then
      some (v27, σ)
    else none
  else
    gx_b2 (fCM_hasShape σ x1 x2) fun v2 σ3 =>
    if v2 = 0 then
      some ((0 : Int32), σ3)
    else
      gx_b2 (fCM_functionOf σ3 x1) fun v5 σ6 =>
      fCM_takes_b46 gF σ6 x2 x3 v5 (1 : Int32) (0 : Int32)
set_option maxHeartbeats 4000000 in
set_option maxRecDepth 100000 in
theorem wCM_takes {p : Program} {l : Launch} {e : Env} {s : State} {m : MethodId} {args : Array Value} {below : List Frame} {meth : Method} {c : Code} {Q : State → Prop} {dC : Nat → ClassId} {dI : Nat → Nat → Nat} {ad : Nat → Nat} {cA : Nat → ClassId} {r : (Int32 × xSt)} (C : CallFix p m c cCM_takes 7 s args wAll RCM) (hK : va_K (dC, dI) vwC (mT cA) s) (hend : ∀ (v : Int32) (σ : xSt) (H : Heap) (locs : List Loc) (pc : Nat) (ls : Array Slot), (v, σ) = r → narrow .boolean (.int v) = .int v → va_P (dC, dI) vwC (mW ad cA σ) H → va_S (mA ad) s.heap H locs → decode cCM_takes pc = .ok (.ireturn, 1) → W p l e rm_CM_takes s m args below meth c H locs 0 0 Q (F0 m pc ls [.int v])) {H : Heap} {locs : List Loc} {σ : xSt} (hP : va_P (dC, dI) vwC (mW ad cA σ) H) (hD : va_D (mA ad) (mW ad cA σ)) (hS : va_S (mA ad) s.heap H locs) {x1 : Int32} {x2 : Int32} {x3 : Int32} (ls : Array Slot) (hl : lv_has ls 7 [(0, .ref (ad 0)), (1, .int (x1)), (2, .int (x2)), (3, .int (x3))]) (h : fCM_takes σ x1 x2 x3 = some r) : W p l e rm_CM_takes s m args below meth c H locs 0 0 Q (F0 m 0 ls []) := by
  obtain ⟨hx, hb, hml, hown, hts⟩ := id C
  unfold fCM_takes at h
  refine lv_aload_n hx hb dCM_takes_0 rfl (lv_at hl 0 rfl) ?_
  refine va_get (D := (dC, dI)) (ci := 5) (v := .ref (ad 13)) (C := RCM) (T := TCM) (N := 23) hx hb hts inCM hown hK hP 0 rfl rfl 15 (by decide) (hts _ mw_444) (fun _ h9 => h9) rfl dCM_takes_1 ?_
  refine lv_iload_n hx hb dCM_takes_4 rfl (lv_at hl 2 rfl) ?_
  obtain ⟨b1, h⟩ := gx_nb h
  refine va_iald hx hb hK hP 13 12 rfl rfl b1 dCM_takes_5 ?_
  refine lv_if_ne (tgt := 22) hx hb dCM_takes_6 (by decide) (fun c29 => ?_) (fun c29 => ?_)
  · have h := (if_neg c29).symm.trans h
    refine lv_aload_n hx hb dCM_takes_22 rfl (lv_at hl 0 rfl) ?_
    refine lv_iload_n hx hb dCM_takes_23 rfl (lv_at hl 1 rfl) ?_
    refine lv_iload_n hx hb dCM_takes_24 rfl (lv_at hl 2 rfl) ?_
    obtain ⟨v2, σ3, ez4, h⟩ := gx_b2_at h
    refine gcall_i (wd := mW ad cA) (b := ad 0) (As := [.int (x1), .int (x2)]) (rest := []) mkeys C hK hP hD hS (ci := 5) (q0 := 0) rfl rfl (kCM_hasShape l dC dI ad cA σ x1 x2 (v2, σ3) ez4) (cwV 2 hts (gw mw_467 mw_468 mw_469 mw_363 mw_470) rfl rfl rfl hdCM_hasShape ⟨Nat.le_of_ble_eq_true rfl, Nat.le_of_ble_eq_true rfl⟩) rfl hl.1 rfl (Nat.le_of_ble_eq_true rfl) dCM_takes_25 ⟨Nat.le_refl _, Nat.le_refl _⟩ (fun H locs hP hD hS => ?_)
    refine lv_if_ne (tgt := 33) hx hb dCM_takes_28 (by decide) (fun c25 => ?_) (fun c25 => ?_)
    · have h := (if_neg c25).symm.trans h
      refine lv_aload_n hx hb dCM_takes_33 rfl (lv_at hl 0 rfl) ?_
      refine lv_iload_n hx hb dCM_takes_34 rfl (lv_at hl 1 rfl) ?_
      obtain ⟨v5, σ6, ez7, h⟩ := gx_b2_at h
      refine gcall_i (wd := mW ad cA) (b := ad 0) (As := [.int (x1)]) (rest := []) mkeys C hK hP hD hS (ci := 5) (q0 := 0) rfl rfl (kCM_functionOf l dC dI ad cA σ3 x1 (v5, σ6) ez7) (cwV 1 hts (gw mw_434 mw_435 mw_436 mw_363 mw_437) rfl rfl rfl hdCM_functionOf ⟨Nat.le_of_ble_eq_true rfl, Nat.le_of_ble_eq_true rfl⟩) rfl hl.1 rfl (Nat.le_of_ble_eq_true rfl) dCM_takes_35 ⟨Nat.le_refl _, Nat.le_refl _⟩ (fun H locs hP hD hS => ?_)
      refine lv_istore (lv' := [(4, .int (v5)), (0, .ref (ad 0)), (1, .int (x1)), (2, .int (x2)), (3, .int (x3))]) hx hb dCM_takes_38 hl (by decide) rfl (fun ls hl => ?_)
      refine lv_iconst (v := (1 : Int32)) hx hb dCM_takes_40 (by decide) ?_
      refine lv_istore (lv' := [(5, .int ((1 : Int32))), (4, .int (v5)), (0, .ref (ad 0)), (1, .int (x1)), (2, .int (x2)), (3, .int (x3))]) hx hb dCM_takes_41 hl (by decide) rfl (fun ls hl => ?_)
      refine lv_iconst (v := (0 : Int32)) hx hb dCM_takes_43 (by decide) ?_
      refine lv_istore (lv' := [(6, .int ((0 : Int32))), (5, .int ((1 : Int32))), (4, .int (v5)), (0, .ref (ad 0)), (1, .int (x1)), (2, .int (x2)), (3, .int (x3))]) hx hb dCM_takes_44 hl (by decide) rfl (fun ls hl => ?_)
      exact wCM_takes_b46 C hK hend _ _ _ _ _ _ _ _ _ _ hP hD hS (lv_sub hl [3, 5, 6, 2, 1, 0] rfl) h
    · have h := (if_pos c25).symm.trans h
      refine lv_iconst (v := (0 : Int32)) hx hb dCM_takes_31 (by decide) ?_
      exact hend _ _ _ _ _ _ (Option.some.inj h) rfl hP hS dCM_takes_32
  · have h := (if_pos c29).symm.trans h
    refine lv_aload_n hx hb dCM_takes_9 rfl (lv_at hl 0 rfl) ?_
    refine lv_aload_n hx hb dCM_takes_10 rfl (lv_at hl 0 rfl) ?_
    refine va_get (D := (dC, dI)) (ci := 5) (v := .ref (ad 12)) (C := RCM) (T := TCM) (N := 23) hx hb hts inCM hown hK hP 0 rfl rfl 14 (by decide) (hts _ mw_443) (fun _ h9 => h9) rfl dCM_takes_11 ?_
    refine lv_iload_n hx hb dCM_takes_14 rfl (lv_at hl 2 rfl) ?_
    obtain ⟨b26, h⟩ := gx_nb h
    refine va_iald hx hb hK hP 12 11 rfl rfl b26 dCM_takes_15 ?_
    refine lv_iload_n hx hb dCM_takes_16 rfl (lv_at hl 1 rfl) ?_
    refine lv_iload_n hx hb dCM_takes_17 rfl (lv_at hl 3 rfl) ?_
    obtain ⟨v27, ev27, h⟩ := Option.bind_eq_some_iff.mp h
    refine gcall_r (b := ad 0) (As := [.int (σ.1 12 x2.toNatClampNeg), .int (x1), .int (x3)]) (rest := []) C hK hP (ci := 5) (q0 := 0) rfl rfl (kCM_passes l dC dI ad cA σ (σ.1 12 x2.toNatClampNeg) x1 x3 v27 ev27) (cwV 3 hts (gw mw_471 mw_472 mw_473 mw_363 mw_474) rfl rfl rfl hdCM_passes ⟨Nat.le_of_ble_eq_true rfl, Nat.le_of_ble_eq_true rfl⟩) rfl hl.1 rfl (Nat.le_of_ble_eq_true rfl) dCM_takes_18 ⟨Nat.le_refl _, Nat.le_refl _⟩ ?_
    obtain ⟨b28, h⟩ := gx_gd h
    exact hend _ _ _ _ _ _ (Option.some.inj h) (gx_nar b28) hP hS dCM_takes_21
set_option maxHeartbeats 4000000 in
set_option maxRecDepth 100000 in
theorem kCM_takes (l : Launch) (dC : Nat → ClassId) (dI : Nat → Nat → Nat) (ad : Nat → Nat) (cA : Nat → ClassId) (σ : xSt) (x1 : Int32) (x2 : Int32) (x3 : Int32) (r : (Int32 × xSt)) (h : fCM_takes σ x1 x2 x3 = some r) : Met l yCM_takes wsCM_takes rm_CM_takes (va_Pc [.ref (ad 0), .int (x1), .int (x2), .int (x3)] (fun U => va_P (dC, dI) vwC (mW ad cA σ) U.heap ∧ va_K (dC, dI) vwC (mT cA) U ∧ va_D (mA ad) (mW ad cA σ))) (va_Qi (fun (v : Int32) (u : xSt) => (v, u) = r) (fun u t => va_P (dC, dI) vwC (mW ad cA u) t.heap) (mA ad)) 0 0 (mA ad) := by
  refine Met.ofW (cc := cCM_takes) (maxL := 7) (ret := (some .boolean)) (by decide) rfl ?_
  intro p e s m args below meth c s₁ B hml hv
  obtain ⟨rfl, hP, hK, hD⟩ := hv
  have hr := B.returns
  have hlocks := B.notSynchronized
  have hl := lv_entry ([.ref (ad 0), .int (x1), .int (x2), .int (x3)]) (n := 7) (Nat.le_of_ble_eq_true rfl)
  rw [lg_entry_eq]
  exact wCM_takes ⟨B.exec, B.bytes, hml, findClass_of_methodNamed B.named, fun w h => atoms_spec (ws := wsCM_takes) B.pre w (List.mem_cons_of_mem _ h)⟩ hK (fun v σ H locs pc ls hv hn hP hS hd => W.zret (v := v) B.exec B.bytes hr hn (fun t ht hW => ⟨⟨v, σ, rfl, hv, by show va_P _ _ _ t.heap; rw [ht]; exact hP⟩, hS.F ht⟩) hS.2.2 hd) hP hD va_S.rf _ hl h
