abbrev rm_C0_applied : Room := { frames := 1, cells := 0, slots := 0, locals := 21 }
def fC0_applied (σ : xSt) (x1 : Int32) : Option Int32 :=
  (fC4_applyingAt σ x1).bind fun v1 =>
  some v1
set_option maxHeartbeats 4000000 in
set_option maxRecDepth 100000 in
theorem wC0_applied {p : Program} {l : Launch} {e : Env} {s : State} {m : MethodId} {args : Array Value} {below : List Frame} {meth : Method} {c : Code} {Q : State → Prop} {dC : Nat → ClassId} {dI : Nat → Nat → Nat} {ad : Nat → Nat} {cA : Nat → ClassId} {r : Int32} {H : Heap} {locs : List Loc} {σ : xSt} (C : CallFix p m c cC0_applied 2 s args wAll RC0) (hK : va_K (dC, dI) vwC (xT cA) s) (hP : va_P (dC, dI) vwC (xW ad cA σ) H) (hend : ∀ (v : Int32) (pc : Nat) (ls : Array Slot), v = r → decode cC0_applied pc = .ok (.ireturn, 1) → W p l e rm_C0_applied s m args below meth c H locs 0 0 Q (F0 m pc ls [.int v])) {x1 : Int32} (ls : Array Slot) (hl : lv_has ls 2 [(0, .ref (ad 0)), (1, .int (x1))]) (h : fC0_applied σ x1 = some r) : W p l e rm_C0_applied s m args below meth c H locs 0 0 Q (F0 m 0 ls []) := by
  obtain ⟨hx, hb, hml, hown, hts⟩ := id C
  unfold fC0_applied at h
  refine lv_aload_n hx hb dC0_applied_0 rfl (lv_at hl 0 rfl) ?_
  refine va_get (D := (dC, dI)) (ci := 0) (v := .ref (ad 4)) (C := RC0) (T := TC0) (N := 5) hx hb hts inC0 hown hK hP 0 rfl rfl 3 (by decide) (hts _ mw_197) (fun _ h9 => h9) rfl dC0_applied_1 ?_
  refine lv_iload_n hx hb dC0_applied_4 rfl (lv_at hl 1 rfl) ?_
  obtain ⟨v1, ev1, h⟩ := Option.bind_eq_some_iff.mp h
  refine gcall_r (b := ad 4) (As := [.int (x1)]) (rest := []) C hK hP (ci := 4) (q0 := 4) rfl rfl (kC4_applyingAt l dC dI ad cA σ x1 v1 ev1) (cwV 1 hts (gw mw_337 mw_338 mw_339 mw_204 mw_340) rfl rfl rfl hdC4_applyingAt ⟨Nat.le_of_ble_eq_true rfl, Nat.le_of_ble_eq_true rfl⟩) rfl hl.1 rfl (Nat.le_of_ble_eq_true rfl) dC0_applied_5 ⟨Nat.le_refl _, Nat.le_refl _⟩ ?_
  exact hend _ _ _ (Option.some.inj h) dC0_applied_8
set_option maxHeartbeats 4000000 in
set_option maxRecDepth 100000 in
theorem kC0_applied (l : Launch) (dC : Nat → ClassId) (dI : Nat → Nat → Nat) (ad : Nat → Nat) (cA : Nat → ClassId) (σ : xSt) (x1 : Int32) (r : Int32) (h : fC0_applied σ x1 = some r) : Met l yC0_applied wsC0_applied rm_C0_applied (va_Pc [.ref (ad 0), .int (x1)] (fun U => va_P (dC, dI) vwC (xW ad cA σ) U.heap ∧ va_K (dC, dI) vwC (xT cA) U)) (vp_Si (fun v => v = r)) 0 0 (fun _ => False) := by
  refine Met.ofW (cc := cC0_applied) (maxL := 2) (ret := (some .int)) (by decide) rfl ?_
  intro p e s m args below meth c s₁ B hml hv
  obtain ⟨rfl, hP, hK⟩ := hv
  have hr := B.returns
  have hlocks := B.notSynchronized
  have hl := lv_entry ([.ref (ad 0), .int (x1)]) (n := 2) (Nat.le_of_ble_eq_true rfl)
  rw [lg_entry_eq]
  exact wC0_applied ⟨B.exec, B.bytes, hml, findClass_of_methodNamed B.named, fun w h => atoms_spec (ws := wsC0_applied) B.pre w (List.mem_cons_of_mem _ h)⟩ hK hP (fun v pc ls hv hd => W.iret (v := v) B.exec B.bytes hr (fun t ht hW => ⟨v, rfl, hv, ht⟩) (fun q hq => absurd hq List.not_mem_nil) hd) _ hl h
abbrev rm_C4_didApply : Room := { frames := 0, cells := 0, slots := 0, locals := 0 }
def fC4_didApply (σ : xSt) (x1 : Int32) : Option Int32 :=
  if x1 < 0 then
    some (0 : Int32)
  else
    if (60 : Int32) ≤ x1 then
      some (0 : Int32)
    else
      if (lg_cmp ((jlushr (σ.2 4 8) x1) &&& (1 : Int64)) (0 : Int64)) = 0 then
        some (0 : Int32)
      else
        some (1 : Int32)
set_option maxHeartbeats 4000000 in
set_option maxRecDepth 100000 in
theorem wC4_didApply {p : Program} {l : Launch} {e : Env} {s : State} {m : MethodId} {args : Array Value} {below : List Frame} {meth : Method} {c : Code} {Q : State → Prop} {dC : Nat → ClassId} {dI : Nat → Nat → Nat} {ad : Nat → Nat} {cA : Nat → ClassId} {r : Int32} {H : Heap} {locs : List Loc} {σ : xSt} (C : CallFix p m c cC4_didApply 2 s args wAll RC4) (hK : va_K (dC, dI) vwC (xT cA) s) (hP : va_P (dC, dI) vwC (xW ad cA σ) H) (hend : ∀ (v : Int32) (pc : Nat) (ls : Array Slot), v = r → narrow .boolean (.int v) = .int v → decode cC4_didApply pc = .ok (.ireturn, 1) → W p l e rm_C4_didApply s m args below meth c H locs 0 0 Q (F0 m pc ls [.int v])) {x1 : Int32} (ls : Array Slot) (hl : lv_has ls 2 [(0, .ref (ad 4)), (1, .int (x1))]) (h : fC4_didApply σ x1 = some r) : W p l e rm_C4_didApply s m args below meth c H locs 0 0 Q (F0 m 0 ls []) := by
  obtain ⟨hx, hb, hml, hown, hts⟩ := id C
  unfold fC4_didApply at h
  refine lv_iload_n hx hb dC4_didApply_0 rfl (lv_at hl 1 rfl) ?_
  refine lv_if_lt (tgt := 27) hx hb dC4_didApply_1 (by decide) (fun c3 => ?_) (fun c3 => ?_)
  · have h := (if_pos c3).symm.trans h
    refine lv_iconst (v := (0 : Int32)) hx hb dC4_didApply_27 (by decide) ?_
    exact hend _ _ _ (Option.some.inj h) rfl dC4_didApply_28
  · have h := (if_neg c3).symm.trans h
    refine lv_iload_n hx hb dC4_didApply_4 rfl (lv_at hl 1 rfl) ?_
    refine lv_bipush (v := (60 : Int32)) hx hb dC4_didApply_5 (by decide) ?_
    refine lv_icmp_ge (tgt := 27) hx hb dC4_didApply_7 (by decide) (fun c2 => ?_) (fun c2 => ?_)
    · have h := (if_pos c2).symm.trans h
      refine lv_iconst (v := (0 : Int32)) hx hb dC4_didApply_27 (by decide) ?_
      exact hend _ _ _ (Option.some.inj h) rfl dC4_didApply_28
    · have h := (if_neg c2).symm.trans h
      refine lv_aload_n hx hb dC4_didApply_10 rfl (lv_at hl 0 rfl) ?_
      refine va_get (D := (dC, dI)) (ci := 4) (v := .long (σ.2 4 8)) (C := RC4) (T := TC4) (N := 10) hx hb hts inC4 hown hK hP 4 rfl rfl 8 (by decide) (hts _ mw_200) (fun _ h9 => h9) rfl dC4_didApply_11 ?_
      refine lv_iload_n hx hb dC4_didApply_14 rfl (lv_at hl 1 rfl) ?_
      refine lv_lushr (v := jlushr (σ.2 4 8) x1) hx hb dC4_didApply_15 rfl ?_
      refine lv_lconst (v := (1 : Int64)) hx hb dC4_didApply_16 (by decide) ?_
      refine lv_land hx hb dC4_didApply_17 ?_
      refine lv_lconst (v := (0 : Int64)) hx hb dC4_didApply_18 (by decide) ?_
      refine W.lcmp hx hb dC4_didApply_19 ?_
      refine lv_if_eq (tgt := 27) hx hb dC4_didApply_20 (by decide) (fun c1 => ?_) (fun c1 => ?_)
      · have h := (if_pos c1).symm.trans h
        refine lv_iconst (v := (0 : Int32)) hx hb dC4_didApply_27 (by decide) ?_
        exact hend _ _ _ (Option.some.inj h) rfl dC4_didApply_28
      · have h := (if_neg c1).symm.trans h
        refine lv_iconst (v := (1 : Int32)) hx hb dC4_didApply_23 (by decide) ?_
        refine lv_goto (tgt := 28) hx hb dC4_didApply_24 (by decide) ?_
        exact hend _ _ _ (Option.some.inj h) rfl dC4_didApply_28
set_option maxHeartbeats 4000000 in
set_option maxRecDepth 100000 in
theorem kC4_didApply (l : Launch) (dC : Nat → ClassId) (dI : Nat → Nat → Nat) (ad : Nat → Nat) (cA : Nat → ClassId) (σ : xSt) (x1 : Int32) (r : Int32) (h : fC4_didApply σ x1 = some r) : Met l yC4_didApply wsC4_didApply rm_C4_didApply (va_Pc [.ref (ad 4), .int (x1)] (fun U => va_P (dC, dI) vwC (xW ad cA σ) U.heap ∧ va_K (dC, dI) vwC (xT cA) U)) (vp_Si (fun v => v = r)) 0 0 (fun _ => False) := by
  refine Met.ofW (cc := cC4_didApply) (maxL := 2) (ret := (some .boolean)) (by decide) rfl ?_
  intro p e s m args below meth c s₁ B hml hv
  obtain ⟨rfl, hP, hK⟩ := hv
  have hr := B.returns
  have hlocks := B.notSynchronized
  have hl := lv_entry ([.ref (ad 4), .int (x1)]) (n := 2) (Nat.le_of_ble_eq_true rfl)
  rw [lg_entry_eq]
  exact wC4_didApply ⟨B.exec, B.bytes, hml, findClass_of_methodNamed B.named, fun w h => atoms_spec (ws := wsC4_didApply) B.pre w (List.mem_cons_of_mem _ h)⟩ hK hP (fun v pc ls hv hn hd => W.zret (v := v) B.exec B.bytes hr hn (fun t ht hW => ⟨v, rfl, hv, ht⟩) (fun q hq => absurd hq List.not_mem_nil) hd) _ hl h
abbrev rm_C4_compared : Room := { frames := 1, cells := 0, slots := 0, locals := 21 }
def fC4_compared (σ : xSt) (x1 : Int32) (x2 : Int32) : Option Int32 :=
  (fC4_didApply σ x1).bind fun v1 =>
  if v1 = 0 then
    some (-1 : Int32)
  else
    (fC4_didApply σ x2).bind fun v2 =>
    if v2 = 0 then
      some (-1 : Int32)
    else
      if x1 < 0 ∨ 60 ≤ x1.toNatClampNeg then none else
      if (lg_cmp ((jlushr (σ.2 23 x1.toNatClampNeg) x2) &&& (1 : Int64)) (0 : Int64)) = 0 then
        some (0 : Int32)
      else
        some (1 : Int32)
set_option maxHeartbeats 4000000 in
set_option maxRecDepth 100000 in
theorem wC4_compared {p : Program} {l : Launch} {e : Env} {s : State} {m : MethodId} {args : Array Value} {below : List Frame} {meth : Method} {c : Code} {Q : State → Prop} {dC : Nat → ClassId} {dI : Nat → Nat → Nat} {ad : Nat → Nat} {cA : Nat → ClassId} {r : Int32} {H : Heap} {locs : List Loc} {σ : xSt} (C : CallFix p m c cC4_compared 3 s args wAll RC4) (hK : va_K (dC, dI) vwC (xT cA) s) (hP : va_P (dC, dI) vwC (xW ad cA σ) H) (hend : ∀ (v : Int32) (pc : Nat) (ls : Array Slot), v = r → decode cC4_compared pc = .ok (.ireturn, 1) → W p l e rm_C4_compared s m args below meth c H locs 0 0 Q (F0 m pc ls [.int v])) {x1 : Int32} {x2 : Int32} (ls : Array Slot) (hl : lv_has ls 3 [(0, .ref (ad 4)), (1, .int (x1)), (2, .int (x2))]) (h : fC4_compared σ x1 x2 = some r) : W p l e rm_C4_compared s m args below meth c H locs 0 0 Q (F0 m 0 ls []) := by
  obtain ⟨hx, hb, hml, hown, hts⟩ := id C
  unfold fC4_compared at h
  refine lv_aload_n hx hb dC4_compared_0 rfl (lv_at hl 0 rfl) ?_
  refine lv_iload_n hx hb dC4_compared_1 rfl (lv_at hl 1 rfl) ?_
  obtain ⟨v1, ev1, h⟩ := Option.bind_eq_some_iff.mp h
  refine gcall_r (b := ad 4) (As := [.int (x1)]) (rest := []) C hK hP (ci := 4) (q0 := 4) rfl rfl (kC4_didApply l dC dI ad cA σ x1 v1 ev1) (cwV 1 hts (gw mw_341 mw_342 mw_343 mw_204 mw_344) rfl rfl rfl hdC4_didApply ⟨Nat.le_of_ble_eq_true rfl, Nat.le_of_ble_eq_true rfl⟩) rfl hl.1 rfl (Nat.le_of_ble_eq_true rfl) dC4_compared_2 ⟨Nat.le_refl _, Nat.le_refl _⟩ ?_
  refine lv_if_eq (tgt := 16) hx hb dC4_compared_5 (by decide) (fun c6 => ?_) (fun c6 => ?_)
  · have h := (if_pos c6).symm.trans h
    refine lv_iconst (v := (-1 : Int32)) hx hb dC4_compared_16 (by decide) ?_
    exact hend _ _ _ (Option.some.inj h) dC4_compared_17
  · have h := (if_neg c6).symm.trans h
    refine lv_aload_n hx hb dC4_compared_8 rfl (lv_at hl 0 rfl) ?_
    refine lv_iload_n hx hb dC4_compared_9 rfl (lv_at hl 2 rfl) ?_
    obtain ⟨v2, ev2, h⟩ := Option.bind_eq_some_iff.mp h
    refine gcall_r (b := ad 4) (As := [.int (x2)]) (rest := []) C hK hP (ci := 4) (q0 := 4) rfl rfl (kC4_didApply l dC dI ad cA σ x2 v2 ev2) (cwV 1 hts (gw mw_341 mw_342 mw_343 mw_204 mw_344) rfl rfl rfl hdC4_didApply ⟨Nat.le_of_ble_eq_true rfl, Nat.le_of_ble_eq_true rfl⟩) rfl hl.1 rfl (Nat.le_of_ble_eq_true rfl) dC4_compared_10 ⟨Nat.le_refl _, Nat.le_refl _⟩ ?_
    refine lv_if_ne (tgt := 18) hx hb dC4_compared_13 (by decide) (fun c5 => ?_) (fun c5 => ?_)
    · have h := (if_neg c5).symm.trans h
      refine lv_aload_n hx hb dC4_compared_18 rfl (lv_at hl 0 rfl) ?_
      refine va_get (D := (dC, dI)) (ci := 4) (v := .ref (ad 23)) (C := RC4) (T := TC4) (N := 10) hx hb hts inC4 hown hK hP 4 rfl rfl 5 (by decide) (hts _ mw_259) (fun _ h9 => h9) rfl dC4_compared_19 ?_
      refine lv_iload_n hx hb dC4_compared_22 rfl (lv_at hl 1 rfl) ?_
      obtain ⟨b3, h⟩ := gx_nb h
      refine va_lald hx hb hK hP 23 18 rfl rfl b3 dC4_compared_23 ?_
      refine lv_iload_n hx hb dC4_compared_24 rfl (lv_at hl 2 rfl) ?_
      refine lv_lushr (v := jlushr (σ.2 23 x1.toNatClampNeg) x2) hx hb dC4_compared_25 rfl ?_
      refine lv_lconst (v := (1 : Int64)) hx hb dC4_compared_26 (by decide) ?_
      refine lv_land hx hb dC4_compared_27 ?_
      refine lv_lconst (v := (0 : Int64)) hx hb dC4_compared_28 (by decide) ?_
      refine W.lcmp hx hb dC4_compared_29 ?_
      refine lv_if_eq (tgt := 37) hx hb dC4_compared_30 (by decide) (fun c4 => ?_) (fun c4 => ?_)
      · have h := (if_pos c4).symm.trans h
        refine lv_iconst (v := (0 : Int32)) hx hb dC4_compared_37 (by decide) ?_
        exact hend _ _ _ (Option.some.inj h) dC4_compared_38
      · have h := (if_neg c4).symm.trans h
        refine lv_iconst (v := (1 : Int32)) hx hb dC4_compared_33 (by decide) ?_
        refine lv_goto (tgt := 38) hx hb dC4_compared_34 (by decide) ?_
        exact hend _ _ _ (Option.some.inj h) dC4_compared_38
    · have h := (if_pos c5).symm.trans h
      refine lv_iconst (v := (-1 : Int32)) hx hb dC4_compared_16 (by decide) ?_
      exact hend _ _ _ (Option.some.inj h) dC4_compared_17
set_option maxHeartbeats 4000000 in
set_option maxRecDepth 100000 in
theorem kC4_compared (l : Launch) (dC : Nat → ClassId) (dI : Nat → Nat → Nat) (ad : Nat → Nat) (cA : Nat → ClassId) (σ : xSt) (x1 : Int32) (x2 : Int32) (r : Int32) (h : fC4_compared σ x1 x2 = some r) : Met l yC4_compared wsC4_compared rm_C4_compared (va_Pc [.ref (ad 4), .int (x1), .int (x2)] (fun U => va_P (dC, dI) vwC (xW ad cA σ) U.heap ∧ va_K (dC, dI) vwC (xT cA) U)) (vp_Si (fun v => v = r)) 0 0 (fun _ => False) := by
  refine Met.ofW (cc := cC4_compared) (maxL := 3) (ret := (some .int)) (by decide) rfl ?_
  intro p e s m args below meth c s₁ B hml hv
  obtain ⟨rfl, hP, hK⟩ := hv
  have hr := B.returns
  have hlocks := B.notSynchronized
  have hl := lv_entry ([.ref (ad 4), .int (x1), .int (x2)]) (n := 3) (Nat.le_of_ble_eq_true rfl)
  rw [lg_entry_eq]
  exact wC4_compared ⟨B.exec, B.bytes, hml, findClass_of_methodNamed B.named, fun w h => atoms_spec (ws := wsC4_compared) B.pre w (List.mem_cons_of_mem _ h)⟩ hK hP (fun v pc ls hv hd => W.iret (v := v) B.exec B.bytes hr (fun t ht hW => ⟨v, rfl, hv, ht⟩) (fun q hq => absurd hq List.not_mem_nil) hd) _ hl h
abbrev rm_C0_special : Room := { frames := 2, cells := 0, slots := 0, locals := 43 }
def fC0_special (σ : xSt) (x1 : Int32) (x2 : Int32) : Option Int32 :=
  (fC4_compared σ x1 x2).bind fun v1 =>
  some v1
set_option maxHeartbeats 4000000 in
set_option maxRecDepth 100000 in
theorem wC0_special {p : Program} {l : Launch} {e : Env} {s : State} {m : MethodId} {args : Array Value} {below : List Frame} {meth : Method} {c : Code} {Q : State → Prop} {dC : Nat → ClassId} {dI : Nat → Nat → Nat} {ad : Nat → Nat} {cA : Nat → ClassId} {r : Int32} {H : Heap} {locs : List Loc} {σ : xSt} (C : CallFix p m c cC0_special 3 s args wAll RC0) (hK : va_K (dC, dI) vwC (xT cA) s) (hP : va_P (dC, dI) vwC (xW ad cA σ) H) (hend : ∀ (v : Int32) (pc : Nat) (ls : Array Slot), v = r → decode cC0_special pc = .ok (.ireturn, 1) → W p l e rm_C0_special s m args below meth c H locs 0 0 Q (F0 m pc ls [.int v])) {x1 : Int32} {x2 : Int32} (ls : Array Slot) (hl : lv_has ls 3 [(0, .ref (ad 0)), (1, .int (x1)), (2, .int (x2))]) (h : fC0_special σ x1 x2 = some r) : W p l e rm_C0_special s m args below meth c H locs 0 0 Q (F0 m 0 ls []) := by
  obtain ⟨hx, hb, hml, hown, hts⟩ := id C
  unfold fC0_special at h
  refine lv_aload_n hx hb dC0_special_0 rfl (lv_at hl 0 rfl) ?_
  refine va_get (D := (dC, dI)) (ci := 0) (v := .ref (ad 4)) (C := RC0) (T := TC0) (N := 5) hx hb hts inC0 hown hK hP 0 rfl rfl 3 (by decide) (hts _ mw_197) (fun _ h9 => h9) rfl dC0_special_1 ?_
  refine lv_iload_n hx hb dC0_special_4 rfl (lv_at hl 1 rfl) ?_
  refine lv_iload_n hx hb dC0_special_5 rfl (lv_at hl 2 rfl) ?_
  obtain ⟨v1, ev1, h⟩ := Option.bind_eq_some_iff.mp h
  refine gcall_r (b := ad 4) (As := [.int (x1), .int (x2)]) (rest := []) C hK hP (ci := 4) (q0 := 4) rfl rfl (kC4_compared l dC dI ad cA σ x1 x2 v1 ev1) (cwV 2 hts (gw mw_345 mw_346 mw_347 mw_204 mw_348) rfl rfl rfl hdC4_compared ⟨Nat.le_of_ble_eq_true rfl, Nat.le_of_ble_eq_true rfl⟩) rfl hl.1 rfl (Nat.le_of_ble_eq_true rfl) dC0_special_6 ⟨Nat.le_refl _, Nat.le_refl _⟩ ?_
  exact hend _ _ _ (Option.some.inj h) dC0_special_9
set_option maxHeartbeats 4000000 in
set_option maxRecDepth 100000 in
theorem kC0_special (l : Launch) (dC : Nat → ClassId) (dI : Nat → Nat → Nat) (ad : Nat → Nat) (cA : Nat → ClassId) (σ : xSt) (x1 : Int32) (x2 : Int32) (r : Int32) (h : fC0_special σ x1 x2 = some r) : Met l yC0_special wsC0_special rm_C0_special (va_Pc [.ref (ad 0), .int (x1), .int (x2)] (fun U => va_P (dC, dI) vwC (xW ad cA σ) U.heap ∧ va_K (dC, dI) vwC (xT cA) U)) (vp_Si (fun v => v = r)) 0 0 (fun _ => False) := by
  refine Met.ofW (cc := cC0_special) (maxL := 3) (ret := (some .int)) (by decide) rfl ?_
  intro p e s m args below meth c s₁ B hml hv
  obtain ⟨rfl, hP, hK⟩ := hv
  have hr := B.returns
  have hlocks := B.notSynchronized
  have hl := lv_entry ([.ref (ad 0), .int (x1), .int (x2)]) (n := 3) (Nat.le_of_ble_eq_true rfl)
  rw [lg_entry_eq]
  exact wC0_special ⟨B.exec, B.bytes, hml, findClass_of_methodNamed B.named, fun w h => atoms_spec (ws := wsC0_special) B.pre w (List.mem_cons_of_mem _ h)⟩ hK hP (fun v pc ls hv hd => W.iret (v := v) B.exec B.bytes hr (fun t ht hW => ⟨v, rfl, hv, ht⟩) (fun q hq => absurd hq List.not_mem_nil) hd) _ hl h
abbrev rm_C2_size : Room := { frames := 0, cells := 0, slots := 0, locals := 0 }
def fC2_size (σ : xSt) : Option Int32 :=
  some (σ.1 2 9)
set_option maxHeartbeats 4000000 in
set_option maxRecDepth 100000 in
theorem wC2_size {p : Program} {l : Launch} {e : Env} {s : State} {m : MethodId} {args : Array Value} {below : List Frame} {meth : Method} {c : Code} {Q : State → Prop} {dC : Nat → ClassId} {dI : Nat → Nat → Nat} {ad : Nat → Nat} {cA : Nat → ClassId} {r : Int32} {H : Heap} {locs : List Loc} {σ : xSt} (C : CallFix p m c cC2_size 1 s args wAll RC2) (hK : va_K (dC, dI) vwC (xT cA) s) (hP : va_P (dC, dI) vwC (xW ad cA σ) H) (hend : ∀ (v : Int32) (pc : Nat) (ls : Array Slot), v = r → decode cC2_size pc = .ok (.ireturn, 1) → W p l e rm_C2_size s m args below meth c H locs 0 0 Q (F0 m pc ls [.int v])) (ls : Array Slot) (hl : lv_has ls 1 [(0, .ref (ad 2))]) (h : fC2_size σ = some r) : W p l e rm_C2_size s m args below meth c H locs 0 0 Q (F0 m 0 ls []) := by
  obtain ⟨hx, hb, hml, hown, hts⟩ := id C
  unfold fC2_size at h
  refine lv_aload_n hx hb dC2_size_0 rfl (lv_at hl 0 rfl) ?_
  refine va_get (D := (dC, dI)) (ci := 2) (v := .int (σ.1 2 9)) (C := RC2) (T := TC2) (N := 10) hx hb hts inC2 hown hK hP 2 rfl rfl 9 (by decide) (hts _ mw_43) (fun _ h9 => h9) rfl dC2_size_1 ?_
  exact hend _ _ _ (Option.some.inj h) dC2_size_4
set_option maxHeartbeats 4000000 in
set_option maxRecDepth 100000 in
theorem kC2_size (l : Launch) (dC : Nat → ClassId) (dI : Nat → Nat → Nat) (ad : Nat → Nat) (cA : Nat → ClassId) (σ : xSt) (r : Int32) (h : fC2_size σ = some r) : Met l yC2_size wsC2_size rm_C2_size (va_Pc [.ref (ad 2)] (fun U => va_P (dC, dI) vwC (xW ad cA σ) U.heap ∧ va_K (dC, dI) vwC (xT cA) U)) (vp_Si (fun v => v = r)) 0 0 (fun _ => False) := by
  refine Met.ofW (cc := cC2_size) (maxL := 1) (ret := (some .int)) (by decide) rfl ?_
  intro p e s m args below meth c s₁ B hml hv
  obtain ⟨rfl, hP, hK⟩ := hv
  have hr := B.returns
  have hlocks := B.notSynchronized
  have hl := lv_entry ([.ref (ad 2)]) (n := 1) (Nat.le_of_ble_eq_true rfl)
  rw [lg_entry_eq]
  exact wC2_size ⟨B.exec, B.bytes, hml, findClass_of_methodNamed B.named, fun w h => atoms_spec (ws := wsC2_size) B.pre w (List.mem_cons_of_mem _ h)⟩ hK hP (fun v pc ls hv hd => W.iret (v := v) B.exec B.bytes hr (fun t ht hW => ⟨v, rfl, hv, ht⟩) (fun q hq => absurd hq List.not_mem_nil) hd) _ hl h
abbrev rm_C0_count : Room := { frames := 1, cells := 0, slots := 0, locals := 20 }
def fC0_count (σ : xSt) (x1 : Int32) : Option Int32 :=
  if x1 = (0 : Int32) then
    (fC1_size σ).bind fun v1 =>
    some v1
  else
    if x1 = (1 : Int32) then
      (fC2_size σ).bind fun v3 =>
      some v3
    else
      if x1 = (2 : Int32) then
        (fC3_size σ).bind fun v5 =>
        some v5
      else
        some (-2 : Int32)
set_option maxHeartbeats 4000000 in
set_option maxRecDepth 100000 in
theorem wC0_count {p : Program} {l : Launch} {e : Env} {s : State} {m : MethodId} {args : Array Value} {below : List Frame} {meth : Method} {c : Code} {Q : State → Prop} {dC : Nat → ClassId} {dI : Nat → Nat → Nat} {ad : Nat → Nat} {cA : Nat → ClassId} {r : Int32} {H : Heap} {locs : List Loc} {σ : xSt} (C : CallFix p m c cC0_count 2 s args wAll RC0) (hK : va_K (dC, dI) vwC (xT cA) s) (hP : va_P (dC, dI) vwC (xW ad cA σ) H) (hend : ∀ (v : Int32) (pc : Nat) (ls : Array Slot), v = r → decode cC0_count pc = .ok (.ireturn, 1) → W p l e rm_C0_count s m args below meth c H locs 0 0 Q (F0 m pc ls [.int v])) {x1 : Int32} (ls : Array Slot) (hl : lv_has ls 2 [(0, .ref (ad 0)), (1, .int (x1))]) (h : fC0_count σ x1 = some r) : W p l e rm_C0_count s m args below meth c H locs 0 0 Q (F0 m 0 ls []) := by
  obtain ⟨hx, hb, hml, hown, hts⟩ := id C
  unfold fC0_count at h
  refine lv_iload_n hx hb dC0_count_0 rfl (lv_at hl 1 rfl) ?_
  by_cases c2 : x1 = (0 : Int32)
  · have h := (if_pos c2).symm.trans h
    refine lv_tableIn (off := 27) (tgt := 28) hx hb dC0_count_1 (by rw [c2]; decide) (by rw [c2]; decide) (by rw [c2]; rfl) (by decide) ?_
    refine lv_aload_n hx hb dC0_count_28 rfl (lv_at hl 0 rfl) ?_
    refine va_get (D := (dC, dI)) (ci := 0) (v := .ref (ad 1)) (C := RC0) (T := TC0) (N := 5) hx hb hts inC0 hown hK hP 0 rfl rfl 0 (by decide) (hts _ mw_0) (fun _ h9 => h9) rfl dC0_count_29 ?_
    obtain ⟨v1, ev1, h⟩ := Option.bind_eq_some_iff.mp h
    refine gcall_r (b := ad 1) (As := []) (rest := []) C hK hP (ci := 1) (q0 := 1) rfl rfl (kC1_size l dC dI ad cA σ v1 ev1) (cwV 0 hts (gw mw_349 mw_136 mw_137 mw_7 mw_138) rfl rfl rfl hdC1_size ⟨Nat.le_of_ble_eq_true rfl, Nat.le_of_ble_eq_true rfl⟩) rfl hl.1 rfl (Nat.le_of_ble_eq_true rfl) dC0_count_32 ⟨Nat.le_refl _, Nat.le_refl _⟩ ?_
    exact hend _ _ _ (Option.some.inj h) dC0_count_35
  have h := (if_neg c2).symm.trans h
  by_cases c4 : x1 = (1 : Int32)
  · have h := (if_pos c4).symm.trans h
    refine lv_tableIn (off := 35) (tgt := 36) hx hb dC0_count_1 (by rw [c4]; decide) (by rw [c4]; decide) (by rw [c4]; rfl) (by decide) ?_
    refine lv_aload_n hx hb dC0_count_36 rfl (lv_at hl 0 rfl) ?_
    refine va_get (D := (dC, dI)) (ci := 0) (v := .ref (ad 2)) (C := RC0) (T := TC0) (N := 5) hx hb hts inC0 hown hK hP 0 rfl rfl 1 (by decide) (hts _ mw_35) (fun _ h9 => h9) rfl dC0_count_37 ?_
    obtain ⟨v3, ev3, h⟩ := Option.bind_eq_some_iff.mp h
    refine gcall_r (b := ad 2) (As := []) (rest := []) C hK hP (ci := 2) (q0 := 2) rfl rfl (kC2_size l dC dI ad cA σ v3 ev3) (cwV 0 hts (gw mw_350 mw_351 mw_352 mw_40 mw_353) rfl rfl rfl hdC2_size ⟨Nat.le_of_ble_eq_true rfl, Nat.le_of_ble_eq_true rfl⟩) rfl hl.1 rfl (Nat.le_of_ble_eq_true rfl) dC0_count_40 ⟨Nat.le_refl _, Nat.le_refl _⟩ ?_
    exact hend _ _ _ (Option.some.inj h) dC0_count_43
  have h := (if_neg c4).symm.trans h
  by_cases c6 : x1 = (2 : Int32)
  · have h := (if_pos c6).symm.trans h
    refine lv_tableIn (off := 43) (tgt := 44) hx hb dC0_count_1 (by rw [c6]; decide) (by rw [c6]; decide) (by rw [c6]; rfl) (by decide) ?_
    refine lv_aload_n hx hb dC0_count_44 rfl (lv_at hl 0 rfl) ?_
    refine va_get (D := (dC, dI)) (ci := 0) (v := .ref (ad 3)) (C := RC0) (T := TC0) (N := 5) hx hb hts inC0 hown hK hP 0 rfl rfl 2 (by decide) (hts _ mw_175) (fun _ h9 => h9) rfl dC0_count_45 ?_
    obtain ⟨v5, ev5, h⟩ := Option.bind_eq_some_iff.mp h
    refine gcall_r (b := ad 3) (As := []) (rest := []) C hK hP (ci := 3) (q0 := 3) rfl rfl (kC3_size l dC dI ad cA σ v5 ev5) (cwV 0 hts (gw mw_354 mw_218 mw_219 mw_184 mw_220) rfl rfl rfl hdC3_size ⟨Nat.le_of_ble_eq_true rfl, Nat.le_of_ble_eq_true rfl⟩) rfl hl.1 rfl (Nat.le_of_ble_eq_true rfl) dC0_count_48 ⟨Nat.le_refl _, Nat.le_refl _⟩ ?_
    exact hend _ _ _ (Option.some.inj h) dC0_count_51
  have h := (if_neg c6).symm.trans h
  refine lv_tableOut (tgt := 52) hx hb dC0_count_1 (gx_out2 c2 c4 c6) (by decide) ?_
  refine lv_bipush (v := (-2 : Int32)) hx hb dC0_count_52 (by decide) ?_
  exact hend _ _ _ (Option.some.inj h) dC0_count_54
set_option maxHeartbeats 4000000 in
set_option maxRecDepth 100000 in
theorem kC0_count (l : Launch) (dC : Nat → ClassId) (dI : Nat → Nat → Nat) (ad : Nat → Nat) (cA : Nat → ClassId) (σ : xSt) (x1 : Int32) (r : Int32) (h : fC0_count σ x1 = some r) : Met l yC0_count wsC0_count rm_C0_count (va_Pc [.ref (ad 0), .int (x1)] (fun U => va_P (dC, dI) vwC (xW ad cA σ) U.heap ∧ va_K (dC, dI) vwC (xT cA) U)) (vp_Si (fun v => v = r)) 0 0 (fun _ => False) := by
  refine Met.ofW (cc := cC0_count) (maxL := 2) (ret := (some .int)) (by decide) rfl ?_
  intro p e s m args below meth c s₁ B hml hv
  obtain ⟨rfl, hP, hK⟩ := hv
  have hr := B.returns
  have hlocks := B.notSynchronized
  have hl := lv_entry ([.ref (ad 0), .int (x1)]) (n := 2) (Nat.le_of_ble_eq_true rfl)
  rw [lg_entry_eq]
  exact wC0_count ⟨B.exec, B.bytes, hml, findClass_of_methodNamed B.named, fun w h => atoms_spec (ws := wsC0_count) B.pre w (List.mem_cons_of_mem _ h)⟩ hK hP (fun v pc ls hv hd => W.iret (v := v) B.exec B.bytes hr (fun t ht hW => ⟨v, rfl, hv, ht⟩) (fun q hq => absurd hq List.not_mem_nil) hd) _ hl h
