abbrev rm_CM_isPlain : Room := { frames := 1, cells := 0, slots := 0, locals := 21 }
def fCM_isPlain_b10 (σ : xSt) (x1 : Int32) : Option Int32 :=
  (fCM_isTold σ x1).bind fun v1 =>
  if v1 = 0 then
    some (0 : Int32)
  else
    some (1 : Int32)
set_option maxHeartbeats 4000000 in
set_option maxRecDepth 100000 in
theorem wCM_isPlain_b10 {p : Program} {l : Launch} {e : Env} {s : State} {m : MethodId} {args : Array Value} {below : List Frame} {meth : Method} {c : Code} {Q : State → Prop} {dC : Nat → ClassId} {dI : Nat → Nat → Nat} {ad : Nat → Nat} {cA : Nat → ClassId} {r : Int32} {H : Heap} {locs : List Loc} {σ : xSt} (C : CallFix p m c cCM_isPlain 2 s args wAll RCM) (hK : va_K (dC, dI) vwC (mT cA) s) (hP : va_P (dC, dI) vwC (mW ad cA σ) H) (hend : ∀ (v : Int32) (pc : Nat) (ls : Array Slot), v = r → narrow .boolean (.int v) = .int v → decode cCM_isPlain pc = .ok (.ireturn, 1) → W p l e rm_CM_isPlain s m args below meth c H locs 0 0 Q (F0 m pc ls [.int v])) :
    ∀ (x1 : Int32) (ls : Array Slot), lv_has ls 2 [(0, .ref (ad 0)), (1, .int (x1))] → fCM_isPlain_b10 σ x1 = some r → W p l e rm_CM_isPlain s m args below meth c H locs 0 0 Q (F0 m 10 ls []) := by
  obtain ⟨hx, hb, hml, hown, hts⟩ := id C
  intro x1 ls hl h
  unfold fCM_isPlain_b10 at h
  refine lv_aload_n hx hb dCM_isPlain_10 rfl (lv_at hl 0 rfl) ?_
  refine lv_iload_n hx hb dCM_isPlain_11 rfl (lv_at hl 1 rfl) ?_
  obtain ⟨v1, ev1, h⟩ := Option.bind_eq_some_iff.mp h
  refine gcall_r (b := ad 0) (As := [.int (x1)]) (rest := []) C hK hP (ci := 5) (q0 := 0) rfl rfl (kCM_isTold l dC dI ad cA σ x1 v1 ev1) (cwV 1 hts (gw mw_371 mw_372 mw_373 mw_363 mw_374) rfl rfl rfl hdCM_isTold ⟨Nat.le_of_ble_eq_true rfl, Nat.le_of_ble_eq_true rfl⟩) rfl hl.1 rfl (Nat.le_of_ble_eq_true rfl) dCM_isPlain_12 ⟨Nat.le_refl _, Nat.le_refl _⟩ ?_
  refine lv_if_eq (tgt := 22) hx hb dCM_isPlain_15 (by decide) (fun c2 => ?_) (fun c2 => ?_)
  · have h := (if_pos c2).symm.trans h
    refine lv_iconst (v := (0 : Int32)) hx hb dCM_isPlain_22 (by decide) ?_
    exact hend _ _ _ (Option.some.inj h) rfl dCM_isPlain_23
  · have h := (if_neg c2).symm.trans h
    refine lv_iconst (v := (1 : Int32)) hx hb dCM_isPlain_18 (by decide) ?_
    refine lv_goto (tgt := 23) hx hb dCM_isPlain_19 (by decide) ?_
    exact hend _ _ _ (Option.some.inj h) rfl dCM_isPlain_23
def fCM_isPlain (σ : xSt) (x1 : Int32) : Option Int32 :=
  if x1 < 0 then
    fCM_isPlain_b10 σ x1
  else
    if x1 < (10 : Int32) then
      some (1 : Int32)
    else
      fCM_isPlain_b10 σ x1
set_option maxHeartbeats 4000000 in
set_option maxRecDepth 100000 in
theorem wCM_isPlain {p : Program} {l : Launch} {e : Env} {s : State} {m : MethodId} {args : Array Value} {below : List Frame} {meth : Method} {c : Code} {Q : State → Prop} {dC : Nat → ClassId} {dI : Nat → Nat → Nat} {ad : Nat → Nat} {cA : Nat → ClassId} {r : Int32} {H : Heap} {locs : List Loc} {σ : xSt} (C : CallFix p m c cCM_isPlain 2 s args wAll RCM) (hK : va_K (dC, dI) vwC (mT cA) s) (hP : va_P (dC, dI) vwC (mW ad cA σ) H) (hend : ∀ (v : Int32) (pc : Nat) (ls : Array Slot), v = r → narrow .boolean (.int v) = .int v → decode cCM_isPlain pc = .ok (.ireturn, 1) → W p l e rm_CM_isPlain s m args below meth c H locs 0 0 Q (F0 m pc ls [.int v])) {x1 : Int32} (ls : Array Slot) (hl : lv_has ls 2 [(0, .ref (ad 0)), (1, .int (x1))]) (h : fCM_isPlain σ x1 = some r) : W p l e rm_CM_isPlain s m args below meth c H locs 0 0 Q (F0 m 0 ls []) := by
  obtain ⟨hx, hb, hml, hown, hts⟩ := id C
  unfold fCM_isPlain at h
  refine lv_iload_n hx hb dCM_isPlain_0 rfl (lv_at hl 1 rfl) ?_
  refine lv_if_lt (tgt := 10) hx hb dCM_isPlain_1 (by decide) (fun c4 => ?_) (fun c4 => ?_)
  · have h := (if_pos c4).symm.trans h
    exact wCM_isPlain_b10 C hK hP hend _ _ (lv_sub hl [0, 1] rfl) h
  · have h := (if_neg c4).symm.trans h
    refine lv_iload_n hx hb dCM_isPlain_4 rfl (lv_at hl 1 rfl) ?_
    refine lv_bipush (v := (10 : Int32)) hx hb dCM_isPlain_5 (by decide) ?_
    refine lv_icmp_lt (tgt := 18) hx hb dCM_isPlain_7 (by decide) (fun c3 => ?_) (fun c3 => ?_)
    · have h := (if_pos c3).symm.trans h
      refine lv_iconst (v := (1 : Int32)) hx hb dCM_isPlain_18 (by decide) ?_
      refine lv_goto (tgt := 23) hx hb dCM_isPlain_19 (by decide) ?_
      exact hend _ _ _ (Option.some.inj h) rfl dCM_isPlain_23
    · have h := (if_neg c3).symm.trans h
      exact wCM_isPlain_b10 C hK hP hend _ _ (lv_sub hl [0, 1] rfl) h
set_option maxHeartbeats 4000000 in
set_option maxRecDepth 100000 in
theorem kCM_isPlain (l : Launch) (dC : Nat → ClassId) (dI : Nat → Nat → Nat) (ad : Nat → Nat) (cA : Nat → ClassId) (σ : xSt) (x1 : Int32) (r : Int32) (h : fCM_isPlain σ x1 = some r) : Met l yCM_isPlain wsCM_isPlain rm_CM_isPlain (va_Pc [.ref (ad 0), .int (x1)] (fun U => va_P (dC, dI) vwC (mW ad cA σ) U.heap ∧ va_K (dC, dI) vwC (mT cA) U)) (vp_Si (fun v => v = r)) 0 0 (fun _ => False) := by
  refine Met.ofW (cc := cCM_isPlain) (maxL := 2) (ret := (some .boolean)) (by decide) rfl ?_
  intro p e s m args below meth c s₁ B hml hv
  obtain ⟨rfl, hP, hK⟩ := hv
  have hr := B.returns
  have hlocks := B.notSynchronized
  have hl := lv_entry ([.ref (ad 0), .int (x1)]) (n := 2) (Nat.le_of_ble_eq_true rfl)
  rw [lg_entry_eq]
  exact wCM_isPlain ⟨B.exec, B.bytes, hml, findClass_of_methodNamed B.named, fun w h => atoms_spec (ws := wsCM_isPlain) B.pre w (List.mem_cons_of_mem _ h)⟩ hK hP (fun v pc ls hv hn hd => W.zret (v := v) B.exec B.bytes hr hn (fun t ht hW => ⟨v, rfl, hv, ht⟩) (fun q hq => absurd hq List.not_mem_nil) hd) _ hl h
abbrev rm_CM_isType : Room := { frames := 2, cells := 0, slots := 0, locals := 42 }
def fCM_isType (σ : xSt) (x1 : Int32) : Option Int32 :=
  (fCM_isPlain σ x1).bind fun v1 =>
  if v1 = 0 then
    if x1 = (10 : Int32) then
      some (1 : Int32)
    else
      if x1 < (64 : Int32) then
        some (0 : Int32)
      else
        (fCM_isPlain σ (x1 - (64 : Int32))).bind fun v2 =>
        if v2 = 0 then
          some (0 : Int32)
        else
          some (1 : Int32)
  else
    some (1 : Int32)
set_option maxHeartbeats 4000000 in
set_option maxRecDepth 100000 in
theorem wCM_isType {p : Program} {l : Launch} {e : Env} {s : State} {m : MethodId} {args : Array Value} {below : List Frame} {meth : Method} {c : Code} {Q : State → Prop} {dC : Nat → ClassId} {dI : Nat → Nat → Nat} {ad : Nat → Nat} {cA : Nat → ClassId} {r : Int32} {H : Heap} {locs : List Loc} {σ : xSt} (C : CallFix p m c cCM_isType 2 s args wAll RCM) (hK : va_K (dC, dI) vwC (mT cA) s) (hP : va_P (dC, dI) vwC (mW ad cA σ) H) (hend : ∀ (v : Int32) (pc : Nat) (ls : Array Slot), v = r → narrow .boolean (.int v) = .int v → decode cCM_isType pc = .ok (.ireturn, 1) → W p l e rm_CM_isType s m args below meth c H locs 0 0 Q (F0 m pc ls [.int v])) {x1 : Int32} (ls : Array Slot) (hl : lv_has ls 2 [(0, .ref (ad 0)), (1, .int (x1))]) (h : fCM_isType σ x1 = some r) : W p l e rm_CM_isType s m args below meth c H locs 0 0 Q (F0 m 0 ls []) := by
  obtain ⟨hx, hb, hml, hown, hts⟩ := id C
  unfold fCM_isType at h
  refine lv_aload_n hx hb dCM_isType_0 rfl (lv_at hl 0 rfl) ?_
  refine lv_iload_n hx hb dCM_isType_1 rfl (lv_at hl 1 rfl) ?_
  obtain ⟨v1, ev1, h⟩ := Option.bind_eq_some_iff.mp h
  refine gcall_r (b := ad 0) (As := [.int (x1)]) (rest := []) C hK hP (ci := 5) (q0 := 0) rfl rfl (kCM_isPlain l dC dI ad cA σ x1 v1 ev1) (cwV 1 hts (gw mw_375 mw_376 mw_377 mw_363 mw_378) rfl rfl rfl hdCM_isPlain ⟨Nat.le_of_ble_eq_true rfl, Nat.le_of_ble_eq_true rfl⟩) rfl hl.1 rfl (Nat.le_of_ble_eq_true rfl) dCM_isType_2 ⟨Nat.le_refl _, Nat.le_refl _⟩ ?_
  refine lv_if_ne (tgt := 31) hx hb dCM_isType_5 (by decide) (fun c6 => ?_) (fun c6 => ?_)
  · have h := (if_neg c6).symm.trans h
    refine lv_iconst (v := (1 : Int32)) hx hb dCM_isType_31 (by decide) ?_
    refine lv_goto (tgt := 36) hx hb dCM_isType_32 (by decide) ?_
    exact hend _ _ _ (Option.some.inj h) rfl dCM_isType_36
  · have h := (if_pos c6).symm.trans h
    refine lv_iload_n hx hb dCM_isType_8 rfl (lv_at hl 1 rfl) ?_
    refine lv_bipush (v := (10 : Int32)) hx hb dCM_isType_9 (by decide) ?_
    refine lv_icmp_eq (tgt := 31) hx hb dCM_isType_11 (by decide) (fun c5 => ?_) (fun c5 => ?_)
    · have h := (if_pos c5).symm.trans h
      refine lv_iconst (v := (1 : Int32)) hx hb dCM_isType_31 (by decide) ?_
      refine lv_goto (tgt := 36) hx hb dCM_isType_32 (by decide) ?_
      exact hend _ _ _ (Option.some.inj h) rfl dCM_isType_36
    · have h := (if_neg c5).symm.trans h
      refine lv_iload_n hx hb dCM_isType_14 rfl (lv_at hl 1 rfl) ?_
      refine lv_bipush (v := (64 : Int32)) hx hb dCM_isType_15 (by decide) ?_
      refine lv_icmp_lt (tgt := 35) hx hb dCM_isType_17 (by decide) (fun c4 => ?_) (fun c4 => ?_)
      · have h := (if_pos c4).symm.trans h
        refine lv_iconst (v := (0 : Int32)) hx hb dCM_isType_35 (by decide) ?_
        exact hend _ _ _ (Option.some.inj h) rfl dCM_isType_36
      · have h := (if_neg c4).symm.trans h
        refine lv_aload_n hx hb dCM_isType_20 rfl (lv_at hl 0 rfl) ?_
        refine lv_iload_n hx hb dCM_isType_21 rfl (lv_at hl 1 rfl) ?_
        refine lv_bipush (v := (64 : Int32)) hx hb dCM_isType_22 (by decide) ?_
        refine lv_isub hx hb dCM_isType_24 ?_
        obtain ⟨v2, ev2, h⟩ := Option.bind_eq_some_iff.mp h
        refine gcall_r (b := ad 0) (As := [.int (x1 - (64 : Int32))]) (rest := []) C hK hP (ci := 5) (q0 := 0) rfl rfl (kCM_isPlain l dC dI ad cA σ (x1 - (64 : Int32)) v2 ev2) (cwV 1 hts (gw mw_375 mw_376 mw_377 mw_363 mw_378) rfl rfl rfl hdCM_isPlain ⟨Nat.le_of_ble_eq_true rfl, Nat.le_of_ble_eq_true rfl⟩) rfl hl.1 rfl (Nat.le_of_ble_eq_true rfl) dCM_isType_25 ⟨Nat.le_refl _, Nat.le_refl _⟩ ?_
        refine lv_if_eq (tgt := 35) hx hb dCM_isType_28 (by decide) (fun c3 => ?_) (fun c3 => ?_)
        · have h := (if_pos c3).symm.trans h
          refine lv_iconst (v := (0 : Int32)) hx hb dCM_isType_35 (by decide) ?_
          exact hend _ _ _ (Option.some.inj h) rfl dCM_isType_36
        · have h := (if_neg c3).symm.trans h
          refine lv_iconst (v := (1 : Int32)) hx hb dCM_isType_31 (by decide) ?_
          refine lv_goto (tgt := 36) hx hb dCM_isType_32 (by decide) ?_
          exact hend _ _ _ (Option.some.inj h) rfl dCM_isType_36
set_option maxHeartbeats 4000000 in
set_option maxRecDepth 100000 in
theorem kCM_isType (l : Launch) (dC : Nat → ClassId) (dI : Nat → Nat → Nat) (ad : Nat → Nat) (cA : Nat → ClassId) (σ : xSt) (x1 : Int32) (r : Int32) (h : fCM_isType σ x1 = some r) : Met l yCM_isType wsCM_isType rm_CM_isType (va_Pc [.ref (ad 0), .int (x1)] (fun U => va_P (dC, dI) vwC (mW ad cA σ) U.heap ∧ va_K (dC, dI) vwC (mT cA) U)) (vp_Si (fun v => v = r)) 0 0 (fun _ => False) := by
  refine Met.ofW (cc := cCM_isType) (maxL := 2) (ret := (some .boolean)) (by decide) rfl ?_
  intro p e s m args below meth c s₁ B hml hv
  obtain ⟨rfl, hP, hK⟩ := hv
  have hr := B.returns
  have hlocks := B.notSynchronized
  have hl := lv_entry ([.ref (ad 0), .int (x1)]) (n := 2) (Nat.le_of_ble_eq_true rfl)
  rw [lg_entry_eq]
  exact wCM_isType ⟨B.exec, B.bytes, hml, findClass_of_methodNamed B.named, fun w h => atoms_spec (ws := wsCM_isType) B.pre w (List.mem_cons_of_mem _ h)⟩ hK hP (fun v pc ls hv hn hd => W.zret (v := v) B.exec B.bytes hr hn (fun t ht hW => ⟨v, rfl, hv, ht⟩) (fun q hq => absurd hq List.not_mem_nil) hd) _ hl h
abbrev rm_CM_isPrimitive : Room := { frames := 0, cells := 0, slots := 0, locals := 0 }
def fCM_isPrimitive (σ : xSt) (x0 : Int32) : Option Int32 :=
  if x0 < 0 then
    some (0 : Int32)
  else
    if (4 : Int32) ≤ x0 then
      some (0 : Int32)
    else
      some (1 : Int32)
set_option maxHeartbeats 4000000 in
set_option maxRecDepth 100000 in
theorem wCM_isPrimitive {p : Program} {l : Launch} {e : Env} {s : State} {m : MethodId} {args : Array Value} {below : List Frame} {meth : Method} {c : Code} {Q : State → Prop} {dC : Nat → ClassId} {dI : Nat → Nat → Nat} {ad : Nat → Nat} {cA : Nat → ClassId} {r : Int32} {H : Heap} {locs : List Loc} {σ : xSt} (C : CallFix p m c cCM_isPrimitive 1 s args wAll RCM) (hK : va_K (dC, dI) vwC (mT cA) s) (hP : va_P (dC, dI) vwC (mW ad cA σ) H) (hend : ∀ (v : Int32) (pc : Nat) (ls : Array Slot), v = r → narrow .boolean (.int v) = .int v → decode cCM_isPrimitive pc = .ok (.ireturn, 1) → W p l e rm_CM_isPrimitive s m args below meth c H locs 0 0 Q (F0 m pc ls [.int v])) {x0 : Int32} (ls : Array Slot) (hl : lv_has ls 1 [(0, .int (x0))]) (h : fCM_isPrimitive σ x0 = some r) : W p l e rm_CM_isPrimitive s m args below meth c H locs 0 0 Q (F0 m 0 ls []) := by
  obtain ⟨hx, hb, hml, hown, hts⟩ := id C
  unfold fCM_isPrimitive at h
  refine lv_iload_n hx hb dCM_isPrimitive_0 rfl (lv_at hl 0 rfl) ?_
  refine lv_if_lt (tgt := 13) hx hb dCM_isPrimitive_1 (by decide) (fun c2 => ?_) (fun c2 => ?_)
  · have h := (if_pos c2).symm.trans h
    refine lv_iconst (v := (0 : Int32)) hx hb dCM_isPrimitive_13 (by decide) ?_
    exact hend _ _ _ (Option.some.inj h) rfl dCM_isPrimitive_14
  · have h := (if_neg c2).symm.trans h
    refine lv_iload_n hx hb dCM_isPrimitive_4 rfl (lv_at hl 0 rfl) ?_
    refine lv_iconst (v := (4 : Int32)) hx hb dCM_isPrimitive_5 (by decide) ?_
    refine lv_icmp_ge (tgt := 13) hx hb dCM_isPrimitive_6 (by decide) (fun c1 => ?_) (fun c1 => ?_)
    · have h := (if_pos c1).symm.trans h
      refine lv_iconst (v := (0 : Int32)) hx hb dCM_isPrimitive_13 (by decide) ?_
      exact hend _ _ _ (Option.some.inj h) rfl dCM_isPrimitive_14
    · have h := (if_neg c1).symm.trans h
      refine lv_iconst (v := (1 : Int32)) hx hb dCM_isPrimitive_9 (by decide) ?_
      refine lv_goto (tgt := 14) hx hb dCM_isPrimitive_10 (by decide) ?_
      exact hend _ _ _ (Option.some.inj h) rfl dCM_isPrimitive_14
set_option maxHeartbeats 4000000 in
set_option maxRecDepth 100000 in
theorem kCM_isPrimitive (l : Launch) (dC : Nat → ClassId) (dI : Nat → Nat → Nat) (ad : Nat → Nat) (cA : Nat → ClassId) (σ : xSt) (x0 : Int32) (r : Int32) (h : fCM_isPrimitive σ x0 = some r) : Met l yCM_isPrimitive wsCM_isPrimitive rm_CM_isPrimitive (va_Pc [.int (x0)] (fun U => va_P (dC, dI) vwC (mW ad cA σ) U.heap ∧ va_K (dC, dI) vwC (mT cA) U)) (vp_Si (fun v => v = r)) 0 0 (fun _ => False) := by
  refine Met.ofW (cc := cCM_isPrimitive) (maxL := 1) (ret := (some .boolean)) (by decide) rfl ?_
  intro p e s m args below meth c s₁ B hml hv
  obtain ⟨rfl, hP, hK⟩ := hv
  have hr := B.returns
  have hlocks := B.notSynchronized
  have hl := lv_entry ([.int (x0)]) (n := 1) (Nat.le_of_ble_eq_true rfl)
  rw [lg_entry_eq]
  exact wCM_isPrimitive ⟨B.exec, B.bytes, hml, findClass_of_methodNamed B.named, fun w h => atoms_spec (ws := wsCM_isPrimitive) B.pre w (List.mem_cons_of_mem _ h)⟩ hK hP (fun v pc ls hv hn hd => W.zret (v := v) B.exec B.bytes hr hn (fun t ht hW => ⟨v, rfl, hv, ht⟩) (fun q hq => absurd hq List.not_mem_nil) hd) _ hl h
abbrev rm_CM_plainIs : Room := { frames := 1, cells := 0, slots := 0, locals := 21 }
def fCM_plainIs_b29 (σ : xSt) (x1 : Int32) (x2 : Int32) : Option Int32 :=
  if x1 = (2 : Int32) then
    if x2 = (3 : Int32) then
      some (1 : Int32)
    else
      some (0 : Int32)
  else
    some (0 : Int32)
set_option maxHeartbeats 4000000 in
set_option maxRecDepth 100000 in
theorem wCM_plainIs_b29 {p : Program} {l : Launch} {e : Env} {s : State} {m : MethodId} {args : Array Value} {below : List Frame} {meth : Method} {c : Code} {Q : State → Prop} {dC : Nat → ClassId} {dI : Nat → Nat → Nat} {ad : Nat → Nat} {cA : Nat → ClassId} {r : Int32} {H : Heap} {locs : List Loc} {σ : xSt} (C : CallFix p m c cCM_plainIs 3 s args wAll RCM) (hK : va_K (dC, dI) vwC (mT cA) s) (hP : va_P (dC, dI) vwC (mW ad cA σ) H) (hend : ∀ (v : Int32) (pc : Nat) (ls : Array Slot), v = r → narrow .boolean (.int v) = .int v → decode cCM_plainIs pc = .ok (.ireturn, 1) → W p l e rm_CM_plainIs s m args below meth c H locs 0 0 Q (F0 m pc ls [.int v])) :
    ∀ (x1 : Int32) (x2 : Int32) (ls : Array Slot), lv_has ls 3 [(1, .int (x1)), (2, .int (x2))] → fCM_plainIs_b29 σ x1 x2 = some r → W p l e rm_CM_plainIs s m args below meth c H locs 0 0 Q (F0 m 29 ls []) := by
  obtain ⟨hx, hb, hml, hown, hts⟩ := id C
  intro x1 x2 ls hl h
  unfold fCM_plainIs_b29 at h
  refine lv_iload_n hx hb dCM_plainIs_29 rfl (lv_at hl 0 rfl) ?_
  refine lv_iconst (v := (2 : Int32)) hx hb dCM_plainIs_30 (by decide) ?_
  refine lv_icmp_ne (tgt := 43) hx hb dCM_plainIs_31 (by decide) (fun c17 => ?_) (fun c17 => ?_)
  · have h := (if_neg c17).symm.trans h
    refine lv_iconst (v := (0 : Int32)) hx hb dCM_plainIs_43 (by decide) ?_
    exact hend _ _ _ (Option.some.inj h) rfl dCM_plainIs_44
  · have h := (if_pos c17).symm.trans h
    refine lv_iload_n hx hb dCM_plainIs_34 rfl (lv_at hl 1 rfl) ?_
    refine lv_iconst (v := (3 : Int32)) hx hb dCM_plainIs_35 (by decide) ?_
    refine lv_icmp_ne (tgt := 43) hx hb dCM_plainIs_36 (by decide) (fun c16 => ?_) (fun c16 => ?_)
    · have h := (if_neg c16).symm.trans h
      refine lv_iconst (v := (0 : Int32)) hx hb dCM_plainIs_43 (by decide) ?_
      exact hend _ _ _ (Option.some.inj h) rfl dCM_plainIs_44
    · have h := (if_pos c16).symm.trans h
      refine lv_iconst (v := (1 : Int32)) hx hb dCM_plainIs_39 (by decide) ?_
      refine lv_goto (tgt := 44) hx hb dCM_plainIs_40 (by decide) ?_
      exact hend _ _ _ (Option.some.inj h) rfl dCM_plainIs_44
def fCM_plainIs (σ : xSt) (x1 : Int32) (x2 : Int32) : Option Int32 :=
  if x1 = x2 then
    some (1 : Int32)
  else
    (fCM_isPrimitive σ x1).bind fun v1 =>
    if v1 = 0 then
      (fCM_isPrimitive σ x2).bind fun v2 =>
      if v2 = 0 then
        if x2 = (8 : Int32) then
          some (1 : Int32)
        else
          if x1 = (10 : Int32) then
            some (1 : Int32)
          else
            if x2 = (9 : Int32) then
              if x1 = (5 : Int32) then
                some (1 : Int32)
              else
                if x1 = (6 : Int32) then
                  some (1 : Int32)
                else
                  if x1 = (7 : Int32) then
                    some (1 : Int32)
                  else
                    some (0 : Int32)
            else
              (fCM_isTold σ x1).bind fun v3 =>
              if v3 = 0 then
                some (0 : Int32)
              else
                (fCM_isTold σ x2).bind fun v4 =>
                if v4 = 0 then
                  some (0 : Int32)
                else
                  if ((((24 : Int32) * (x1 - (16 : Int32))) + x2) - (16 : Int32)) < 0 ∨ 576 ≤ ((((24 : Int32) * (x1 - (16 : Int32))) + x2) - (16 : Int32)).toNatClampNeg then none else
                  if (σ.1 5 ((((24 : Int32) * (x1 - (16 : Int32))) + x2) - (16 : Int32)).toNatClampNeg) = 0 then
                    some (0 : Int32)
                  else
                    some (1 : Int32)
      else
        some (0 : Int32)
    else
      if x1 = (1 : Int32) then
        if x2 = (2 : Int32) then
          some (1 : Int32)
        else
          if x2 = (3 : Int32) then
            some (1 : Int32)
          else
            fCM_plainIs_b29 σ x1 x2
      else
        fCM_plainIs_b29 σ x1 x2
set_option maxHeartbeats 4000000 in
set_option maxRecDepth 100000 in
theorem wCM_plainIs {p : Program} {l : Launch} {e : Env} {s : State} {m : MethodId} {args : Array Value} {below : List Frame} {meth : Method} {c : Code} {Q : State → Prop} {dC : Nat → ClassId} {dI : Nat → Nat → Nat} {ad : Nat → Nat} {cA : Nat → ClassId} {r : Int32} {H : Heap} {locs : List Loc} {σ : xSt} (C : CallFix p m c cCM_plainIs 3 s args wAll RCM) (hK : va_K (dC, dI) vwC (mT cA) s) (hP : va_P (dC, dI) vwC (mW ad cA σ) H) (hend : ∀ (v : Int32) (pc : Nat) (ls : Array Slot), v = r → narrow .boolean (.int v) = .int v → decode cCM_plainIs pc = .ok (.ireturn, 1) → W p l e rm_CM_plainIs s m args below meth c H locs 0 0 Q (F0 m pc ls [.int v])) {x1 : Int32} {x2 : Int32} (ls : Array Slot) (hl : lv_has ls 3 [(0, .ref (ad 0)), (1, .int (x1)), (2, .int (x2))]) (h : fCM_plainIs σ x1 x2 = some r) : W p l e rm_CM_plainIs s m args below meth c H locs 0 0 Q (F0 m 0 ls []) := by
  obtain ⟨hx, hb, hml, hown, hts⟩ := id C
  unfold fCM_plainIs at h
  refine lv_iload_n hx hb dCM_plainIs_0 rfl (lv_at hl 1 rfl) ?_
  refine lv_iload_n hx hb dCM_plainIs_1 rfl (lv_at hl 2 rfl) ?_
  refine lv_icmp_ne (tgt := 7) hx hb dCM_plainIs_2 (by decide) (fun c22 => ?_) (fun c22 => ?_)
  · have h := (if_neg c22).symm.trans h
    refine lv_iload_n hx hb dCM_plainIs_7 rfl (lv_at hl 1 rfl) ?_
    obtain ⟨v1, ev1, h⟩ := Option.bind_eq_some_iff.mp h
    refine gcall_s (As := [.int (x1)]) (rest := []) C hK hP (kCM_isPrimitive l dC dI ad cA σ x1 v1 ev1) (va_cwS 1 hts (gws mw_383 mw_384 mw_363 mw_385) rfl rfl rfl hdCM_isPrimitive ⟨Nat.le_of_ble_eq_true rfl, Nat.le_of_ble_eq_true rfl⟩) rfl hl.1 rfl (Nat.le_of_ble_eq_true rfl) dCM_plainIs_8 ⟨Nat.le_refl _, Nat.le_refl _⟩ ?_
    refine lv_if_eq (tgt := 45) hx hb dCM_plainIs_11 (by decide) (fun c21 => ?_) (fun c21 => ?_)
    · have h := (if_pos c21).symm.trans h
      refine lv_iload_n hx hb dCM_plainIs_45 rfl (lv_at hl 2 rfl) ?_
      obtain ⟨v2, ev2, h⟩ := Option.bind_eq_some_iff.mp h
      refine gcall_s (As := [.int (x2)]) (rest := []) C hK hP (kCM_isPrimitive l dC dI ad cA σ x2 v2 ev2) (va_cwS 1 hts (gws mw_383 mw_384 mw_363 mw_385) rfl rfl rfl hdCM_isPrimitive ⟨Nat.le_of_ble_eq_true rfl, Nat.le_of_ble_eq_true rfl⟩) rfl hl.1 rfl (Nat.le_of_ble_eq_true rfl) dCM_plainIs_46 ⟨Nat.le_refl _, Nat.le_refl _⟩ ?_
      refine lv_if_eq (tgt := 54) hx hb dCM_plainIs_49 (by decide) (fun c15 => ?_) (fun c15 => ?_)
      · have h := (if_pos c15).symm.trans h
        refine lv_iload_n hx hb dCM_plainIs_54 rfl (lv_at hl 2 rfl) ?_
        refine lv_bipush (v := (8 : Int32)) hx hb dCM_plainIs_55 (by decide) ?_
        refine lv_icmp_eq (tgt := 66) hx hb dCM_plainIs_57 (by decide) (fun c14 => ?_) (fun c14 => ?_)
        · have h := (if_pos c14).symm.trans h
          refine lv_iconst (v := (1 : Int32)) hx hb dCM_plainIs_66 (by decide) ?_
          exact hend _ _ _ (Option.some.inj h) rfl dCM_plainIs_67
        · have h := (if_neg c14).symm.trans h
          refine lv_iload_n hx hb dCM_plainIs_60 rfl (lv_at hl 1 rfl) ?_
          refine lv_bipush (v := (10 : Int32)) hx hb dCM_plainIs_61 (by decide) ?_
          refine lv_icmp_ne (tgt := 68) hx hb dCM_plainIs_63 (by decide) (fun c13 => ?_) (fun c13 => ?_)
          · have h := (if_neg c13).symm.trans h
            refine lv_iload_n hx hb dCM_plainIs_68 rfl (lv_at hl 2 rfl) ?_
            refine lv_bipush (v := (9 : Int32)) hx hb dCM_plainIs_69 (by decide) ?_
            refine lv_icmp_ne (tgt := 97) hx hb dCM_plainIs_71 (by decide) (fun c12 => ?_) (fun c12 => ?_)
            · have h := (if_neg c12).symm.trans h
              refine lv_aload_n hx hb dCM_plainIs_97 rfl (lv_at hl 0 rfl) ?_
              refine lv_iload_n hx hb dCM_plainIs_98 rfl (lv_at hl 1 rfl) ?_
              obtain ⟨v3, ev3, h⟩ := Option.bind_eq_some_iff.mp h
              refine gcall_r (b := ad 0) (As := [.int (x1)]) (rest := []) C hK hP (ci := 5) (q0 := 0) rfl rfl (kCM_isTold l dC dI ad cA σ x1 v3 ev3) (cwV 1 hts (gw mw_371 mw_372 mw_373 mw_363 mw_374) rfl rfl rfl hdCM_isTold ⟨Nat.le_of_ble_eq_true rfl, Nat.le_of_ble_eq_true rfl⟩) rfl hl.1 rfl (Nat.le_of_ble_eq_true rfl) dCM_plainIs_99 ⟨Nat.le_refl _, Nat.le_refl _⟩ ?_
              refine lv_if_eq (tgt := 137) hx hb dCM_plainIs_102 (by decide) (fun c8 => ?_) (fun c8 => ?_)
              · have h := (if_pos c8).symm.trans h
                refine lv_iconst (v := (0 : Int32)) hx hb dCM_plainIs_137 (by decide) ?_
                exact hend _ _ _ (Option.some.inj h) rfl dCM_plainIs_138
              · have h := (if_neg c8).symm.trans h
                refine lv_aload_n hx hb dCM_plainIs_105 rfl (lv_at hl 0 rfl) ?_
                refine lv_iload_n hx hb dCM_plainIs_106 rfl (lv_at hl 2 rfl) ?_
                obtain ⟨v4, ev4, h⟩ := Option.bind_eq_some_iff.mp h
                refine gcall_r (b := ad 0) (As := [.int (x2)]) (rest := []) C hK hP (ci := 5) (q0 := 0) rfl rfl (kCM_isTold l dC dI ad cA σ x2 v4 ev4) (cwV 1 hts (gw mw_371 mw_372 mw_373 mw_363 mw_374) rfl rfl rfl hdCM_isTold ⟨Nat.le_of_ble_eq_true rfl, Nat.le_of_ble_eq_true rfl⟩) rfl hl.1 rfl (Nat.le_of_ble_eq_true rfl) dCM_plainIs_107 ⟨Nat.le_refl _, Nat.le_refl _⟩ ?_
                refine lv_if_eq (tgt := 137) hx hb dCM_plainIs_110 (by decide) (fun c7 => ?_) (fun c7 => ?_)
                · have h := (if_pos c7).symm.trans h
                  refine lv_iconst (v := (0 : Int32)) hx hb dCM_plainIs_137 (by decide) ?_
                  exact hend _ _ _ (Option.some.inj h) rfl dCM_plainIs_138
                · have h := (if_neg c7).symm.trans h
                  refine lv_aload_n hx hb dCM_plainIs_113 rfl (lv_at hl 0 rfl) ?_
                  refine va_get (D := (dC, dI)) (ci := 5) (v := .ref (ad 5)) (C := RCM) (T := TCM) (N := 23) hx hb hts inCM hown hK hP 0 rfl rfl 5 (by decide) (hts _ mw_365) (fun _ h9 => h9) rfl dCM_plainIs_114 ?_
                  refine lv_bipush (v := (24 : Int32)) hx hb dCM_plainIs_117 (by decide) ?_
                  refine lv_iload_n hx hb dCM_plainIs_119 rfl (lv_at hl 1 rfl) ?_
                  refine lv_bipush (v := (16 : Int32)) hx hb dCM_plainIs_120 (by decide) ?_
                  refine lv_isub hx hb dCM_plainIs_122 ?_
                  refine lv_imul hx hb dCM_plainIs_123 ?_
                  refine lv_iload_n hx hb dCM_plainIs_124 rfl (lv_at hl 2 rfl) ?_
                  refine lv_iadd hx hb dCM_plainIs_125 ?_
                  refine lv_bipush (v := (16 : Int32)) hx hb dCM_plainIs_126 (by decide) ?_
                  refine lv_isub hx hb dCM_plainIs_128 ?_
                  obtain ⟨b5, h⟩ := gx_nb h
                  refine va_zald hx hb hK hP 5 4 rfl rfl b5 dCM_plainIs_129 ?_
                  refine lv_if_eq (tgt := 137) hx hb dCM_plainIs_130 (by decide) (fun c6 => ?_) (fun c6 => ?_)
                  · have h := (if_pos c6).symm.trans h
                    refine lv_iconst (v := (0 : Int32)) hx hb dCM_plainIs_137 (by decide) ?_
                    exact hend _ _ _ (Option.some.inj h) rfl dCM_plainIs_138
                  · have h := (if_neg c6).symm.trans h
                    refine lv_iconst (v := (1 : Int32)) hx hb dCM_plainIs_133 (by decide) ?_
                    refine lv_goto (tgt := 138) hx hb dCM_plainIs_134 (by decide) ?_
                    exact hend _ _ _ (Option.some.inj h) rfl dCM_plainIs_138
            · have h := (if_pos c12).symm.trans h
              refine lv_iload_n hx hb dCM_plainIs_74 rfl (lv_at hl 1 rfl) ?_
              refine lv_iconst (v := (5 : Int32)) hx hb dCM_plainIs_75 (by decide) ?_
              refine lv_icmp_eq (tgt := 91) hx hb dCM_plainIs_76 (by decide) (fun c11 => ?_) (fun c11 => ?_)
              · have h := (if_pos c11).symm.trans h
                refine lv_iconst (v := (1 : Int32)) hx hb dCM_plainIs_91 (by decide) ?_
                refine lv_goto (tgt := 96) hx hb dCM_plainIs_92 (by decide) ?_
                exact hend _ _ _ (Option.some.inj h) rfl dCM_plainIs_96
              · have h := (if_neg c11).symm.trans h
                refine lv_iload_n hx hb dCM_plainIs_79 rfl (lv_at hl 1 rfl) ?_
                refine lv_bipush (v := (6 : Int32)) hx hb dCM_plainIs_80 (by decide) ?_
                refine lv_icmp_eq (tgt := 91) hx hb dCM_plainIs_82 (by decide) (fun c10 => ?_) (fun c10 => ?_)
                · have h := (if_pos c10).symm.trans h
                  refine lv_iconst (v := (1 : Int32)) hx hb dCM_plainIs_91 (by decide) ?_
                  refine lv_goto (tgt := 96) hx hb dCM_plainIs_92 (by decide) ?_
                  exact hend _ _ _ (Option.some.inj h) rfl dCM_plainIs_96
                · have h := (if_neg c10).symm.trans h
                  refine lv_iload_n hx hb dCM_plainIs_85 rfl (lv_at hl 1 rfl) ?_
                  refine lv_bipush (v := (7 : Int32)) hx hb dCM_plainIs_86 (by decide) ?_
                  refine lv_icmp_ne (tgt := 95) hx hb dCM_plainIs_88 (by decide) (fun c9 => ?_) (fun c9 => ?_)
                  · have h := (if_neg c9).symm.trans h
                    refine lv_iconst (v := (0 : Int32)) hx hb dCM_plainIs_95 (by decide) ?_
                    exact hend _ _ _ (Option.some.inj h) rfl dCM_plainIs_96
                  · have h := (if_pos c9).symm.trans h
                    refine lv_iconst (v := (1 : Int32)) hx hb dCM_plainIs_91 (by decide) ?_
                    refine lv_goto (tgt := 96) hx hb dCM_plainIs_92 (by decide) ?_
                    exact hend _ _ _ (Option.some.inj h) rfl dCM_plainIs_96
          · have h := (if_pos c13).symm.trans h
            refine lv_iconst (v := (1 : Int32)) hx hb dCM_plainIs_66 (by decide) ?_
            exact hend _ _ _ (Option.some.inj h) rfl dCM_plainIs_67
      · have h := (if_neg c15).symm.trans h
        refine lv_iconst (v := (0 : Int32)) hx hb dCM_plainIs_52 (by decide) ?_
        exact hend _ _ _ (Option.some.inj h) rfl dCM_plainIs_53
    · have h := (if_neg c21).symm.trans h
      refine lv_iload_n hx hb dCM_plainIs_14 rfl (lv_at hl 1 rfl) ?_
      refine lv_iconst (v := (1 : Int32)) hx hb dCM_plainIs_15 (by decide) ?_
      refine lv_icmp_ne (tgt := 29) hx hb dCM_plainIs_16 (by decide) (fun c20 => ?_) (fun c20 => ?_)
      · have h := (if_neg c20).symm.trans h
        exact wCM_plainIs_b29 C hK hP hend _ _ _ (lv_sub hl [1, 2] rfl) h
      · have h := (if_pos c20).symm.trans h
        refine lv_iload_n hx hb dCM_plainIs_19 rfl (lv_at hl 2 rfl) ?_
        refine lv_iconst (v := (2 : Int32)) hx hb dCM_plainIs_20 (by decide) ?_
        refine lv_icmp_eq (tgt := 39) hx hb dCM_plainIs_21 (by decide) (fun c19 => ?_) (fun c19 => ?_)
        · have h := (if_pos c19).symm.trans h
          refine lv_iconst (v := (1 : Int32)) hx hb dCM_plainIs_39 (by decide) ?_
          refine lv_goto (tgt := 44) hx hb dCM_plainIs_40 (by decide) ?_
          exact hend _ _ _ (Option.some.inj h) rfl dCM_plainIs_44
        · have h := (if_neg c19).symm.trans h
          refine lv_iload_n hx hb dCM_plainIs_24 rfl (lv_at hl 2 rfl) ?_
          refine lv_iconst (v := (3 : Int32)) hx hb dCM_plainIs_25 (by decide) ?_
          refine lv_icmp_eq (tgt := 39) hx hb dCM_plainIs_26 (by decide) (fun c18 => ?_) (fun c18 => ?_)
          · have h := (if_pos c18).symm.trans h
            refine lv_iconst (v := (1 : Int32)) hx hb dCM_plainIs_39 (by decide) ?_
            refine lv_goto (tgt := 44) hx hb dCM_plainIs_40 (by decide) ?_
            exact hend _ _ _ (Option.some.inj h) rfl dCM_plainIs_44
          · have h := (if_neg c18).symm.trans h
            exact wCM_plainIs_b29 C hK hP hend _ _ _ (lv_sub hl [1, 2] rfl) h
  · have h := (if_pos c22).symm.trans h
    refine lv_iconst (v := (1 : Int32)) hx hb dCM_plainIs_5 (by decide) ?_
    exact hend _ _ _ (Option.some.inj h) rfl dCM_plainIs_6
set_option maxHeartbeats 4000000 in
set_option maxRecDepth 100000 in
theorem kCM_plainIs (l : Launch) (dC : Nat → ClassId) (dI : Nat → Nat → Nat) (ad : Nat → Nat) (cA : Nat → ClassId) (σ : xSt) (x1 : Int32) (x2 : Int32) (r : Int32) (h : fCM_plainIs σ x1 x2 = some r) : Met l yCM_plainIs wsCM_plainIs rm_CM_plainIs (va_Pc [.ref (ad 0), .int (x1), .int (x2)] (fun U => va_P (dC, dI) vwC (mW ad cA σ) U.heap ∧ va_K (dC, dI) vwC (mT cA) U)) (vp_Si (fun v => v = r)) 0 0 (fun _ => False) := by
  refine Met.ofW (cc := cCM_plainIs) (maxL := 3) (ret := (some .boolean)) (by decide) rfl ?_
  intro p e s m args below meth c s₁ B hml hv
  obtain ⟨rfl, hP, hK⟩ := hv
  have hr := B.returns
  have hlocks := B.notSynchronized
  have hl := lv_entry ([.ref (ad 0), .int (x1), .int (x2)]) (n := 3) (Nat.le_of_ble_eq_true rfl)
  rw [lg_entry_eq]
  exact wCM_plainIs ⟨B.exec, B.bytes, hml, findClass_of_methodNamed B.named, fun w h => atoms_spec (ws := wsCM_plainIs) B.pre w (List.mem_cons_of_mem _ h)⟩ hK hP (fun v pc ls hv hn hd => W.zret (v := v) B.exec B.bytes hr hn (fun t ht hW => ⟨v, rfl, hv, ht⟩) (fun q hq => absurd hq List.not_mem_nil) hd) _ hl h
abbrev rm_CM_isIt : Room := { frames := 2, cells := 0, slots := 0, locals := 43 }
def fCM_isIt_b50 (σ : xSt) (x1 : Int32) (x2 : Int32) : Option Int32 :=
  if x1 < (64 : Int32) then
    if x2 < (64 : Int32) then
      (fCM_plainIs σ x1 x2).bind fun v1 =>
      if v1 &&& 1 = v1 then
        some v1
      else none
    else
      if x1 = (10 : Int32) then
        some (1 : Int32)
      else
        some (0 : Int32)
  else
    if x2 = (8 : Int32) then
      some (1 : Int32)
    else
      some (0 : Int32)
set_option maxHeartbeats 4000000 in
set_option maxRecDepth 100000 in
theorem wCM_isIt_b50 {p : Program} {l : Launch} {e : Env} {s : State} {m : MethodId} {args : Array Value} {below : List Frame} {meth : Method} {c : Code} {Q : State → Prop} {dC : Nat → ClassId} {dI : Nat → Nat → Nat} {ad : Nat → Nat} {cA : Nat → ClassId} {r : Int32} {H : Heap} {locs : List Loc} {σ : xSt} (C : CallFix p m c cCM_isIt 3 s args wAll RCM) (hK : va_K (dC, dI) vwC (mT cA) s) (hP : va_P (dC, dI) vwC (mW ad cA σ) H) (hend : ∀ (v : Int32) (pc : Nat) (ls : Array Slot), v = r → narrow .boolean (.int v) = .int v → decode cCM_isIt pc = .ok (.ireturn, 1) → W p l e rm_CM_isIt s m args below meth c H locs 0 0 Q (F0 m pc ls [.int v])) :
    ∀ (x1 : Int32) (x2 : Int32) (ls : Array Slot), lv_has ls 3 [(0, .ref (ad 0)), (1, .int (x1)), (2, .int (x2))] → fCM_isIt_b50 σ x1 x2 = some r → W p l e rm_CM_isIt s m args below meth c H locs 0 0 Q (F0 m 50 ls []) := by
  obtain ⟨hx, hb, hml, hown, hts⟩ := id C
  intro x1 x2 ls hl h
  unfold fCM_isIt_b50 at h
  refine lv_iload_n hx hb dCM_isIt_50 rfl (lv_at hl 1 rfl) ?_
  refine lv_bipush (v := (64 : Int32)) hx hb dCM_isIt_51 (by decide) ?_
  refine lv_icmp_lt (tgt := 68) hx hb dCM_isIt_53 (by decide) (fun c6 => ?_) (fun c6 => ?_)
  · have h := (if_pos c6).symm.trans h
    refine lv_iload_n hx hb dCM_isIt_68 rfl (lv_at hl 2 rfl) ?_
    refine lv_bipush (v := (64 : Int32)) hx hb dCM_isIt_69 (by decide) ?_
    refine lv_icmp_lt (tgt := 88) hx hb dCM_isIt_71 (by decide) (fun c4 => ?_) (fun c4 => ?_)
    · have h := (if_pos c4).symm.trans h
      refine lv_aload_n hx hb dCM_isIt_88 rfl (lv_at hl 0 rfl) ?_
      refine lv_iload_n hx hb dCM_isIt_89 rfl (lv_at hl 1 rfl) ?_
      refine lv_iload_n hx hb dCM_isIt_90 rfl (lv_at hl 2 rfl) ?_
      obtain ⟨v1, ev1, h⟩ := Option.bind_eq_some_iff.mp h
      refine gcall_r (b := ad 0) (As := [.int (x1), .int (x2)]) (rest := []) C hK hP (ci := 5) (q0 := 0) rfl rfl (kCM_plainIs l dC dI ad cA σ x1 x2 v1 ev1) (cwV 2 hts (gw mw_386 mw_387 mw_388 mw_363 mw_389) rfl rfl rfl hdCM_plainIs ⟨Nat.le_of_ble_eq_true rfl, Nat.le_of_ble_eq_true rfl⟩) rfl hl.1 rfl (Nat.le_of_ble_eq_true rfl) dCM_isIt_91 ⟨Nat.le_refl _, Nat.le_refl _⟩ ?_
      obtain ⟨b2, h⟩ := gx_gd h
      exact hend _ _ _ (Option.some.inj h) (gx_nar b2) dCM_isIt_94
    · have h := (if_neg c4).symm.trans h
      refine lv_iload_n hx hb dCM_isIt_74 rfl (lv_at hl 1 rfl) ?_
      refine lv_bipush (v := (10 : Int32)) hx hb dCM_isIt_75 (by decide) ?_
      refine lv_icmp_ne (tgt := 84) hx hb dCM_isIt_77 (by decide) (fun c3 => ?_) (fun c3 => ?_)
      · have h := (if_neg c3).symm.trans h
        refine lv_iconst (v := (0 : Int32)) hx hb dCM_isIt_84 (by decide) ?_
        refine lv_goto (tgt := 94) hx hb dCM_isIt_85 (by decide) ?_
        exact hend _ _ _ (Option.some.inj h) rfl dCM_isIt_94
      · have h := (if_pos c3).symm.trans h
        refine lv_iconst (v := (1 : Int32)) hx hb dCM_isIt_80 (by decide) ?_
        refine lv_goto (tgt := 94) hx hb dCM_isIt_81 (by decide) ?_
        exact hend _ _ _ (Option.some.inj h) rfl dCM_isIt_94
  · have h := (if_neg c6).symm.trans h
    refine lv_iload_n hx hb dCM_isIt_56 rfl (lv_at hl 2 rfl) ?_
    refine lv_bipush (v := (8 : Int32)) hx hb dCM_isIt_57 (by decide) ?_
    refine lv_icmp_ne (tgt := 66) hx hb dCM_isIt_59 (by decide) (fun c5 => ?_) (fun c5 => ?_)
    · have h := (if_neg c5).symm.trans h
      refine lv_iconst (v := (0 : Int32)) hx hb dCM_isIt_66 (by decide) ?_
      exact hend _ _ _ (Option.some.inj h) rfl dCM_isIt_67
    · have h := (if_pos c5).symm.trans h
      refine lv_iconst (v := (1 : Int32)) hx hb dCM_isIt_62 (by decide) ?_
      refine lv_goto (tgt := 67) hx hb dCM_isIt_63 (by decide) ?_
      exact hend _ _ _ (Option.some.inj h) rfl dCM_isIt_67
def fCM_isIt (σ : xSt) (x1 : Int32) (x2 : Int32) : Option Int32 :=
  if x1 = x2 then
    some (1 : Int32)
  else
    if x1 < (64 : Int32) then
      fCM_isIt_b50 σ x1 x2
    else
      if x2 < (64 : Int32) then
        fCM_isIt_b50 σ x1 x2
      else
        (fCM_isPrimitive σ (x1 - (64 : Int32))).bind fun v7 =>
        if v7 = 0 then
          (fCM_plainIs σ (x1 - (64 : Int32)) (x2 - (64 : Int32))).bind fun v8 =>
          if v8 = 0 then
            some (0 : Int32)
          else
            some (1 : Int32)
        else
          some (0 : Int32)
set_option maxHeartbeats 4000000 in
set_option maxRecDepth 100000 in
theorem wCM_isIt {p : Program} {l : Launch} {e : Env} {s : State} {m : MethodId} {args : Array Value} {below : List Frame} {meth : Method} {c : Code} {Q : State → Prop} {dC : Nat → ClassId} {dI : Nat → Nat → Nat} {ad : Nat → Nat} {cA : Nat → ClassId} {r : Int32} {H : Heap} {locs : List Loc} {σ : xSt} (C : CallFix p m c cCM_isIt 3 s args wAll RCM) (hK : va_K (dC, dI) vwC (mT cA) s) (hP : va_P (dC, dI) vwC (mW ad cA σ) H) (hend : ∀ (v : Int32) (pc : Nat) (ls : Array Slot), v = r → narrow .boolean (.int v) = .int v → decode cCM_isIt pc = .ok (.ireturn, 1) → W p l e rm_CM_isIt s m args below meth c H locs 0 0 Q (F0 m pc ls [.int v])) {x1 : Int32} {x2 : Int32} (ls : Array Slot) (hl : lv_has ls 3 [(0, .ref (ad 0)), (1, .int (x1)), (2, .int (x2))]) (h : fCM_isIt σ x1 x2 = some r) : W p l e rm_CM_isIt s m args below meth c H locs 0 0 Q (F0 m 0 ls []) := by
  obtain ⟨hx, hb, hml, hown, hts⟩ := id C
  unfold fCM_isIt at h
  refine lv_iload_n hx hb dCM_isIt_0 rfl (lv_at hl 1 rfl) ?_
  refine lv_iload_n hx hb dCM_isIt_1 rfl (lv_at hl 2 rfl) ?_
  refine lv_icmp_ne (tgt := 7) hx hb dCM_isIt_2 (by decide) (fun c13 => ?_) (fun c13 => ?_)
  · have h := (if_neg c13).symm.trans h
    refine lv_iload_n hx hb dCM_isIt_7 rfl (lv_at hl 1 rfl) ?_
    refine lv_bipush (v := (64 : Int32)) hx hb dCM_isIt_8 (by decide) ?_
    refine lv_icmp_lt (tgt := 50) hx hb dCM_isIt_10 (by decide) (fun c12 => ?_) (fun c12 => ?_)
    · have h := (if_pos c12).symm.trans h
      exact wCM_isIt_b50 C hK hP hend _ _ _ (lv_sub hl [0, 1, 2] rfl) h
    · have h := (if_neg c12).symm.trans h
      refine lv_iload_n hx hb dCM_isIt_13 rfl (lv_at hl 2 rfl) ?_
      refine lv_bipush (v := (64 : Int32)) hx hb dCM_isIt_14 (by decide) ?_
      refine lv_icmp_lt (tgt := 50) hx hb dCM_isIt_16 (by decide) (fun c11 => ?_) (fun c11 => ?_)
      · have h := (if_pos c11).symm.trans h
        exact wCM_isIt_b50 C hK hP hend _ _ _ (lv_sub hl [0, 1, 2] rfl) h
      · have h := (if_neg c11).symm.trans h
        refine lv_iload_n hx hb dCM_isIt_19 rfl (lv_at hl 1 rfl) ?_
        refine lv_bipush (v := (64 : Int32)) hx hb dCM_isIt_20 (by decide) ?_
        refine lv_isub hx hb dCM_isIt_22 ?_
        obtain ⟨v7, ev7, h⟩ := Option.bind_eq_some_iff.mp h
        refine gcall_s (As := [.int (x1 - (64 : Int32))]) (rest := []) C hK hP (kCM_isPrimitive l dC dI ad cA σ (x1 - (64 : Int32)) v7 ev7) (va_cwS 1 hts (gws mw_383 mw_384 mw_363 mw_385) rfl rfl rfl hdCM_isPrimitive ⟨Nat.le_of_ble_eq_true rfl, Nat.le_of_ble_eq_true rfl⟩) rfl hl.1 rfl (Nat.le_of_ble_eq_true rfl) dCM_isIt_23 ⟨Nat.le_refl _, Nat.le_refl _⟩ ?_
        refine lv_if_ne (tgt := 48) hx hb dCM_isIt_26 (by decide) (fun c10 => ?_) (fun c10 => ?_)
        · have h := (if_neg c10).symm.trans h
          refine lv_iconst (v := (0 : Int32)) hx hb dCM_isIt_48 (by decide) ?_
          exact hend _ _ _ (Option.some.inj h) rfl dCM_isIt_49
        · have h := (if_pos c10).symm.trans h
          refine lv_aload_n hx hb dCM_isIt_29 rfl (lv_at hl 0 rfl) ?_
          refine lv_iload_n hx hb dCM_isIt_30 rfl (lv_at hl 1 rfl) ?_
          refine lv_bipush (v := (64 : Int32)) hx hb dCM_isIt_31 (by decide) ?_
          refine lv_isub hx hb dCM_isIt_33 ?_
          refine lv_iload_n hx hb dCM_isIt_34 rfl (lv_at hl 2 rfl) ?_
          refine lv_bipush (v := (64 : Int32)) hx hb dCM_isIt_35 (by decide) ?_
          refine lv_isub hx hb dCM_isIt_37 ?_
          obtain ⟨v8, ev8, h⟩ := Option.bind_eq_some_iff.mp h
          refine gcall_r (b := ad 0) (As := [.int (x1 - (64 : Int32)), .int (x2 - (64 : Int32))]) (rest := []) C hK hP (ci := 5) (q0 := 0) rfl rfl (kCM_plainIs l dC dI ad cA σ (x1 - (64 : Int32)) (x2 - (64 : Int32)) v8 ev8) (cwV 2 hts (gw mw_386 mw_387 mw_388 mw_363 mw_389) rfl rfl rfl hdCM_plainIs ⟨Nat.le_of_ble_eq_true rfl, Nat.le_of_ble_eq_true rfl⟩) rfl hl.1 rfl (Nat.le_of_ble_eq_true rfl) dCM_isIt_38 ⟨Nat.le_refl _, Nat.le_refl _⟩ ?_
          refine lv_if_eq (tgt := 48) hx hb dCM_isIt_41 (by decide) (fun c9 => ?_) (fun c9 => ?_)
          · have h := (if_pos c9).symm.trans h
            refine lv_iconst (v := (0 : Int32)) hx hb dCM_isIt_48 (by decide) ?_
            exact hend _ _ _ (Option.some.inj h) rfl dCM_isIt_49
          · have h := (if_neg c9).symm.trans h
            refine lv_iconst (v := (1 : Int32)) hx hb dCM_isIt_44 (by decide) ?_
            refine lv_goto (tgt := 49) hx hb dCM_isIt_45 (by decide) ?_
            exact hend _ _ _ (Option.some.inj h) rfl dCM_isIt_49
  · have h := (if_pos c13).symm.trans h
    refine lv_iconst (v := (1 : Int32)) hx hb dCM_isIt_5 (by decide) ?_
    exact hend _ _ _ (Option.some.inj h) rfl dCM_isIt_6
set_option maxHeartbeats 4000000 in
set_option maxRecDepth 100000 in
theorem kCM_isIt (l : Launch) (dC : Nat → ClassId) (dI : Nat → Nat → Nat) (ad : Nat → Nat) (cA : Nat → ClassId) (σ : xSt) (x1 : Int32) (x2 : Int32) (r : Int32) (h : fCM_isIt σ x1 x2 = some r) : Met l yCM_isIt wsCM_isIt rm_CM_isIt (va_Pc [.ref (ad 0), .int (x1), .int (x2)] (fun U => va_P (dC, dI) vwC (mW ad cA σ) U.heap ∧ va_K (dC, dI) vwC (mT cA) U)) (vp_Si (fun v => v = r)) 0 0 (fun _ => False) := by
  refine Met.ofW (cc := cCM_isIt) (maxL := 3) (ret := (some .boolean)) (by decide) rfl ?_
  intro p e s m args below meth c s₁ B hml hv
  obtain ⟨rfl, hP, hK⟩ := hv
  have hr := B.returns
  have hlocks := B.notSynchronized
  have hl := lv_entry ([.ref (ad 0), .int (x1), .int (x2)]) (n := 3) (Nat.le_of_ble_eq_true rfl)
  rw [lg_entry_eq]
  exact wCM_isIt ⟨B.exec, B.bytes, hml, findClass_of_methodNamed B.named, fun w h => atoms_spec (ws := wsCM_isIt) B.pre w (List.mem_cons_of_mem _ h)⟩ hK hP (fun v pc ls hv hn hd => W.zret (v := v) B.exec B.bytes hr hn (fun t ht hW => ⟨v, rfl, hv, ht⟩) (fun q hq => absurd hq List.not_mem_nil) hd) _ hl h
abbrev rm_CM_is : Room := { frames := 3, cells := 0, slots := 0, locals := 65 }
def fCM_is (σ : xSt) (x1 : Int32) (x2 : Int32) : Option Int32 :=
  (fCM_isType σ x1).bind fun v1 =>
  if v1 = 0 then
    some (-2 : Int32)
  else
    (fCM_isType σ x2).bind fun v2 =>
    if v2 = 0 then
      some (-2 : Int32)
    else
      (fCM_isIt σ x1 x2).bind fun v3 =>
      if v3 = 0 then
        some (0 : Int32)
      else
        some (1 : Int32)
set_option maxHeartbeats 4000000 in
set_option maxRecDepth 100000 in
theorem wCM_is {p : Program} {l : Launch} {e : Env} {s : State} {m : MethodId} {args : Array Value} {below : List Frame} {meth : Method} {c : Code} {Q : State → Prop} {dC : Nat → ClassId} {dI : Nat → Nat → Nat} {ad : Nat → Nat} {cA : Nat → ClassId} {r : Int32} {H : Heap} {locs : List Loc} {σ : xSt} (C : CallFix p m c cCM_is 3 s args wAll RCM) (hK : va_K (dC, dI) vwC (mT cA) s) (hP : va_P (dC, dI) vwC (mW ad cA σ) H) (hend : ∀ (v : Int32) (pc : Nat) (ls : Array Slot), v = r → decode cCM_is pc = .ok (.ireturn, 1) → W p l e rm_CM_is s m args below meth c H locs 0 0 Q (F0 m pc ls [.int v])) {x1 : Int32} {x2 : Int32} (ls : Array Slot) (hl : lv_has ls 3 [(0, .ref (ad 0)), (1, .int (x1)), (2, .int (x2))]) (h : fCM_is σ x1 x2 = some r) : W p l e rm_CM_is s m args below meth c H locs 0 0 Q (F0 m 0 ls []) := by
  obtain ⟨hx, hb, hml, hown, hts⟩ := id C
  unfold fCM_is at h
  refine lv_aload_n hx hb dCM_is_0 rfl (lv_at hl 0 rfl) ?_
  refine lv_iload_n hx hb dCM_is_1 rfl (lv_at hl 1 rfl) ?_
  obtain ⟨v1, ev1, h⟩ := Option.bind_eq_some_iff.mp h
  refine gcall_r (b := ad 0) (As := [.int (x1)]) (rest := []) C hK hP (ci := 5) (q0 := 0) rfl rfl (kCM_isType l dC dI ad cA σ x1 v1 ev1) (cwV 1 hts (gw mw_379 mw_380 mw_381 mw_363 mw_382) rfl rfl rfl hdCM_isType ⟨Nat.le_of_ble_eq_true rfl, Nat.le_of_ble_eq_true rfl⟩) rfl hl.1 rfl (Nat.le_of_ble_eq_true rfl) dCM_is_2 ⟨Nat.le_refl _, Nat.le_refl _⟩ ?_
  refine lv_if_eq (tgt := 16) hx hb dCM_is_5 (by decide) (fun c6 => ?_) (fun c6 => ?_)
  · have h := (if_pos c6).symm.trans h
    refine lv_bipush (v := (-2 : Int32)) hx hb dCM_is_16 (by decide) ?_
    refine lv_goto (tgt := 35) hx hb dCM_is_18 (by decide) ?_
    exact hend _ _ _ (Option.some.inj h) dCM_is_35
  · have h := (if_neg c6).symm.trans h
    refine lv_aload_n hx hb dCM_is_8 rfl (lv_at hl 0 rfl) ?_
    refine lv_iload_n hx hb dCM_is_9 rfl (lv_at hl 2 rfl) ?_
    obtain ⟨v2, ev2, h⟩ := Option.bind_eq_some_iff.mp h
    refine gcall_r (b := ad 0) (As := [.int (x2)]) (rest := []) C hK hP (ci := 5) (q0 := 0) rfl rfl (kCM_isType l dC dI ad cA σ x2 v2 ev2) (cwV 1 hts (gw mw_379 mw_380 mw_381 mw_363 mw_382) rfl rfl rfl hdCM_isType ⟨Nat.le_of_ble_eq_true rfl, Nat.le_of_ble_eq_true rfl⟩) rfl hl.1 rfl (Nat.le_of_ble_eq_true rfl) dCM_is_10 ⟨Nat.le_refl _, Nat.le_refl _⟩ ?_
    refine lv_if_ne (tgt := 21) hx hb dCM_is_13 (by decide) (fun c5 => ?_) (fun c5 => ?_)
    · have h := (if_neg c5).symm.trans h
      refine lv_aload_n hx hb dCM_is_21 rfl (lv_at hl 0 rfl) ?_
      refine lv_iload_n hx hb dCM_is_22 rfl (lv_at hl 1 rfl) ?_
      refine lv_iload_n hx hb dCM_is_23 rfl (lv_at hl 2 rfl) ?_
      obtain ⟨v3, ev3, h⟩ := Option.bind_eq_some_iff.mp h
      refine gcall_r (b := ad 0) (As := [.int (x1), .int (x2)]) (rest := []) C hK hP (ci := 5) (q0 := 0) rfl rfl (kCM_isIt l dC dI ad cA σ x1 x2 v3 ev3) (cwV 2 hts (gw mw_390 mw_391 mw_392 mw_363 mw_393) rfl rfl rfl hdCM_isIt ⟨Nat.le_of_ble_eq_true rfl, Nat.le_of_ble_eq_true rfl⟩) rfl hl.1 rfl (Nat.le_of_ble_eq_true rfl) dCM_is_24 ⟨Nat.le_refl _, Nat.le_refl _⟩ ?_
      refine lv_if_eq (tgt := 34) hx hb dCM_is_27 (by decide) (fun c4 => ?_) (fun c4 => ?_)
      · have h := (if_pos c4).symm.trans h
        refine lv_iconst (v := (0 : Int32)) hx hb dCM_is_34 (by decide) ?_
        exact hend _ _ _ (Option.some.inj h) dCM_is_35
      · have h := (if_neg c4).symm.trans h
        refine lv_iconst (v := (1 : Int32)) hx hb dCM_is_30 (by decide) ?_
        refine lv_goto (tgt := 35) hx hb dCM_is_31 (by decide) ?_
        exact hend _ _ _ (Option.some.inj h) dCM_is_35
    · have h := (if_pos c5).symm.trans h
      refine lv_bipush (v := (-2 : Int32)) hx hb dCM_is_16 (by decide) ?_
      refine lv_goto (tgt := 35) hx hb dCM_is_18 (by decide) ?_
      exact hend _ _ _ (Option.some.inj h) dCM_is_35
set_option maxHeartbeats 4000000 in
set_option maxRecDepth 100000 in
theorem kCM_is (l : Launch) (dC : Nat → ClassId) (dI : Nat → Nat → Nat) (ad : Nat → Nat) (cA : Nat → ClassId) (σ : xSt) (x1 : Int32) (x2 : Int32) (r : Int32) (h : fCM_is σ x1 x2 = some r) : Met l yCM_is wsCM_is rm_CM_is (va_Pc [.ref (ad 0), .int (x1), .int (x2)] (fun U => va_P (dC, dI) vwC (mW ad cA σ) U.heap ∧ va_K (dC, dI) vwC (mT cA) U)) (vp_Si (fun v => v = r)) 0 0 (fun _ => False) := by
  refine Met.ofW (cc := cCM_is) (maxL := 3) (ret := (some .int)) (by decide) rfl ?_
  intro p e s m args below meth c s₁ B hml hv
  obtain ⟨rfl, hP, hK⟩ := hv
  have hr := B.returns
  have hlocks := B.notSynchronized
  have hl := lv_entry ([.ref (ad 0), .int (x1), .int (x2)]) (n := 3) (Nat.le_of_ble_eq_true rfl)
  rw [lg_entry_eq]
  exact wCM_is ⟨B.exec, B.bytes, hml, findClass_of_methodNamed B.named, fun w h => atoms_spec (ws := wsCM_is) B.pre w (List.mem_cons_of_mem _ h)⟩ hK hP (fun v pc ls hv hd => W.iret (v := v) B.exec B.bytes hr (fun t ht hW => ⟨v, rfl, hv, ht⟩) (fun q hq => absurd hq List.not_mem_nil) hd) _ hl h
abbrev rm_CM_isBox : Room := { frames := 0, cells := 0, slots := 0, locals := 0 }
def fCM_isBox (σ : xSt) (x0 : Int32) : Option Int32 :=
  if x0 < (4 : Int32) then
    some (0 : Int32)
  else
    if (8 : Int32) ≤ x0 then
      some (0 : Int32)
    else
      some (1 : Int32)
set_option maxHeartbeats 4000000 in
set_option maxRecDepth 100000 in
theorem wCM_isBox {p : Program} {l : Launch} {e : Env} {s : State} {m : MethodId} {args : Array Value} {below : List Frame} {meth : Method} {c : Code} {Q : State → Prop} {dC : Nat → ClassId} {dI : Nat → Nat → Nat} {ad : Nat → Nat} {cA : Nat → ClassId} {r : Int32} {H : Heap} {locs : List Loc} {σ : xSt} (C : CallFix p m c cCM_isBox 1 s args wAll RCM) (hK : va_K (dC, dI) vwC (mT cA) s) (hP : va_P (dC, dI) vwC (mW ad cA σ) H) (hend : ∀ (v : Int32) (pc : Nat) (ls : Array Slot), v = r → narrow .boolean (.int v) = .int v → decode cCM_isBox pc = .ok (.ireturn, 1) → W p l e rm_CM_isBox s m args below meth c H locs 0 0 Q (F0 m pc ls [.int v])) {x0 : Int32} (ls : Array Slot) (hl : lv_has ls 1 [(0, .int (x0))]) (h : fCM_isBox σ x0 = some r) : W p l e rm_CM_isBox s m args below meth c H locs 0 0 Q (F0 m 0 ls []) := by
  obtain ⟨hx, hb, hml, hown, hts⟩ := id C
  unfold fCM_isBox at h
  refine lv_iload_n hx hb dCM_isBox_0 rfl (lv_at hl 0 rfl) ?_
  refine lv_iconst (v := (4 : Int32)) hx hb dCM_isBox_1 (by decide) ?_
  refine lv_icmp_lt (tgt := 15) hx hb dCM_isBox_2 (by decide) (fun c2 => ?_) (fun c2 => ?_)
  · have h := (if_pos c2).symm.trans h
    refine lv_iconst (v := (0 : Int32)) hx hb dCM_isBox_15 (by decide) ?_
    exact hend _ _ _ (Option.some.inj h) rfl dCM_isBox_16
  · have h := (if_neg c2).symm.trans h
    refine lv_iload_n hx hb dCM_isBox_5 rfl (lv_at hl 0 rfl) ?_
    refine lv_bipush (v := (8 : Int32)) hx hb dCM_isBox_6 (by decide) ?_
    refine lv_icmp_ge (tgt := 15) hx hb dCM_isBox_8 (by decide) (fun c1 => ?_) (fun c1 => ?_)
    · have h := (if_pos c1).symm.trans h
      refine lv_iconst (v := (0 : Int32)) hx hb dCM_isBox_15 (by decide) ?_
      exact hend _ _ _ (Option.some.inj h) rfl dCM_isBox_16
    · have h := (if_neg c1).symm.trans h
      refine lv_iconst (v := (1 : Int32)) hx hb dCM_isBox_11 (by decide) ?_
      refine lv_goto (tgt := 16) hx hb dCM_isBox_12 (by decide) ?_
      exact hend _ _ _ (Option.some.inj h) rfl dCM_isBox_16
set_option maxHeartbeats 4000000 in
set_option maxRecDepth 100000 in
theorem kCM_isBox (l : Launch) (dC : Nat → ClassId) (dI : Nat → Nat → Nat) (ad : Nat → Nat) (cA : Nat → ClassId) (σ : xSt) (x0 : Int32) (r : Int32) (h : fCM_isBox σ x0 = some r) : Met l yCM_isBox wsCM_isBox rm_CM_isBox (va_Pc [.int (x0)] (fun U => va_P (dC, dI) vwC (mW ad cA σ) U.heap ∧ va_K (dC, dI) vwC (mT cA) U)) (vp_Si (fun v => v = r)) 0 0 (fun _ => False) := by
  refine Met.ofW (cc := cCM_isBox) (maxL := 1) (ret := (some .boolean)) (by decide) rfl ?_
  intro p e s m args below meth c s₁ B hml hv
  obtain ⟨rfl, hP, hK⟩ := hv
  have hr := B.returns
  have hlocks := B.notSynchronized
  have hl := lv_entry ([.int (x0)]) (n := 1) (Nat.le_of_ble_eq_true rfl)
  rw [lg_entry_eq]
  exact wCM_isBox ⟨B.exec, B.bytes, hml, findClass_of_methodNamed B.named, fun w h => atoms_spec (ws := wsCM_isBox) B.pre w (List.mem_cons_of_mem _ h)⟩ hK hP (fun v pc ls hv hn hd => W.zret (v := v) B.exec B.bytes hr hn (fun t ht hW => ⟨v, rfl, hv, ht⟩) (fun q hq => absurd hq List.not_mem_nil) hd) _ hl h
abbrev rm_CM_fitsIt : Room := { frames := 3, cells := 0, slots := 0, locals := 65 }
def fCM_fitsIt_b27 (σ : xSt) (x1 : Int32) (x2 : Int32) : Option Int32 :=
  (fCM_isBox σ x1).bind fun v3 =>
  if v3 = 0 then
    some (0 : Int32)
  else
    (fCM_isIt σ (x1 - (4 : Int32)) x2).bind fun v4 =>
    if v4 = 0 then
      some (0 : Int32)
    else
      some (1 : Int32)
set_option maxHeartbeats 4000000 in
set_option maxRecDepth 100000 in
theorem wCM_fitsIt_b27 {p : Program} {l : Launch} {e : Env} {s : State} {m : MethodId} {args : Array Value} {below : List Frame} {meth : Method} {c : Code} {Q : State → Prop} {dC : Nat → ClassId} {dI : Nat → Nat → Nat} {ad : Nat → Nat} {cA : Nat → ClassId} {r : Int32} {H : Heap} {locs : List Loc} {σ : xSt} (C : CallFix p m c cCM_fitsIt 3 s args wAll RCM) (hK : va_K (dC, dI) vwC (mT cA) s) (hP : va_P (dC, dI) vwC (mW ad cA σ) H) (hend : ∀ (v : Int32) (pc : Nat) (ls : Array Slot), v = r → narrow .boolean (.int v) = .int v → decode cCM_fitsIt pc = .ok (.ireturn, 1) → W p l e rm_CM_fitsIt s m args below meth c H locs 0 0 Q (F0 m pc ls [.int v])) :
    ∀ (x1 : Int32) (x2 : Int32) (ls : Array Slot), lv_has ls 3 [(0, .ref (ad 0)), (1, .int (x1)), (2, .int (x2))] → fCM_fitsIt_b27 σ x1 x2 = some r → W p l e rm_CM_fitsIt s m args below meth c H locs 0 0 Q (F0 m 27 ls []) := by
  obtain ⟨hx, hb, hml, hown, hts⟩ := id C
  intro x1 x2 ls hl h
  unfold fCM_fitsIt_b27 at h
  refine lv_iload_n hx hb dCM_fitsIt_27 rfl (lv_at hl 1 rfl) ?_
  obtain ⟨v3, ev3, h⟩ := Option.bind_eq_some_iff.mp h
  refine gcall_s (As := [.int (x1)]) (rest := []) C hK hP (kCM_isBox l dC dI ad cA σ x1 v3 ev3) (va_cwS 1 hts (gws mw_394 mw_395 mw_363 mw_396) rfl rfl rfl hdCM_isBox ⟨Nat.le_of_ble_eq_true rfl, Nat.le_of_ble_eq_true rfl⟩) rfl hl.1 rfl (Nat.le_of_ble_eq_true rfl) dCM_fitsIt_28 ⟨Nat.le_refl _, Nat.le_refl _⟩ ?_
  refine lv_if_eq (tgt := 49) hx hb dCM_fitsIt_31 (by decide) (fun c6 => ?_) (fun c6 => ?_)
  · have h := (if_pos c6).symm.trans h
    refine lv_iconst (v := (0 : Int32)) hx hb dCM_fitsIt_49 (by decide) ?_
    exact hend _ _ _ (Option.some.inj h) rfl dCM_fitsIt_50
  · have h := (if_neg c6).symm.trans h
    refine lv_aload_n hx hb dCM_fitsIt_34 rfl (lv_at hl 0 rfl) ?_
    refine lv_iload_n hx hb dCM_fitsIt_35 rfl (lv_at hl 1 rfl) ?_
    refine lv_iconst (v := (4 : Int32)) hx hb dCM_fitsIt_36 (by decide) ?_
    refine lv_isub hx hb dCM_fitsIt_37 ?_
    refine lv_iload_n hx hb dCM_fitsIt_38 rfl (lv_at hl 2 rfl) ?_
    obtain ⟨v4, ev4, h⟩ := Option.bind_eq_some_iff.mp h
    refine gcall_r (b := ad 0) (As := [.int (x1 - (4 : Int32)), .int (x2)]) (rest := []) C hK hP (ci := 5) (q0 := 0) rfl rfl (kCM_isIt l dC dI ad cA σ (x1 - (4 : Int32)) x2 v4 ev4) (cwV 2 hts (gw mw_390 mw_391 mw_392 mw_363 mw_393) rfl rfl rfl hdCM_isIt ⟨Nat.le_of_ble_eq_true rfl, Nat.le_of_ble_eq_true rfl⟩) rfl hl.1 rfl (Nat.le_of_ble_eq_true rfl) dCM_fitsIt_39 ⟨Nat.le_refl _, Nat.le_refl _⟩ ?_
    refine lv_if_eq (tgt := 49) hx hb dCM_fitsIt_42 (by decide) (fun c5 => ?_) (fun c5 => ?_)
    · have h := (if_pos c5).symm.trans h
      refine lv_iconst (v := (0 : Int32)) hx hb dCM_fitsIt_49 (by decide) ?_
      exact hend _ _ _ (Option.some.inj h) rfl dCM_fitsIt_50
    · have h := (if_neg c5).symm.trans h
      refine lv_iconst (v := (1 : Int32)) hx hb dCM_fitsIt_45 (by decide) ?_
      refine lv_goto (tgt := 50) hx hb dCM_fitsIt_46 (by decide) ?_
      exact hend _ _ _ (Option.some.inj h) rfl dCM_fitsIt_50
def fCM_fitsIt (σ : xSt) (x1 : Int32) (x2 : Int32) : Option Int32 :=
  (fCM_isIt σ x1 x2).bind fun v1 =>
  if v1 = 0 then
    (fCM_isPrimitive σ x1).bind fun v2 =>
    if v2 = 0 then
      fCM_fitsIt_b27 σ x1 x2
    else
      (fCM_isIt σ (x1 + (4 : Int32)) x2).bind fun v7 =>
      if v7 = 0 then
        fCM_fitsIt_b27 σ x1 x2
      else
        some (1 : Int32)
  else
    some (1 : Int32)
set_option maxHeartbeats 4000000 in
set_option maxRecDepth 100000 in
theorem wCM_fitsIt {p : Program} {l : Launch} {e : Env} {s : State} {m : MethodId} {args : Array Value} {below : List Frame} {meth : Method} {c : Code} {Q : State → Prop} {dC : Nat → ClassId} {dI : Nat → Nat → Nat} {ad : Nat → Nat} {cA : Nat → ClassId} {r : Int32} {H : Heap} {locs : List Loc} {σ : xSt} (C : CallFix p m c cCM_fitsIt 3 s args wAll RCM) (hK : va_K (dC, dI) vwC (mT cA) s) (hP : va_P (dC, dI) vwC (mW ad cA σ) H) (hend : ∀ (v : Int32) (pc : Nat) (ls : Array Slot), v = r → narrow .boolean (.int v) = .int v → decode cCM_fitsIt pc = .ok (.ireturn, 1) → W p l e rm_CM_fitsIt s m args below meth c H locs 0 0 Q (F0 m pc ls [.int v])) {x1 : Int32} {x2 : Int32} (ls : Array Slot) (hl : lv_has ls 3 [(0, .ref (ad 0)), (1, .int (x1)), (2, .int (x2))]) (h : fCM_fitsIt σ x1 x2 = some r) : W p l e rm_CM_fitsIt s m args below meth c H locs 0 0 Q (F0 m 0 ls []) := by
  obtain ⟨hx, hb, hml, hown, hts⟩ := id C
  unfold fCM_fitsIt at h
  refine lv_aload_n hx hb dCM_fitsIt_0 rfl (lv_at hl 0 rfl) ?_
  refine lv_iload_n hx hb dCM_fitsIt_1 rfl (lv_at hl 1 rfl) ?_
  refine lv_iload_n hx hb dCM_fitsIt_2 rfl (lv_at hl 2 rfl) ?_
  obtain ⟨v1, ev1, h⟩ := Option.bind_eq_some_iff.mp h
  refine gcall_r (b := ad 0) (As := [.int (x1), .int (x2)]) (rest := []) C hK hP (ci := 5) (q0 := 0) rfl rfl (kCM_isIt l dC dI ad cA σ x1 x2 v1 ev1) (cwV 2 hts (gw mw_390 mw_391 mw_392 mw_363 mw_393) rfl rfl rfl hdCM_isIt ⟨Nat.le_of_ble_eq_true rfl, Nat.le_of_ble_eq_true rfl⟩) rfl hl.1 rfl (Nat.le_of_ble_eq_true rfl) dCM_fitsIt_3 ⟨Nat.le_refl _, Nat.le_refl _⟩ ?_
  refine lv_if_ne (tgt := 45) hx hb dCM_fitsIt_6 (by decide) (fun c10 => ?_) (fun c10 => ?_)
  · have h := (if_neg c10).symm.trans h
    refine lv_iconst (v := (1 : Int32)) hx hb dCM_fitsIt_45 (by decide) ?_
    refine lv_goto (tgt := 50) hx hb dCM_fitsIt_46 (by decide) ?_
    exact hend _ _ _ (Option.some.inj h) rfl dCM_fitsIt_50
  · have h := (if_pos c10).symm.trans h
    refine lv_iload_n hx hb dCM_fitsIt_9 rfl (lv_at hl 1 rfl) ?_
    obtain ⟨v2, ev2, h⟩ := Option.bind_eq_some_iff.mp h
    refine gcall_s (As := [.int (x1)]) (rest := []) C hK hP (kCM_isPrimitive l dC dI ad cA σ x1 v2 ev2) (va_cwS 1 hts (gws mw_383 mw_384 mw_363 mw_385) rfl rfl rfl hdCM_isPrimitive ⟨Nat.le_of_ble_eq_true rfl, Nat.le_of_ble_eq_true rfl⟩) rfl hl.1 rfl (Nat.le_of_ble_eq_true rfl) dCM_fitsIt_10 ⟨Nat.le_refl _, Nat.le_refl _⟩ ?_
    refine lv_if_eq (tgt := 27) hx hb dCM_fitsIt_13 (by decide) (fun c9 => ?_) (fun c9 => ?_)
    · have h := (if_pos c9).symm.trans h
      exact wCM_fitsIt_b27 C hK hP hend _ _ _ (lv_sub hl [0, 1, 2] rfl) h
    · have h := (if_neg c9).symm.trans h
      refine lv_aload_n hx hb dCM_fitsIt_16 rfl (lv_at hl 0 rfl) ?_
      refine lv_iload_n hx hb dCM_fitsIt_17 rfl (lv_at hl 1 rfl) ?_
      refine lv_iconst (v := (4 : Int32)) hx hb dCM_fitsIt_18 (by decide) ?_
      refine lv_iadd hx hb dCM_fitsIt_19 ?_
      refine lv_iload_n hx hb dCM_fitsIt_20 rfl (lv_at hl 2 rfl) ?_
      obtain ⟨v7, ev7, h⟩ := Option.bind_eq_some_iff.mp h
      refine gcall_r (b := ad 0) (As := [.int (x1 + (4 : Int32)), .int (x2)]) (rest := []) C hK hP (ci := 5) (q0 := 0) rfl rfl (kCM_isIt l dC dI ad cA σ (x1 + (4 : Int32)) x2 v7 ev7) (cwV 2 hts (gw mw_390 mw_391 mw_392 mw_363 mw_393) rfl rfl rfl hdCM_isIt ⟨Nat.le_of_ble_eq_true rfl, Nat.le_of_ble_eq_true rfl⟩) rfl hl.1 rfl (Nat.le_of_ble_eq_true rfl) dCM_fitsIt_21 ⟨Nat.le_refl _, Nat.le_refl _⟩ ?_
      refine lv_if_ne (tgt := 45) hx hb dCM_fitsIt_24 (by decide) (fun c8 => ?_) (fun c8 => ?_)
      · have h := (if_neg c8).symm.trans h
        refine lv_iconst (v := (1 : Int32)) hx hb dCM_fitsIt_45 (by decide) ?_
        refine lv_goto (tgt := 50) hx hb dCM_fitsIt_46 (by decide) ?_
        exact hend _ _ _ (Option.some.inj h) rfl dCM_fitsIt_50
      · have h := (if_pos c8).symm.trans h
        exact wCM_fitsIt_b27 C hK hP hend _ _ _ (lv_sub hl [0, 1, 2] rfl) h
set_option maxHeartbeats 4000000 in
set_option maxRecDepth 100000 in
theorem kCM_fitsIt (l : Launch) (dC : Nat → ClassId) (dI : Nat → Nat → Nat) (ad : Nat → Nat) (cA : Nat → ClassId) (σ : xSt) (x1 : Int32) (x2 : Int32) (r : Int32) (h : fCM_fitsIt σ x1 x2 = some r) : Met l yCM_fitsIt wsCM_fitsIt rm_CM_fitsIt (va_Pc [.ref (ad 0), .int (x1), .int (x2)] (fun U => va_P (dC, dI) vwC (mW ad cA σ) U.heap ∧ va_K (dC, dI) vwC (mT cA) U)) (vp_Si (fun v => v = r)) 0 0 (fun _ => False) := by
  refine Met.ofW (cc := cCM_fitsIt) (maxL := 3) (ret := (some .boolean)) (by decide) rfl ?_
  intro p e s m args below meth c s₁ B hml hv
  obtain ⟨rfl, hP, hK⟩ := hv
  have hr := B.returns
  have hlocks := B.notSynchronized
  have hl := lv_entry ([.ref (ad 0), .int (x1), .int (x2)]) (n := 3) (Nat.le_of_ble_eq_true rfl)
  rw [lg_entry_eq]
  exact wCM_fitsIt ⟨B.exec, B.bytes, hml, findClass_of_methodNamed B.named, fun w h => atoms_spec (ws := wsCM_fitsIt) B.pre w (List.mem_cons_of_mem _ h)⟩ hK hP (fun v pc ls hv hn hd => W.zret (v := v) B.exec B.bytes hr hn (fun t ht hW => ⟨v, rfl, hv, ht⟩) (fun q hq => absurd hq List.not_mem_nil) hd) _ hl h
abbrev rm_CM_fits : Room := { frames := 4, cells := 0, slots := 0, locals := 87 }
def fCM_fits (σ : xSt) (x1 : Int32) (x2 : Int32) : Option Int32 :=
  (fCM_isType σ x1).bind fun v1 =>
  if v1 = 0 then
    some (-2 : Int32)
  else
    (fCM_isType σ x2).bind fun v2 =>
    if v2 = 0 then
      some (-2 : Int32)
    else
      (fCM_fitsIt σ x1 x2).bind fun v3 =>
      if v3 = 0 then
        some (0 : Int32)
      else
        some (1 : Int32)
set_option maxHeartbeats 4000000 in
set_option maxRecDepth 100000 in
theorem wCM_fits {p : Program} {l : Launch} {e : Env} {s : State} {m : MethodId} {args : Array Value} {below : List Frame} {meth : Method} {c : Code} {Q : State → Prop} {dC : Nat → ClassId} {dI : Nat → Nat → Nat} {ad : Nat → Nat} {cA : Nat → ClassId} {r : Int32} {H : Heap} {locs : List Loc} {σ : xSt} (C : CallFix p m c cCM_fits 3 s args wAll RCM) (hK : va_K (dC, dI) vwC (mT cA) s) (hP : va_P (dC, dI) vwC (mW ad cA σ) H) (hend : ∀ (v : Int32) (pc : Nat) (ls : Array Slot), v = r → decode cCM_fits pc = .ok (.ireturn, 1) → W p l e rm_CM_fits s m args below meth c H locs 0 0 Q (F0 m pc ls [.int v])) {x1 : Int32} {x2 : Int32} (ls : Array Slot) (hl : lv_has ls 3 [(0, .ref (ad 0)), (1, .int (x1)), (2, .int (x2))]) (h : fCM_fits σ x1 x2 = some r) : W p l e rm_CM_fits s m args below meth c H locs 0 0 Q (F0 m 0 ls []) := by
  obtain ⟨hx, hb, hml, hown, hts⟩ := id C
  unfold fCM_fits at h
  refine lv_aload_n hx hb dCM_fits_0 rfl (lv_at hl 0 rfl) ?_
  refine lv_iload_n hx hb dCM_fits_1 rfl (lv_at hl 1 rfl) ?_
  obtain ⟨v1, ev1, h⟩ := Option.bind_eq_some_iff.mp h
  refine gcall_r (b := ad 0) (As := [.int (x1)]) (rest := []) C hK hP (ci := 5) (q0 := 0) rfl rfl (kCM_isType l dC dI ad cA σ x1 v1 ev1) (cwV 1 hts (gw mw_379 mw_380 mw_381 mw_363 mw_382) rfl rfl rfl hdCM_isType ⟨Nat.le_of_ble_eq_true rfl, Nat.le_of_ble_eq_true rfl⟩) rfl hl.1 rfl (Nat.le_of_ble_eq_true rfl) dCM_fits_2 ⟨Nat.le_refl _, Nat.le_refl _⟩ ?_
  refine lv_if_eq (tgt := 16) hx hb dCM_fits_5 (by decide) (fun c6 => ?_) (fun c6 => ?_)
  · have h := (if_pos c6).symm.trans h
    refine lv_bipush (v := (-2 : Int32)) hx hb dCM_fits_16 (by decide) ?_
    refine lv_goto (tgt := 35) hx hb dCM_fits_18 (by decide) ?_
    exact hend _ _ _ (Option.some.inj h) dCM_fits_35
  · have h := (if_neg c6).symm.trans h
    refine lv_aload_n hx hb dCM_fits_8 rfl (lv_at hl 0 rfl) ?_
    refine lv_iload_n hx hb dCM_fits_9 rfl (lv_at hl 2 rfl) ?_
    obtain ⟨v2, ev2, h⟩ := Option.bind_eq_some_iff.mp h
    refine gcall_r (b := ad 0) (As := [.int (x2)]) (rest := []) C hK hP (ci := 5) (q0 := 0) rfl rfl (kCM_isType l dC dI ad cA σ x2 v2 ev2) (cwV 1 hts (gw mw_379 mw_380 mw_381 mw_363 mw_382) rfl rfl rfl hdCM_isType ⟨Nat.le_of_ble_eq_true rfl, Nat.le_of_ble_eq_true rfl⟩) rfl hl.1 rfl (Nat.le_of_ble_eq_true rfl) dCM_fits_10 ⟨Nat.le_refl _, Nat.le_refl _⟩ ?_
    refine lv_if_ne (tgt := 21) hx hb dCM_fits_13 (by decide) (fun c5 => ?_) (fun c5 => ?_)
    · have h := (if_neg c5).symm.trans h
      refine lv_aload_n hx hb dCM_fits_21 rfl (lv_at hl 0 rfl) ?_
      refine lv_iload_n hx hb dCM_fits_22 rfl (lv_at hl 1 rfl) ?_
      refine lv_iload_n hx hb dCM_fits_23 rfl (lv_at hl 2 rfl) ?_
      obtain ⟨v3, ev3, h⟩ := Option.bind_eq_some_iff.mp h
      refine gcall_r (b := ad 0) (As := [.int (x1), .int (x2)]) (rest := []) C hK hP (ci := 5) (q0 := 0) rfl rfl (kCM_fitsIt l dC dI ad cA σ x1 x2 v3 ev3) (cwV 2 hts (gw mw_397 mw_398 mw_399 mw_363 mw_400) rfl rfl rfl hdCM_fitsIt ⟨Nat.le_of_ble_eq_true rfl, Nat.le_of_ble_eq_true rfl⟩) rfl hl.1 rfl (Nat.le_of_ble_eq_true rfl) dCM_fits_24 ⟨Nat.le_refl _, Nat.le_refl _⟩ ?_
      refine lv_if_eq (tgt := 34) hx hb dCM_fits_27 (by decide) (fun c4 => ?_) (fun c4 => ?_)
      · have h := (if_pos c4).symm.trans h
        refine lv_iconst (v := (0 : Int32)) hx hb dCM_fits_34 (by decide) ?_
        exact hend _ _ _ (Option.some.inj h) dCM_fits_35
      · have h := (if_neg c4).symm.trans h
        refine lv_iconst (v := (1 : Int32)) hx hb dCM_fits_30 (by decide) ?_
        refine lv_goto (tgt := 35) hx hb dCM_fits_31 (by decide) ?_
        exact hend _ _ _ (Option.some.inj h) dCM_fits_35
    · have h := (if_pos c5).symm.trans h
      refine lv_bipush (v := (-2 : Int32)) hx hb dCM_fits_16 (by decide) ?_
      refine lv_goto (tgt := 35) hx hb dCM_fits_18 (by decide) ?_
      exact hend _ _ _ (Option.some.inj h) dCM_fits_35
set_option maxHeartbeats 4000000 in
set_option maxRecDepth 100000 in
theorem kCM_fits (l : Launch) (dC : Nat → ClassId) (dI : Nat → Nat → Nat) (ad : Nat → Nat) (cA : Nat → ClassId) (σ : xSt) (x1 : Int32) (x2 : Int32) (r : Int32) (h : fCM_fits σ x1 x2 = some r) : Met l yCM_fits wsCM_fits rm_CM_fits (va_Pc [.ref (ad 0), .int (x1), .int (x2)] (fun U => va_P (dC, dI) vwC (mW ad cA σ) U.heap ∧ va_K (dC, dI) vwC (mT cA) U)) (vp_Si (fun v => v = r)) 0 0 (fun _ => False) := by
  refine Met.ofW (cc := cCM_fits) (maxL := 3) (ret := (some .int)) (by decide) rfl ?_
  intro p e s m args below meth c s₁ B hml hv
  obtain ⟨rfl, hP, hK⟩ := hv
  have hr := B.returns
  have hlocks := B.notSynchronized
  have hl := lv_entry ([.ref (ad 0), .int (x1), .int (x2)]) (n := 3) (Nat.le_of_ble_eq_true rfl)
  rw [lg_entry_eq]
  exact wCM_fits ⟨B.exec, B.bytes, hml, findClass_of_methodNamed B.named, fun w h => atoms_spec (ws := wsCM_fits) B.pre w (List.mem_cons_of_mem _ h)⟩ hK hP (fun v pc ls hv hd => W.iret (v := v) B.exec B.bytes hr (fun t ht hW => ⟨v, rfl, hv, ht⟩) (fun q hq => absurd hq List.not_mem_nil) hd) _ hl h
abbrev rm_CM_parameter : Room := { frames := 0, cells := 0, slots := 0, locals := 0 }
def fCM_parameter (σ : xSt) (x0 : Int32) (x1 : Int32) (x2 : Int32) (x3 : Int32) (x4 : Int32) : Option Int32 :=
  if x0 = 0 then
    some x1
  else
    if x0 = (1 : Int32) then
      some x2
    else
      if x0 = (2 : Int32) then
        some x3
      else
        some x4
set_option maxHeartbeats 4000000 in
set_option maxRecDepth 100000 in
theorem wCM_parameter {p : Program} {l : Launch} {e : Env} {s : State} {m : MethodId} {args : Array Value} {below : List Frame} {meth : Method} {c : Code} {Q : State → Prop} {dC : Nat → ClassId} {dI : Nat → Nat → Nat} {ad : Nat → Nat} {cA : Nat → ClassId} {r : Int32} {H : Heap} {locs : List Loc} {σ : xSt} (C : CallFix p m c cCM_parameter 5 s args wAll RCM) (hK : va_K (dC, dI) vwC (mT cA) s) (hP : va_P (dC, dI) vwC (mW ad cA σ) H) (hend : ∀ (v : Int32) (pc : Nat) (ls : Array Slot), v = r → decode cCM_parameter pc = .ok (.ireturn, 1) → W p l e rm_CM_parameter s m args below meth c H locs 0 0 Q (F0 m pc ls [.int v])) {x0 : Int32} {x1 : Int32} {x2 : Int32} {x3 : Int32} {x4 : Int32} (ls : Array Slot) (hl : lv_has ls 5 [(0, .int (x0)), (1, .int (x1)), (2, .int (x2)), (3, .int (x3)), (4, .int (x4))]) (h : fCM_parameter σ x0 x1 x2 x3 x4 = some r) : W p l e rm_CM_parameter s m args below meth c H locs 0 0 Q (F0 m 0 ls []) := by
  obtain ⟨hx, hb, hml, hown, hts⟩ := id C
  unfold fCM_parameter at h
  refine lv_iload_n hx hb dCM_parameter_0 rfl (lv_at hl 0 rfl) ?_
  refine lv_if_ne (tgt := 8) hx hb dCM_parameter_1 (by decide) (fun c3 => ?_) (fun c3 => ?_)
  · have h := (if_neg c3).symm.trans h
    refine lv_iload_n hx hb dCM_parameter_8 rfl (lv_at hl 0 rfl) ?_
    refine lv_iconst (v := (1 : Int32)) hx hb dCM_parameter_9 (by decide) ?_
    refine lv_icmp_ne (tgt := 17) hx hb dCM_parameter_10 (by decide) (fun c2 => ?_) (fun c2 => ?_)
    · have h := (if_neg c2).symm.trans h
      refine lv_iload_n hx hb dCM_parameter_17 rfl (lv_at hl 0 rfl) ?_
      refine lv_iconst (v := (2 : Int32)) hx hb dCM_parameter_18 (by decide) ?_
      refine lv_icmp_ne (tgt := 26) hx hb dCM_parameter_19 (by decide) (fun c1 => ?_) (fun c1 => ?_)
      · have h := (if_neg c1).symm.trans h
        refine lv_iload hx hb dCM_parameter_26 (lv_at hl 4 rfl) ?_
        exact hend _ _ _ (Option.some.inj h) dCM_parameter_28
      · have h := (if_pos c1).symm.trans h
        refine lv_iload_n hx hb dCM_parameter_22 rfl (lv_at hl 3 rfl) ?_
        refine lv_goto (tgt := 28) hx hb dCM_parameter_23 (by decide) ?_
        exact hend _ _ _ (Option.some.inj h) dCM_parameter_28
    · have h := (if_pos c2).symm.trans h
      refine lv_iload_n hx hb dCM_parameter_13 rfl (lv_at hl 2 rfl) ?_
      refine lv_goto (tgt := 28) hx hb dCM_parameter_14 (by decide) ?_
      exact hend _ _ _ (Option.some.inj h) dCM_parameter_28
  · have h := (if_pos c3).symm.trans h
    refine lv_iload_n hx hb dCM_parameter_4 rfl (lv_at hl 1 rfl) ?_
    refine lv_goto (tgt := 28) hx hb dCM_parameter_5 (by decide) ?_
    exact hend _ _ _ (Option.some.inj h) dCM_parameter_28
set_option maxHeartbeats 4000000 in
set_option maxRecDepth 100000 in
theorem kCM_parameter (l : Launch) (dC : Nat → ClassId) (dI : Nat → Nat → Nat) (ad : Nat → Nat) (cA : Nat → ClassId) (σ : xSt) (x0 : Int32) (x1 : Int32) (x2 : Int32) (x3 : Int32) (x4 : Int32) (r : Int32) (h : fCM_parameter σ x0 x1 x2 x3 x4 = some r) : Met l yCM_parameter wsCM_parameter rm_CM_parameter (va_Pc [.int (x0), .int (x1), .int (x2), .int (x3), .int (x4)] (fun U => va_P (dC, dI) vwC (mW ad cA σ) U.heap ∧ va_K (dC, dI) vwC (mT cA) U)) (vp_Si (fun v => v = r)) 0 0 (fun _ => False) := by
  refine Met.ofW (cc := cCM_parameter) (maxL := 5) (ret := (some .int)) (by decide) rfl ?_
  intro p e s m args below meth c s₁ B hml hv
  obtain ⟨rfl, hP, hK⟩ := hv
  have hr := B.returns
  have hlocks := B.notSynchronized
  have hl := lv_entry ([.int (x0), .int (x1), .int (x2), .int (x3), .int (x4)]) (n := 5) (Nat.le_of_ble_eq_true rfl)
  rw [lg_entry_eq]
  exact wCM_parameter ⟨B.exec, B.bytes, hml, findClass_of_methodNamed B.named, fun w h => atoms_spec (ws := wsCM_parameter) B.pre w (List.mem_cons_of_mem _ h)⟩ hK hP (fun v pc ls hv hd => W.iret (v := v) B.exec B.bytes hr (fun t ht hW => ⟨v, rfl, hv, ht⟩) (fun q hq => absurd hq List.not_mem_nil) hd) _ hl h
abbrev rm_CM_isValue : Room := { frames := 3, cells := 0, slots := 0, locals := 63 }
def fCM_isValue (σ : xSt) (x1 : Int32) : Option Int32 :=
  (fCM_isType σ x1).bind fun v1 =>
  if v1 = 0 then
    some (0 : Int32)
  else
    if x1 = (10 : Int32) then
      some (0 : Int32)
    else
      some (1 : Int32)
set_option maxHeartbeats 4000000 in
set_option maxRecDepth 100000 in
theorem wCM_isValue {p : Program} {l : Launch} {e : Env} {s : State} {m : MethodId} {args : Array Value} {below : List Frame} {meth : Method} {c : Code} {Q : State → Prop} {dC : Nat → ClassId} {dI : Nat → Nat → Nat} {ad : Nat → Nat} {cA : Nat → ClassId} {r : Int32} {H : Heap} {locs : List Loc} {σ : xSt} (C : CallFix p m c cCM_isValue 2 s args wAll RCM) (hK : va_K (dC, dI) vwC (mT cA) s) (hP : va_P (dC, dI) vwC (mW ad cA σ) H) (hend : ∀ (v : Int32) (pc : Nat) (ls : Array Slot), v = r → narrow .boolean (.int v) = .int v → decode cCM_isValue pc = .ok (.ireturn, 1) → W p l e rm_CM_isValue s m args below meth c H locs 0 0 Q (F0 m pc ls [.int v])) {x1 : Int32} (ls : Array Slot) (hl : lv_has ls 2 [(0, .ref (ad 0)), (1, .int (x1))]) (h : fCM_isValue σ x1 = some r) : W p l e rm_CM_isValue s m args below meth c H locs 0 0 Q (F0 m 0 ls []) := by
  obtain ⟨hx, hb, hml, hown, hts⟩ := id C
  unfold fCM_isValue at h
  refine lv_aload_n hx hb dCM_isValue_0 rfl (lv_at hl 0 rfl) ?_
  refine lv_iload_n hx hb dCM_isValue_1 rfl (lv_at hl 1 rfl) ?_
  obtain ⟨v1, ev1, h⟩ := Option.bind_eq_some_iff.mp h
  refine gcall_r (b := ad 0) (As := [.int (x1)]) (rest := []) C hK hP (ci := 5) (q0 := 0) rfl rfl (kCM_isType l dC dI ad cA σ x1 v1 ev1) (cwV 1 hts (gw mw_379 mw_380 mw_381 mw_363 mw_382) rfl rfl rfl hdCM_isType ⟨Nat.le_of_ble_eq_true rfl, Nat.le_of_ble_eq_true rfl⟩) rfl hl.1 rfl (Nat.le_of_ble_eq_true rfl) dCM_isValue_2 ⟨Nat.le_refl _, Nat.le_refl _⟩ ?_
  refine lv_if_eq (tgt := 18) hx hb dCM_isValue_5 (by decide) (fun c3 => ?_) (fun c3 => ?_)
  · have h := (if_pos c3).symm.trans h
    refine lv_iconst (v := (0 : Int32)) hx hb dCM_isValue_18 (by decide) ?_
    exact hend _ _ _ (Option.some.inj h) rfl dCM_isValue_19
  · have h := (if_neg c3).symm.trans h
    refine lv_iload_n hx hb dCM_isValue_8 rfl (lv_at hl 1 rfl) ?_
    refine lv_bipush (v := (10 : Int32)) hx hb dCM_isValue_9 (by decide) ?_
    refine lv_icmp_eq (tgt := 18) hx hb dCM_isValue_11 (by decide) (fun c2 => ?_) (fun c2 => ?_)
    · have h := (if_pos c2).symm.trans h
      refine lv_iconst (v := (0 : Int32)) hx hb dCM_isValue_18 (by decide) ?_
      exact hend _ _ _ (Option.some.inj h) rfl dCM_isValue_19
    · have h := (if_neg c2).symm.trans h
      refine lv_iconst (v := (1 : Int32)) hx hb dCM_isValue_14 (by decide) ?_
      refine lv_goto (tgt := 19) hx hb dCM_isValue_15 (by decide) ?_
      exact hend _ _ _ (Option.some.inj h) rfl dCM_isValue_19
set_option maxHeartbeats 4000000 in
set_option maxRecDepth 100000 in
theorem kCM_isValue (l : Launch) (dC : Nat → ClassId) (dI : Nat → Nat → Nat) (ad : Nat → Nat) (cA : Nat → ClassId) (σ : xSt) (x1 : Int32) (r : Int32) (h : fCM_isValue σ x1 = some r) : Met l yCM_isValue wsCM_isValue rm_CM_isValue (va_Pc [.ref (ad 0), .int (x1)] (fun U => va_P (dC, dI) vwC (mW ad cA σ) U.heap ∧ va_K (dC, dI) vwC (mT cA) U)) (vp_Si (fun v => v = r)) 0 0 (fun _ => False) := by
  refine Met.ofW (cc := cCM_isValue) (maxL := 2) (ret := (some .boolean)) (by decide) rfl ?_
  intro p e s m args below meth c s₁ B hml hv
  obtain ⟨rfl, hP, hK⟩ := hv
  have hr := B.returns
  have hlocks := B.notSynchronized
  have hl := lv_entry ([.ref (ad 0), .int (x1)]) (n := 2) (Nat.le_of_ble_eq_true rfl)
  rw [lg_entry_eq]
  exact wCM_isValue ⟨B.exec, B.bytes, hml, findClass_of_methodNamed B.named, fun w h => atoms_spec (ws := wsCM_isValue) B.pre w (List.mem_cons_of_mem _ h)⟩ hK hP (fun v pc ls hv hn hd => W.zret (v := v) B.exec B.bytes hr hn (fun t ht hW => ⟨v, rfl, hv, ht⟩) (fun q hq => absurd hq List.not_mem_nil) hd) _ hl h
abbrev rm_CM_isName : Room := { frames := 0, cells := 0, slots := 0, locals := 0 }
def fCM_isName (σ : xSt) (x0 : Int32) : Option Int32 :=
  if x0 < 0 then
    some (0 : Int32)
  else
    if (16 : Int32) ≤ x0 then
      some (0 : Int32)
    else
      some (1 : Int32)
set_option maxHeartbeats 4000000 in
set_option maxRecDepth 100000 in
theorem wCM_isName {p : Program} {l : Launch} {e : Env} {s : State} {m : MethodId} {args : Array Value} {below : List Frame} {meth : Method} {c : Code} {Q : State → Prop} {dC : Nat → ClassId} {dI : Nat → Nat → Nat} {ad : Nat → Nat} {cA : Nat → ClassId} {r : Int32} {H : Heap} {locs : List Loc} {σ : xSt} (C : CallFix p m c cCM_isName 1 s args wAll RCM) (hK : va_K (dC, dI) vwC (mT cA) s) (hP : va_P (dC, dI) vwC (mW ad cA σ) H) (hend : ∀ (v : Int32) (pc : Nat) (ls : Array Slot), v = r → narrow .boolean (.int v) = .int v → decode cCM_isName pc = .ok (.ireturn, 1) → W p l e rm_CM_isName s m args below meth c H locs 0 0 Q (F0 m pc ls [.int v])) {x0 : Int32} (ls : Array Slot) (hl : lv_has ls 1 [(0, .int (x0))]) (h : fCM_isName σ x0 = some r) : W p l e rm_CM_isName s m args below meth c H locs 0 0 Q (F0 m 0 ls []) := by
  obtain ⟨hx, hb, hml, hown, hts⟩ := id C
  unfold fCM_isName at h
  refine lv_iload_n hx hb dCM_isName_0 rfl (lv_at hl 0 rfl) ?_
  refine lv_if_lt (tgt := 14) hx hb dCM_isName_1 (by decide) (fun c2 => ?_) (fun c2 => ?_)
  · have h := (if_pos c2).symm.trans h
    refine lv_iconst (v := (0 : Int32)) hx hb dCM_isName_14 (by decide) ?_
    exact hend _ _ _ (Option.some.inj h) rfl dCM_isName_15
  · have h := (if_neg c2).symm.trans h
    refine lv_iload_n hx hb dCM_isName_4 rfl (lv_at hl 0 rfl) ?_
    refine lv_bipush (v := (16 : Int32)) hx hb dCM_isName_5 (by decide) ?_
    refine lv_icmp_ge (tgt := 14) hx hb dCM_isName_7 (by decide) (fun c1 => ?_) (fun c1 => ?_)
    · have h := (if_pos c1).symm.trans h
      refine lv_iconst (v := (0 : Int32)) hx hb dCM_isName_14 (by decide) ?_
      exact hend _ _ _ (Option.some.inj h) rfl dCM_isName_15
    · have h := (if_neg c1).symm.trans h
      refine lv_iconst (v := (1 : Int32)) hx hb dCM_isName_10 (by decide) ?_
      refine lv_goto (tgt := 15) hx hb dCM_isName_11 (by decide) ?_
      exact hend _ _ _ (Option.some.inj h) rfl dCM_isName_15
set_option maxHeartbeats 4000000 in
set_option maxRecDepth 100000 in
theorem kCM_isName (l : Launch) (dC : Nat → ClassId) (dI : Nat → Nat → Nat) (ad : Nat → Nat) (cA : Nat → ClassId) (σ : xSt) (x0 : Int32) (r : Int32) (h : fCM_isName σ x0 = some r) : Met l yCM_isName wsCM_isName rm_CM_isName (va_Pc [.int (x0)] (fun U => va_P (dC, dI) vwC (mW ad cA σ) U.heap ∧ va_K (dC, dI) vwC (mT cA) U)) (vp_Si (fun v => v = r)) 0 0 (fun _ => False) := by
  refine Met.ofW (cc := cCM_isName) (maxL := 1) (ret := (some .boolean)) (by decide) rfl ?_
  intro p e s m args below meth c s₁ B hml hv
  obtain ⟨rfl, hP, hK⟩ := hv
  have hr := B.returns
  have hlocks := B.notSynchronized
  have hl := lv_entry ([.int (x0)]) (n := 1) (Nat.le_of_ble_eq_true rfl)
  rw [lg_entry_eq]
  exact wCM_isName ⟨B.exec, B.bytes, hml, findClass_of_methodNamed B.named, fun w h => atoms_spec (ws := wsCM_isName) B.pre w (List.mem_cons_of_mem _ h)⟩ hK hP (fun v pc ls hv hn hd => W.zret (v := v) B.exec B.bytes hr hn (fun t ht hW => ⟨v, rfl, hv, ht⟩) (fun q hq => absurd hq List.not_mem_nil) hd) _ hl h
abbrev rm_CM_member : Room := { frames := 4, cells := 0, slots := 0, locals := 84 }
def fCM_member_b379 : Nat → xSt → Int32 → Int32 → Int32 → Int32 → Int32 → Int32 → Option (Int32 × xSt)
  | 0, _, _, _, _, _, _, _ => none
  | n + 1, σ, x5, x6, x7, x8, x9, x12 =>
    if x5 ≤ x12 then
      nm (sI σ 0 6 ((σ.1 0 6) + (1 : Int32))) fun σ12 =>
      (fCM_forgetFunctions σ12).bind fun σ14 =>
      some ((σ14.1 0 6) - (1 : Int32), σ14)
    else
      (fCM_parameter σ x12 x6 x7 x8 x9).bind fun v15 =>
      if (((4 : Int32) * (σ.1 0 6)) + x12) < 0 ∨ 240 ≤ (((4 : Int32) * (σ.1 0 6)) + x12).toNatClampNeg then none else
      nm (sI σ 11 (((4 : Int32) * (σ.1 0 6)) + x12).toNatClampNeg v15) fun σ17 =>
      fCM_member_b379 n σ17 x5 x6 x7 x8 x9 (x12 + (1 : Int32))
set_option maxHeartbeats 4000000 in
set_option maxRecDepth 100000 in
theorem wCM_member_b379 {p : Program} {l : Launch} {e : Env} {s : State} {m : MethodId} {args : Array Value} {below : List Frame} {meth : Method} {c : Code} {Q : State → Prop} {dC : Nat → ClassId} {dI : Nat → Nat → Nat} {ad : Nat → Nat} {cA : Nat → ClassId} {r : (Int32 × xSt)} (C : CallFix p m c cCM_member 15 s args wAll RCM) (hK : va_K (dC, dI) vwC (mT cA) s) (hend : ∀ (v : Int32) (σ : xSt) (H : Heap) (locs : List Loc) (pc : Nat) (ls : Array Slot), (v, σ) = r → va_P (dC, dI) vwC (mW ad cA σ) H → va_S (mA ad) s.heap H locs → decode cCM_member pc = .ok (.ireturn, 1) → W p l e rm_CM_member s m args below meth c H locs 0 0 Q (F0 m pc ls [.int v])) :
    ∀ (n : Nat) (σ : xSt) (H : Heap) (locs : List Loc) (x5 : Int32) (x6 : Int32) (x7 : Int32) (x8 : Int32) (x9 : Int32) (x12 : Int32) (ls : Array Slot), va_P (dC, dI) vwC (mW ad cA σ) H → va_D (mA ad) (mW ad cA σ) → va_S (mA ad) s.heap H locs → lv_has ls 15 [(0, .ref (ad 0)), (5, .int (x5)), (6, .int (x6)), (7, .int (x7)), (8, .int (x8)), (9, .int (x9)), (12, .int (x12))] → fCM_member_b379 n σ x5 x6 x7 x8 x9 x12 = some r → W p l e rm_CM_member s m args below meth c H locs 0 0 Q (F0 m 379 ls []) := by
  obtain ⟨hx, hb, hml, hown, hts⟩ := id C
  intro n
  induction n with
  | zero =>
    intro σ H locs x5 x6 x7 x8 x9 x12 ls hP hD hS hl h
    rw [fCM_member_b379] at h
    cases h
  | succ n ih =>
    intro σ H locs x5 x6 x7 x8 x9 x12 ls hP hD hS hl h
    rw [fCM_member_b379] at h
    refine lv_iload hx hb dCM_member_379 (lv_at hl 6 rfl) ?_
    refine lv_iload hx hb dCM_member_381 (lv_at hl 1 rfl) ?_
    refine lv_icmp_ge (tgt := 419) hx hb dCM_member_383 (by decide) (fun c18 => ?_) (fun c18 => ?_)
    · have h := (if_pos c18).symm.trans h
      refine lv_aload_n hx hb dCM_member_419 rfl (lv_at hl 0 rfl) ?_
      refine lv_dup hx hb dCM_member_420 rfl ?_
      refine va_get (D := (dC, dI)) (ci := 5) (v := .int (σ.1 0 6)) (C := RCM) (T := TCM) (N := 23) hx hb hts inCM hown hK hP 0 rfl rfl 6 (by decide) (hts _ mw_401) (fun _ h9 => h9) rfl dCM_member_421 ?_
      refine lv_iconst (v := (1 : Int32)) hx hb dCM_member_424 (by decide) ?_
      refine lv_iadd hx hb dCM_member_425 ?_
      refine va_put (D := (dC, dI)) (ci := 5) (v := .int ((σ.1 0 6) + (1 : Int32))) (ty := .int) (C := RCM) (T := TCM) (N := 23) hx hb hts inCM tyCM tyCM_ok nnCM hown hK hP hD hS 0 rfl rfl 6 (by decide) (hts _ mw_401) (fun _ h9 => h9) rfl (by decide +kernel) rfl rfl (Nat.le_of_ble_eq_true rfl) dCM_member_426 (fun H locs hP hD hS => ?_)
      obtain ⟨σ12, eσ12⟩ : ∃ z, z = sI σ 0 6 ((σ.1 0 6) + (1 : Int32)) := ⟨_, rfl⟩
      have hP : va_P (dC, dI) vwC (mW ad cA σ12) H := by rw [eσ12]; exact hP
      have hD : va_D (mA ad) (mW ad cA σ12) := by rw [eσ12]; exact hD
      have h := nm_at eσ12 h
      refine lv_aload_n hx hb dCM_member_429 rfl (lv_at hl 0 rfl) ?_
      obtain ⟨σ14, eσ14, h⟩ := Option.bind_eq_some_iff.mp h
      refine gcall_v (wd := mW ad cA) (b := ad 0) (As := []) (rest := []) mkeys C hK hP hD hS (ci := 5) (q0 := 0) rfl rfl (kCM_forgetFunctions l dC dI ad cA σ12 σ14 eσ14) (cwV 0 hts (gw mw_360 mw_361 mw_362 mw_363 mw_364) rfl rfl rfl hdCM_forgetFunctions ⟨Nat.le_of_ble_eq_true rfl, Nat.le_of_ble_eq_true rfl⟩) rfl hl.1 rfl (Nat.le_of_ble_eq_true rfl) dCM_member_430 ⟨Nat.le_refl _, Nat.le_refl _⟩ (fun H locs hP hD hS => ?_)
      refine lv_aload_n hx hb dCM_member_433 rfl (lv_at hl 0 rfl) ?_
      refine va_get (D := (dC, dI)) (ci := 5) (v := .int (σ14.1 0 6)) (C := RCM) (T := TCM) (N := 23) hx hb hts inCM hown hK hP 0 rfl rfl 6 (by decide) (hts _ mw_401) (fun _ h9 => h9) rfl dCM_member_434 ?_
      refine lv_iconst (v := (1 : Int32)) hx hb dCM_member_437 (by decide) ?_
      refine lv_isub hx hb dCM_member_438 ?_
      exact hend _ _ _ _ _ _ (Option.some.inj h) hP hS dCM_member_439
    · have h := (if_neg c18).symm.trans h
      refine lv_aload_n hx hb dCM_member_386 rfl (lv_at hl 0 rfl) ?_
      refine va_get (D := (dC, dI)) (ci := 5) (v := .ref (ad 11)) (C := RCM) (T := TCM) (N := 23) hx hb hts inCM hown hK hP 0 rfl rfl 12 (by decide) (hts _ mw_407) (fun _ h9 => h9) rfl dCM_member_387 ?_
      refine lv_iconst (v := (4 : Int32)) hx hb dCM_member_390 (by decide) ?_
      refine lv_aload_n hx hb dCM_member_391 rfl (lv_at hl 0 rfl) ?_
      refine va_get (D := (dC, dI)) (ci := 5) (v := .int (σ.1 0 6)) (C := RCM) (T := TCM) (N := 23) hx hb hts inCM hown hK hP 0 rfl rfl 6 (by decide) (hts _ mw_401) (fun _ h9 => h9) rfl dCM_member_392 ?_
      refine lv_imul hx hb dCM_member_395 ?_
      refine lv_iload hx hb dCM_member_396 (lv_at hl 6 rfl) ?_
      refine lv_iadd hx hb dCM_member_398 ?_
      refine lv_iload hx hb dCM_member_399 (lv_at hl 6 rfl) ?_
      refine lv_iload hx hb dCM_member_401 (lv_at hl 2 rfl) ?_
      refine lv_iload hx hb dCM_member_403 (lv_at hl 3 rfl) ?_
      refine lv_iload hx hb dCM_member_405 (lv_at hl 4 rfl) ?_
      refine lv_iload hx hb dCM_member_407 (lv_at hl 5 rfl) ?_
      obtain ⟨v15, ev15, h⟩ := Option.bind_eq_some_iff.mp h
      refine gcall_s (As := [.int (x12), .int (x6), .int (x7), .int (x8), .int (x9)]) (rest := [.int (((4 : Int32) * (σ.1 0 6)) + x12), .ref (ad 11)]) C hK hP (kCM_parameter l dC dI ad cA σ x12 x6 x7 x8 x9 v15 ev15) (va_cwS 5 hts (gws mw_408 mw_409 mw_363 mw_410) rfl rfl rfl hdCM_parameter ⟨Nat.le_of_ble_eq_true rfl, Nat.le_of_ble_eq_true rfl⟩) rfl hl.1 rfl (Nat.le_of_ble_eq_true rfl) dCM_member_409 ⟨Nat.le_refl _, Nat.le_refl _⟩ ?_
      obtain ⟨b16, h⟩ := gx_nb h
      refine va_iast hx hb hK hP hD hS 11 10 rfl rfl b16 dCM_member_412 (fun H locs hP hD hS => ?_)
      obtain ⟨σ17, eσ17⟩ : ∃ z, z = sI σ 11 (((4 : Int32) * (σ.1 0 6)) + x12).toNatClampNeg v15 := ⟨_, rfl⟩
      have hP : va_P (dC, dI) vwC (mW ad cA σ17) H := by rw [eσ17]; exact hP
      have hD : va_D (mA ad) (mW ad cA σ17) := by rw [eσ17]; exact hD
      have h := nm_at eσ17 h
      refine lv_iinc (v := x12 + (1 : Int32)) (lv' := [(12, .int (x12 + (1 : Int32))), (0, .ref (ad 0)), (5, .int (x5)), (6, .int (x6)), (7, .int (x7)), (8, .int (x8)), (9, .int (x9))]) hx hb dCM_member_413 hl (k := 6) rfl rfl (by decide) rfl (fun ls hl => ?_)
      refine lv_goto (tgt := 379) hx hb dCM_member_416 (by decide) ?_
      exact ih _ _ _ _ _ _ _ _ _ _ hP hD hS (lv_sub hl [1, 2, 3, 4, 5, 6, 0] rfl) h
def fCM_member_b310 (k204 : xSt → Int32 → Int32 → Int32 → Int32 → Int32 → Int32 → Int32 → Int32 → Int32 → Int32 → Option (Int32 × xSt)) (σ : xSt) (x1 : Int32) (x2 : Int32) (x3 : Int32) (x4 : Int32) (x5 : Int32) (x6 : Int32) (x7 : Int32) (x8 : Int32) (x9 : Int32) (x12 : Int32) (x13 : Int32) : Option (Int32 × xSt) :=
  if x13 = 0 then
    k204 σ x1 x2 x3 x4 x5 x6 x7 x8 x9 (x12 + (1 : Int32))
  else
    some ((-2 : Int32), σ)
set_option maxHeartbeats 4000000 in
set_option maxRecDepth 100000 in
theorem wCM_member_b310 {p : Program} {l : Launch} {e : Env} {s : State} {m : MethodId} {args : Array Value} {below : List Frame} {meth : Method} {c : Code} {Q : State → Prop} {dC : Nat → ClassId} {dI : Nat → Nat → Nat} {ad : Nat → Nat} {cA : Nat → ClassId} {r : (Int32 × xSt)} (C : CallFix p m c cCM_member 15 s args wAll RCM) (hK : va_K (dC, dI) vwC (mT cA) s) (hend : ∀ (v : Int32) (σ : xSt) (H : Heap) (locs : List Loc) (pc : Nat) (ls : Array Slot), (v, σ) = r → va_P (dC, dI) vwC (mW ad cA σ) H → va_S (mA ad) s.heap H locs → decode cCM_member pc = .ok (.ireturn, 1) → W p l e rm_CM_member s m args below meth c H locs 0 0 Q (F0 m pc ls [.int v])) {k204 : xSt → Int32 → Int32 → Int32 → Int32 → Int32 → Int32 → Int32 → Int32 → Int32 → Int32 → Option (Int32 × xSt)} (hk204 : ∀ (σ : xSt) (H : Heap) (locs : List Loc) (x1 : Int32) (x2 : Int32) (x3 : Int32) (x4 : Int32) (x5 : Int32) (x6 : Int32) (x7 : Int32) (x8 : Int32) (x9 : Int32) (x12 : Int32) (ls : Array Slot), va_P (dC, dI) vwC (mW ad cA σ) H → va_D (mA ad) (mW ad cA σ) → va_S (mA ad) s.heap H locs → lv_has ls 15 [(0, .ref (ad 0)), (1, .int (x1)), (2, .int (x2)), (3, .int (x3)), (4, .int (x4)), (5, .int (x5)), (6, .int (x6)), (7, .int (x7)), (8, .int (x8)), (9, .int (x9)), (12, .int (x12))] → k204 σ x1 x2 x3 x4 x5 x6 x7 x8 x9 x12 = some r → W p l e rm_CM_member s m args below meth c H locs 0 0 Q (F0 m 204 ls [])) :
    ∀ (σ : xSt) (H : Heap) (locs : List Loc) (x1 : Int32) (x2 : Int32) (x3 : Int32) (x4 : Int32) (x5 : Int32) (x6 : Int32) (x7 : Int32) (x8 : Int32) (x9 : Int32) (x12 : Int32) (x13 : Int32) (ls : Array Slot), va_P (dC, dI) vwC (mW ad cA σ) H → va_D (mA ad) (mW ad cA σ) → va_S (mA ad) s.heap H locs → lv_has ls 15 [(0, .ref (ad 0)), (1, .int (x1)), (2, .int (x2)), (3, .int (x3)), (4, .int (x4)), (5, .int (x5)), (6, .int (x6)), (7, .int (x7)), (8, .int (x8)), (9, .int (x9)), (12, .int (x12)), (13, .int (x13))] → fCM_member_b310 k204 σ x1 x2 x3 x4 x5 x6 x7 x8 x9 x12 x13 = some r → W p l e rm_CM_member s m args below meth c H locs 0 0 Q (F0 m 310 ls []) := by
  obtain ⟨hx, hb, hml, hown, hts⟩ := id C
  intro σ H locs x1 x2 x3 x4 x5 x6 x7 x8 x9 x12 x13 ls hP hD hS hl h
  unfold fCM_member_b310 at h
  refine lv_iload hx hb dCM_member_310 (lv_at hl 11 rfl) ?_
  refine lv_if_eq (tgt := 318) hx hb dCM_member_312 (by decide) (fun c20 => ?_) (fun c20 => ?_)
  · have h := (if_pos c20).symm.trans h
    refine lv_iinc (v := x12 + (1 : Int32)) (lv' := [(12, .int (x12 + (1 : Int32))), (0, .ref (ad 0)), (1, .int (x1)), (2, .int (x2)), (3, .int (x3)), (4, .int (x4)), (5, .int (x5)), (6, .int (x6)), (7, .int (x7)), (8, .int (x8)), (9, .int (x9)), (13, .int (x13))]) hx hb dCM_member_318 hl (k := 10) rfl rfl (by decide) rfl (fun ls hl => ?_)
    refine lv_goto (tgt := 204) hx hb dCM_member_321 (by decide) ?_
    exact hk204 _ _ _ _ _ _ _ _ _ _ _ _ _ _ hP hD hS (lv_sub hl [1, 2, 3, 4, 5, 6, 7, 8, 9, 10, 0] rfl) h
  · have h := (if_neg c20).symm.trans h
    refine lv_bipush (v := (-2 : Int32)) hx hb dCM_member_315 (by decide) ?_
    exact hend _ _ _ _ _ _ (Option.some.inj h) hP hS dCM_member_317
def fCM_member_b302 (k204 : xSt → Int32 → Int32 → Int32 → Int32 → Int32 → Int32 → Int32 → Int32 → Int32 → Int32 → Option (Int32 × xSt)) (k257 : xSt → Int32 → Int32 → Int32 → Int32 → Int32 → Int32 → Int32 → Int32 → Int32 → Int32 → Int32 → Int32 → Option (Int32 × xSt)) (σ : xSt) (x1 : Int32) (x2 : Int32) (x3 : Int32) (x4 : Int32) (x5 : Int32) (x6 : Int32) (x7 : Int32) (x8 : Int32) (x9 : Int32) (x12 : Int32) (x14 : Int32) (s0 : Int32) : Option (Int32 × xSt) :=
  k257 σ x1 x2 x3 x4 x5 x6 x7 x8 x9 x12 s0 (x14 + (1 : Int32))
set_option maxHeartbeats 4000000 in
set_option maxRecDepth 100000 in
theorem wCM_member_b302 {p : Program} {l : Launch} {e : Env} {s : State} {m : MethodId} {args : Array Value} {below : List Frame} {meth : Method} {c : Code} {Q : State → Prop} {dC : Nat → ClassId} {dI : Nat → Nat → Nat} {ad : Nat → Nat} {cA : Nat → ClassId} {r : (Int32 × xSt)} (C : CallFix p m c cCM_member 15 s args wAll RCM) (hK : va_K (dC, dI) vwC (mT cA) s) (hend : ∀ (v : Int32) (σ : xSt) (H : Heap) (locs : List Loc) (pc : Nat) (ls : Array Slot), (v, σ) = r → va_P (dC, dI) vwC (mW ad cA σ) H → va_S (mA ad) s.heap H locs → decode cCM_member pc = .ok (.ireturn, 1) → W p l e rm_CM_member s m args below meth c H locs 0 0 Q (F0 m pc ls [.int v])) {k204 : xSt → Int32 → Int32 → Int32 → Int32 → Int32 → Int32 → Int32 → Int32 → Int32 → Int32 → Option (Int32 × xSt)} {k257 : xSt → Int32 → Int32 → Int32 → Int32 → Int32 → Int32 → Int32 → Int32 → Int32 → Int32 → Int32 → Int32 → Option (Int32 × xSt)} (hk204 : ∀ (σ : xSt) (H : Heap) (locs : List Loc) (x1 : Int32) (x2 : Int32) (x3 : Int32) (x4 : Int32) (x5 : Int32) (x6 : Int32) (x7 : Int32) (x8 : Int32) (x9 : Int32) (x12 : Int32) (ls : Array Slot), va_P (dC, dI) vwC (mW ad cA σ) H → va_D (mA ad) (mW ad cA σ) → va_S (mA ad) s.heap H locs → lv_has ls 15 [(0, .ref (ad 0)), (1, .int (x1)), (2, .int (x2)), (3, .int (x3)), (4, .int (x4)), (5, .int (x5)), (6, .int (x6)), (7, .int (x7)), (8, .int (x8)), (9, .int (x9)), (12, .int (x12))] → k204 σ x1 x2 x3 x4 x5 x6 x7 x8 x9 x12 = some r → W p l e rm_CM_member s m args below meth c H locs 0 0 Q (F0 m 204 ls [])) (hk257 : ∀ (σ : xSt) (H : Heap) (locs : List Loc) (x1 : Int32) (x2 : Int32) (x3 : Int32) (x4 : Int32) (x5 : Int32) (x6 : Int32) (x7 : Int32) (x8 : Int32) (x9 : Int32) (x12 : Int32) (x13 : Int32) (x14 : Int32) (ls : Array Slot), va_P (dC, dI) vwC (mW ad cA σ) H → va_D (mA ad) (mW ad cA σ) → va_S (mA ad) s.heap H locs → lv_has ls 15 [(0, .ref (ad 0)), (1, .int (x1)), (2, .int (x2)), (3, .int (x3)), (4, .int (x4)), (5, .int (x5)), (6, .int (x6)), (7, .int (x7)), (8, .int (x8)), (9, .int (x9)), (12, .int (x12)), (13, .int (x13)), (14, .int (x14))] → k257 σ x1 x2 x3 x4 x5 x6 x7 x8 x9 x12 x13 x14 = some r → W p l e rm_CM_member s m args below meth c H locs 0 0 Q (F0 m 257 ls [])) :
    ∀ (σ : xSt) (H : Heap) (locs : List Loc) (x1 : Int32) (x2 : Int32) (x3 : Int32) (x4 : Int32) (x5 : Int32) (x6 : Int32) (x7 : Int32) (x8 : Int32) (x9 : Int32) (x12 : Int32) (x14 : Int32) (s0 : Int32) (ls : Array Slot), va_P (dC, dI) vwC (mW ad cA σ) H → va_D (mA ad) (mW ad cA σ) → va_S (mA ad) s.heap H locs → lv_has ls 15 [(0, .ref (ad 0)), (1, .int (x1)), (2, .int (x2)), (3, .int (x3)), (4, .int (x4)), (5, .int (x5)), (6, .int (x6)), (7, .int (x7)), (8, .int (x8)), (9, .int (x9)), (12, .int (x12)), (14, .int (x14))] → fCM_member_b302 k204 k257 σ x1 x2 x3 x4 x5 x6 x7 x8 x9 x12 x14 s0 = some r → W p l e rm_CM_member s m args below meth c H locs 0 0 Q (F0 m 302 ls [.int (s0)]) := by
  obtain ⟨hx, hb, hml, hown, hts⟩ := id C
  intro σ H locs x1 x2 x3 x4 x5 x6 x7 x8 x9 x12 x14 s0 ls hP hD hS hl h
  unfold fCM_member_b302 at h
  refine lv_istore (lv' := [(13, .int (s0)), (0, .ref (ad 0)), (1, .int (x1)), (2, .int (x2)), (3, .int (x3)), (4, .int (x4)), (5, .int (x5)), (6, .int (x6)), (7, .int (x7)), (8, .int (x8)), (9, .int (x9)), (12, .int (x12)), (14, .int (x14))]) hx hb dCM_member_302 hl (by decide) rfl (fun ls hl => ?_)
  refine lv_iinc (v := x14 + (1 : Int32)) (lv' := [(14, .int (x14 + (1 : Int32))), (13, .int (s0)), (0, .ref (ad 0)), (1, .int (x1)), (2, .int (x2)), (3, .int (x3)), (4, .int (x4)), (5, .int (x5)), (6, .int (x6)), (7, .int (x7)), (8, .int (x8)), (9, .int (x9)), (12, .int (x12))]) hx hb dCM_member_304 hl (k := 12) rfl rfl (by decide) rfl (fun ls hl => ?_)
  refine lv_goto (tgt := 257) hx hb dCM_member_307 (by decide) ?_
  exact hk257 _ _ _ _ _ _ _ _ _ _ _ _ _ _ _ _ hP hD hS (lv_sub hl [2, 3, 4, 5, 6, 7, 8, 9, 10, 11, 12, 1, 0] rfl) h
def fCM_member_b257 (k204 : xSt → Int32 → Int32 → Int32 → Int32 → Int32 → Int32 → Int32 → Int32 → Int32 → Int32 → Option (Int32 × xSt)) : Nat → xSt → Int32 → Int32 → Int32 → Int32 → Int32 → Int32 → Int32 → Int32 → Int32 → Int32 → Int32 → Int32 → Option (Int32 × xSt)
  | 0, _, _, _, _, _, _, _, _, _, _, _, _, _ => none
  | n + 1, σ, x1, x2, x3, x4, x5, x6, x7, x8, x9, x12, x13, x14 =>
    if x5 ≤ x14 then
      fCM_member_b310 k204 σ x1 x2 x3 x4 x5 x6 x7 x8 x9 x12 x13
    else
      if x13 = 0 then
        fCM_member_b310 k204 σ x1 x2 x3 x4 x5 x6 x7 x8 x9 x12 x13
      else
        if (((4 : Int32) * x12) + x14) < 0 ∨ 240 ≤ (((4 : Int32) * x12) + x14).toNatClampNeg then none else
        (fCM_parameter σ x14 x6 x7 x8 x9).bind fun v22 =>
        if (σ.1 11 (((4 : Int32) * x12) + x14).toNatClampNeg) = v22 then
          fCM_member_b302 k204 (fCM_member_b257 k204 n) σ x1 x2 x3 x4 x5 x6 x7 x8 x9 x12 x14 (1 : Int32)
        else
          fCM_member_b302 k204 (fCM_member_b257 k204 n) σ x1 x2 x3 x4 x5 x6 x7 x8 x9 x12 x14 (0 : Int32)
set_option maxHeartbeats 4000000 in
set_option maxRecDepth 100000 in
theorem wCM_member_b257 {p : Program} {l : Launch} {e : Env} {s : State} {m : MethodId} {args : Array Value} {below : List Frame} {meth : Method} {c : Code} {Q : State → Prop} {dC : Nat → ClassId} {dI : Nat → Nat → Nat} {ad : Nat → Nat} {cA : Nat → ClassId} {r : (Int32 × xSt)} (C : CallFix p m c cCM_member 15 s args wAll RCM) (hK : va_K (dC, dI) vwC (mT cA) s) (hend : ∀ (v : Int32) (σ : xSt) (H : Heap) (locs : List Loc) (pc : Nat) (ls : Array Slot), (v, σ) = r → va_P (dC, dI) vwC (mW ad cA σ) H → va_S (mA ad) s.heap H locs → decode cCM_member pc = .ok (.ireturn, 1) → W p l e rm_CM_member s m args below meth c H locs 0 0 Q (F0 m pc ls [.int v])) {k204 : xSt → Int32 → Int32 → Int32 → Int32 → Int32 → Int32 → Int32 → Int32 → Int32 → Int32 → Option (Int32 × xSt)} (hk204 : ∀ (σ : xSt) (H : Heap) (locs : List Loc) (x1 : Int32) (x2 : Int32) (x3 : Int32) (x4 : Int32) (x5 : Int32) (x6 : Int32) (x7 : Int32) (x8 : Int32) (x9 : Int32) (x12 : Int32) (ls : Array Slot), va_P (dC, dI) vwC (mW ad cA σ) H → va_D (mA ad) (mW ad cA σ) → va_S (mA ad) s.heap H locs → lv_has ls 15 [(0, .ref (ad 0)), (1, .int (x1)), (2, .int (x2)), (3, .int (x3)), (4, .int (x4)), (5, .int (x5)), (6, .int (x6)), (7, .int (x7)), (8, .int (x8)), (9, .int (x9)), (12, .int (x12))] → k204 σ x1 x2 x3 x4 x5 x6 x7 x8 x9 x12 = some r → W p l e rm_CM_member s m args below meth c H locs 0 0 Q (F0 m 204 ls [])) :
    ∀ (n : Nat) (σ : xSt) (H : Heap) (locs : List Loc) (x1 : Int32) (x2 : Int32) (x3 : Int32) (x4 : Int32) (x5 : Int32) (x6 : Int32) (x7 : Int32) (x8 : Int32) (x9 : Int32) (x12 : Int32) (x13 : Int32) (x14 : Int32) (ls : Array Slot), va_P (dC, dI) vwC (mW ad cA σ) H → va_D (mA ad) (mW ad cA σ) → va_S (mA ad) s.heap H locs → lv_has ls 15 [(0, .ref (ad 0)), (1, .int (x1)), (2, .int (x2)), (3, .int (x3)), (4, .int (x4)), (5, .int (x5)), (6, .int (x6)), (7, .int (x7)), (8, .int (x8)), (9, .int (x9)), (12, .int (x12)), (13, .int (x13)), (14, .int (x14))] → fCM_member_b257 k204 n σ x1 x2 x3 x4 x5 x6 x7 x8 x9 x12 x13 x14 = some r → W p l e rm_CM_member s m args below meth c H locs 0 0 Q (F0 m 257 ls []) := by
  obtain ⟨hx, hb, hml, hown, hts⟩ := id C
  intro n
  induction n with
  | zero =>
    intro σ H locs x1 x2 x3 x4 x5 x6 x7 x8 x9 x12 x13 x14 ls hP hD hS hl h
    rw [fCM_member_b257] at h
    cases h
  | succ n ih =>
    intro σ H locs x1 x2 x3 x4 x5 x6 x7 x8 x9 x12 x13 x14 ls hP hD hS hl h
    rw [fCM_member_b257] at h
    refine lv_iload hx hb dCM_member_257 (lv_at hl 12 rfl) ?_
    refine lv_iload hx hb dCM_member_259 (lv_at hl 5 rfl) ?_
    refine lv_icmp_ge (tgt := 310) hx hb dCM_member_261 (by decide) (fun c25 => ?_) (fun c25 => ?_)
    · have h := (if_pos c25).symm.trans h
      exact wCM_member_b310 C hK hend hk204 _ _ _ _ _ _ _ _ _ _ _ _ _ _ _ hP hD hS (lv_sub hl [0, 1, 2, 3, 4, 5, 6, 7, 8, 9, 10, 11] rfl) h
    · have h := (if_neg c25).symm.trans h
      refine lv_iload hx hb dCM_member_264 (lv_at hl 11 rfl) ?_
      refine lv_if_eq (tgt := 310) hx hb dCM_member_266 (by decide) (fun c24 => ?_) (fun c24 => ?_)
      · have h := (if_pos c24).symm.trans h
        exact wCM_member_b310 C hK hend hk204 _ _ _ _ _ _ _ _ _ _ _ _ _ _ _ hP hD hS (lv_sub hl [0, 1, 2, 3, 4, 5, 6, 7, 8, 9, 10, 11] rfl) h
      · have h := (if_neg c24).symm.trans h
        refine lv_aload_n hx hb dCM_member_269 rfl (lv_at hl 0 rfl) ?_
        refine va_get (D := (dC, dI)) (ci := 5) (v := .ref (ad 11)) (C := RCM) (T := TCM) (N := 23) hx hb hts inCM hown hK hP 0 rfl rfl 12 (by decide) (hts _ mw_407) (fun _ h9 => h9) rfl dCM_member_270 ?_
        refine lv_iconst (v := (4 : Int32)) hx hb dCM_member_273 (by decide) ?_
        refine lv_iload hx hb dCM_member_274 (lv_at hl 10 rfl) ?_
        refine lv_imul hx hb dCM_member_276 ?_
        refine lv_iload hx hb dCM_member_277 (lv_at hl 12 rfl) ?_
        refine lv_iadd hx hb dCM_member_279 ?_
        obtain ⟨b21, h⟩ := gx_nb h
        refine va_iald hx hb hK hP 11 10 rfl rfl b21 dCM_member_280 ?_
        refine lv_iload hx hb dCM_member_281 (lv_at hl 12 rfl) ?_
        refine lv_iload hx hb dCM_member_283 (lv_at hl 6 rfl) ?_
        refine lv_iload hx hb dCM_member_285 (lv_at hl 7 rfl) ?_
        refine lv_iload hx hb dCM_member_287 (lv_at hl 8 rfl) ?_
        refine lv_iload hx hb dCM_member_289 (lv_at hl 9 rfl) ?_
        obtain ⟨v22, ev22, h⟩ := Option.bind_eq_some_iff.mp h
        refine gcall_s (As := [.int (x14), .int (x6), .int (x7), .int (x8), .int (x9)]) (rest := [.int (σ.1 11 (((4 : Int32) * x12) + x14).toNatClampNeg)]) C hK hP (kCM_parameter l dC dI ad cA σ x14 x6 x7 x8 x9 v22 ev22) (va_cwS 5 hts (gws mw_408 mw_409 mw_363 mw_410) rfl rfl rfl hdCM_parameter ⟨Nat.le_of_ble_eq_true rfl, Nat.le_of_ble_eq_true rfl⟩) rfl hl.1 rfl (Nat.le_of_ble_eq_true rfl) dCM_member_291 ⟨Nat.le_refl _, Nat.le_refl _⟩ ?_
        refine lv_icmp_ne (tgt := 301) hx hb dCM_member_294 (by decide) (fun c23 => ?_) (fun c23 => ?_)
        · have h := (if_neg c23).symm.trans h
          refine lv_iconst (v := (0 : Int32)) hx hb dCM_member_301 (by decide) ?_
          exact wCM_member_b302 C hK hend hk204 ih _ _ _ _ _ _ _ _ _ _ _ _ _ _ _ _ hP hD hS (lv_sub hl [0, 1, 2, 3, 4, 5, 6, 7, 8, 9, 10, 12] rfl) h
        · have h := (if_pos c23).symm.trans h
          refine lv_iconst (v := (1 : Int32)) hx hb dCM_member_297 (by decide) ?_
          refine lv_goto (tgt := 302) hx hb dCM_member_298 (by decide) ?_
          exact wCM_member_b302 C hK hend hk204 ih _ _ _ _ _ _ _ _ _ _ _ _ _ _ _ _ hP hD hS (lv_sub hl [0, 1, 2, 3, 4, 5, 6, 7, 8, 9, 10, 12] rfl) h
def fCM_member_b252 (k204 : xSt → Int32 → Int32 → Int32 → Int32 → Int32 → Int32 → Int32 → Int32 → Int32 → Int32 → Option (Int32 × xSt)) (σ : xSt) (x1 : Int32) (x2 : Int32) (x3 : Int32) (x4 : Int32) (x5 : Int32) (x6 : Int32) (x7 : Int32) (x8 : Int32) (x9 : Int32) (x12 : Int32) (s0 : Int32) : Option (Int32 × xSt) :=
  fCM_member_b257 k204 gF σ x1 x2 x3 x4 x5 x6 x7 x8 x9 x12 s0 (0 : Int32)
set_option maxHeartbeats 4000000 in
set_option maxRecDepth 100000 in
theorem wCM_member_b252 {p : Program} {l : Launch} {e : Env} {s : State} {m : MethodId} {args : Array Value} {below : List Frame} {meth : Method} {c : Code} {Q : State → Prop} {dC : Nat → ClassId} {dI : Nat → Nat → Nat} {ad : Nat → Nat} {cA : Nat → ClassId} {r : (Int32 × xSt)} (C : CallFix p m c cCM_member 15 s args wAll RCM) (hK : va_K (dC, dI) vwC (mT cA) s) (hend : ∀ (v : Int32) (σ : xSt) (H : Heap) (locs : List Loc) (pc : Nat) (ls : Array Slot), (v, σ) = r → va_P (dC, dI) vwC (mW ad cA σ) H → va_S (mA ad) s.heap H locs → decode cCM_member pc = .ok (.ireturn, 1) → W p l e rm_CM_member s m args below meth c H locs 0 0 Q (F0 m pc ls [.int v])) {k204 : xSt → Int32 → Int32 → Int32 → Int32 → Int32 → Int32 → Int32 → Int32 → Int32 → Int32 → Option (Int32 × xSt)} (hk204 : ∀ (σ : xSt) (H : Heap) (locs : List Loc) (x1 : Int32) (x2 : Int32) (x3 : Int32) (x4 : Int32) (x5 : Int32) (x6 : Int32) (x7 : Int32) (x8 : Int32) (x9 : Int32) (x12 : Int32) (ls : Array Slot), va_P (dC, dI) vwC (mW ad cA σ) H → va_D (mA ad) (mW ad cA σ) → va_S (mA ad) s.heap H locs → lv_has ls 15 [(0, .ref (ad 0)), (1, .int (x1)), (2, .int (x2)), (3, .int (x3)), (4, .int (x4)), (5, .int (x5)), (6, .int (x6)), (7, .int (x7)), (8, .int (x8)), (9, .int (x9)), (12, .int (x12))] → k204 σ x1 x2 x3 x4 x5 x6 x7 x8 x9 x12 = some r → W p l e rm_CM_member s m args below meth c H locs 0 0 Q (F0 m 204 ls [])) :
    ∀ (σ : xSt) (H : Heap) (locs : List Loc) (x1 : Int32) (x2 : Int32) (x3 : Int32) (x4 : Int32) (x5 : Int32) (x6 : Int32) (x7 : Int32) (x8 : Int32) (x9 : Int32) (x12 : Int32) (s0 : Int32) (ls : Array Slot), va_P (dC, dI) vwC (mW ad cA σ) H → va_D (mA ad) (mW ad cA σ) → va_S (mA ad) s.heap H locs → lv_has ls 15 [(0, .ref (ad 0)), (1, .int (x1)), (2, .int (x2)), (3, .int (x3)), (4, .int (x4)), (5, .int (x5)), (6, .int (x6)), (7, .int (x7)), (8, .int (x8)), (9, .int (x9)), (12, .int (x12))] → fCM_member_b252 k204 σ x1 x2 x3 x4 x5 x6 x7 x8 x9 x12 s0 = some r → W p l e rm_CM_member s m args below meth c H locs 0 0 Q (F0 m 252 ls [.int (s0)]) := by
  obtain ⟨hx, hb, hml, hown, hts⟩ := id C
  intro σ H locs x1 x2 x3 x4 x5 x6 x7 x8 x9 x12 s0 ls hP hD hS hl h
  unfold fCM_member_b252 at h
  refine lv_istore (lv' := [(13, .int (s0)), (0, .ref (ad 0)), (1, .int (x1)), (2, .int (x2)), (3, .int (x3)), (4, .int (x4)), (5, .int (x5)), (6, .int (x6)), (7, .int (x7)), (8, .int (x8)), (9, .int (x9)), (12, .int (x12))]) hx hb dCM_member_252 hl (by decide) rfl (fun ls hl => ?_)
  refine lv_iconst (v := (0 : Int32)) hx hb dCM_member_254 (by decide) ?_
  refine lv_istore (lv' := [(14, .int ((0 : Int32))), (13, .int (s0)), (0, .ref (ad 0)), (1, .int (x1)), (2, .int (x2)), (3, .int (x3)), (4, .int (x4)), (5, .int (x5)), (6, .int (x6)), (7, .int (x7)), (8, .int (x8)), (9, .int (x9)), (12, .int (x12))]) hx hb dCM_member_255 hl (by decide) rfl (fun ls hl => ?_)
  exact wCM_member_b257 C hK hend hk204 _ _ _ _ _ _ _ _ _ _ _ _ _ _ _ _ _ hP hD hS (lv_sub hl [2, 3, 4, 5, 6, 7, 8, 9, 10, 11, 12, 1, 0] rfl) h
def fCM_member_b251 (k204 : xSt → Int32 → Int32 → Int32 → Int32 → Int32 → Int32 → Int32 → Int32 → Int32 → Int32 → Option (Int32 × xSt)) (σ : xSt) (x1 : Int32) (x2 : Int32) (x3 : Int32) (x4 : Int32) (x5 : Int32) (x6 : Int32) (x7 : Int32) (x8 : Int32) (x9 : Int32) (x12 : Int32) : Option (Int32 × xSt) :=
  fCM_member_b252 k204 σ x1 x2 x3 x4 x5 x6 x7 x8 x9 x12 (0 : Int32)
set_option maxHeartbeats 4000000 in
set_option maxRecDepth 100000 in
theorem wCM_member_b251 {p : Program} {l : Launch} {e : Env} {s : State} {m : MethodId} {args : Array Value} {below : List Frame} {meth : Method} {c : Code} {Q : State → Prop} {dC : Nat → ClassId} {dI : Nat → Nat → Nat} {ad : Nat → Nat} {cA : Nat → ClassId} {r : (Int32 × xSt)} (C : CallFix p m c cCM_member 15 s args wAll RCM) (hK : va_K (dC, dI) vwC (mT cA) s) (hend : ∀ (v : Int32) (σ : xSt) (H : Heap) (locs : List Loc) (pc : Nat) (ls : Array Slot), (v, σ) = r → va_P (dC, dI) vwC (mW ad cA σ) H → va_S (mA ad) s.heap H locs → decode cCM_member pc = .ok (.ireturn, 1) → W p l e rm_CM_member s m args below meth c H locs 0 0 Q (F0 m pc ls [.int v])) {k204 : xSt → Int32 → Int32 → Int32 → Int32 → Int32 → Int32 → Int32 → Int32 → Int32 → Int32 → Option (Int32 × xSt)} (hk204 : ∀ (σ : xSt) (H : Heap) (locs : List Loc) (x1 : Int32) (x2 : Int32) (x3 : Int32) (x4 : Int32) (x5 : Int32) (x6 : Int32) (x7 : Int32) (x8 : Int32) (x9 : Int32) (x12 : Int32) (ls : Array Slot), va_P (dC, dI) vwC (mW ad cA σ) H → va_D (mA ad) (mW ad cA σ) → va_S (mA ad) s.heap H locs → lv_has ls 15 [(0, .ref (ad 0)), (1, .int (x1)), (2, .int (x2)), (3, .int (x3)), (4, .int (x4)), (5, .int (x5)), (6, .int (x6)), (7, .int (x7)), (8, .int (x8)), (9, .int (x9)), (12, .int (x12))] → k204 σ x1 x2 x3 x4 x5 x6 x7 x8 x9 x12 = some r → W p l e rm_CM_member s m args below meth c H locs 0 0 Q (F0 m 204 ls [])) :
    ∀ (σ : xSt) (H : Heap) (locs : List Loc) (x1 : Int32) (x2 : Int32) (x3 : Int32) (x4 : Int32) (x5 : Int32) (x6 : Int32) (x7 : Int32) (x8 : Int32) (x9 : Int32) (x12 : Int32) (ls : Array Slot), va_P (dC, dI) vwC (mW ad cA σ) H → va_D (mA ad) (mW ad cA σ) → va_S (mA ad) s.heap H locs → lv_has ls 15 [(0, .ref (ad 0)), (1, .int (x1)), (2, .int (x2)), (3, .int (x3)), (4, .int (x4)), (5, .int (x5)), (6, .int (x6)), (7, .int (x7)), (8, .int (x8)), (9, .int (x9)), (12, .int (x12))] → fCM_member_b251 k204 σ x1 x2 x3 x4 x5 x6 x7 x8 x9 x12 = some r → W p l e rm_CM_member s m args below meth c H locs 0 0 Q (F0 m 251 ls []) := by
  obtain ⟨hx, hb, hml, hown, hts⟩ := id C
  intro σ H locs x1 x2 x3 x4 x5 x6 x7 x8 x9 x12 ls hP hD hS hl h
  unfold fCM_member_b251 at h
  refine lv_iconst (v := (0 : Int32)) hx hb dCM_member_251 (by decide) ?_
  exact wCM_member_b252 C hK hend hk204 _ _ _ _ _ _ _ _ _ _ _ _ _ _ _ hP hD hS (lv_sub hl [0, 1, 2, 3, 4, 5, 6, 7, 8, 9, 10] rfl) h
def fCM_member_b204 : Nat → xSt → Int32 → Int32 → Int32 → Int32 → Int32 → Int32 → Int32 → Int32 → Int32 → Int32 → Option (Int32 × xSt)
  | 0, _, _, _, _, _, _, _, _, _, _, _ => none
  | n + 1, σ, x1, x2, x3, x4, x5, x6, x7, x8, x9, x12 =>
    if (σ.1 0 6) ≤ x12 then
      if (σ.1 0 6) < 0 ∨ 60 ≤ (σ.1 0 6).toNatClampNeg then none else
      nm (sI σ 6 (σ.1 0 6).toNatClampNeg x1) fun σ3 =>
      if (σ3.1 0 6) < 0 ∨ 60 ≤ (σ3.1 0 6).toNatClampNeg then none else
      nm (sI σ3 7 (σ3.1 0 6).toNatClampNeg x2) fun σ5 =>
      if (σ5.1 0 6) < 0 ∨ 60 ≤ (σ5.1 0 6).toNatClampNeg then none else
      nm (sI σ5 8 (σ5.1 0 6).toNatClampNeg x3) fun σ7 =>
      if (σ7.1 0 6) < 0 ∨ 60 ≤ (σ7.1 0 6).toNatClampNeg then none else
      nm (sI σ7 9 (σ7.1 0 6).toNatClampNeg x4) fun σ9 =>
      if (σ9.1 0 6) < 0 ∨ 60 ≤ (σ9.1 0 6).toNatClampNeg then none else
      nm (sI σ9 10 (σ9.1 0 6).toNatClampNeg x5) fun σ11 =>
      fCM_member_b379 gF σ11 x5 x6 x7 x8 x9 (0 : Int32)
    else
      if x12 < 0 ∨ 60 ≤ x12.toNatClampNeg then none else
      if (σ.1 6 x12.toNatClampNeg) = x1 then
        if x12 < 0 ∨ 60 ≤ x12.toNatClampNeg then none else
        if (σ.1 7 x12.toNatClampNeg) = x2 then
          if x12 < 0 ∨ 60 ≤ x12.toNatClampNeg then none else
          if (σ.1 10 x12.toNatClampNeg) = x5 then
            fCM_member_b252 (fCM_member_b204 n) σ x1 x2 x3 x4 x5 x6 x7 x8 x9 x12 (1 : Int32)
          else
            fCM_member_b251 (fCM_member_b204 n) σ x1 x2 x3 x4 x5 x6 x7 x8 x9 x12
        else
          fCM_member_b251 (fCM_member_b204 n) σ x1 x2 x3 x4 x5 x6 x7 x8 x9 x12
      else
        fCM_member_b251 (fCM_member_b204 n) σ x1 x2 x3 x4 x5 x6 x7 x8 x9 x12
set_option maxHeartbeats 4000000 in
set_option maxRecDepth 100000 in
theorem wCM_member_b204 {p : Program} {l : Launch} {e : Env} {s : State} {m : MethodId} {args : Array Value} {below : List Frame} {meth : Method} {c : Code} {Q : State → Prop} {dC : Nat → ClassId} {dI : Nat → Nat → Nat} {ad : Nat → Nat} {cA : Nat → ClassId} {r : (Int32 × xSt)} (C : CallFix p m c cCM_member 15 s args wAll RCM) (hK : va_K (dC, dI) vwC (mT cA) s) (hend : ∀ (v : Int32) (σ : xSt) (H : Heap) (locs : List Loc) (pc : Nat) (ls : Array Slot), (v, σ) = r → va_P (dC, dI) vwC (mW ad cA σ) H → va_S (mA ad) s.heap H locs → decode cCM_member pc = .ok (.ireturn, 1) → W p l e rm_CM_member s m args below meth c H locs 0 0 Q (F0 m pc ls [.int v])) :
    ∀ (n : Nat) (σ : xSt) (H : Heap) (locs : List Loc) (x1 : Int32) (x2 : Int32) (x3 : Int32) (x4 : Int32) (x5 : Int32) (x6 : Int32) (x7 : Int32) (x8 : Int32) (x9 : Int32) (x12 : Int32) (ls : Array Slot), va_P (dC, dI) vwC (mW ad cA σ) H → va_D (mA ad) (mW ad cA σ) → va_S (mA ad) s.heap H locs → lv_has ls 15 [(0, .ref (ad 0)), (1, .int (x1)), (2, .int (x2)), (3, .int (x3)), (4, .int (x4)), (5, .int (x5)), (6, .int (x6)), (7, .int (x7)), (8, .int (x8)), (9, .int (x9)), (12, .int (x12))] → fCM_member_b204 n σ x1 x2 x3 x4 x5 x6 x7 x8 x9 x12 = some r → W p l e rm_CM_member s m args below meth c H locs 0 0 Q (F0 m 204 ls []) := by
  obtain ⟨hx, hb, hml, hown, hts⟩ := id C
  intro n
  induction n with
  | zero =>
    intro σ H locs x1 x2 x3 x4 x5 x6 x7 x8 x9 x12 ls hP hD hS hl h
    rw [fCM_member_b204] at h
    cases h
  | succ n ih =>
    intro σ H locs x1 x2 x3 x4 x5 x6 x7 x8 x9 x12 ls hP hD hS hl h
    rw [fCM_member_b204] at h
    refine lv_iload hx hb dCM_member_204 (lv_at hl 10 rfl) ?_
    refine lv_aload_n hx hb dCM_member_206 rfl (lv_at hl 0 rfl) ?_
    refine va_get (D := (dC, dI)) (ci := 5) (v := .int (σ.1 0 6)) (C := RCM) (T := TCM) (N := 23) hx hb hts inCM hown hK hP 0 rfl rfl 6 (by decide) (hts _ mw_401) (fun _ h9 => h9) rfl dCM_member_207 ?_
    refine lv_icmp_ge (tgt := 324) hx hb dCM_member_210 (by decide) (fun c31 => ?_) (fun c31 => ?_)
    · have h := (if_pos c31).symm.trans h
      refine lv_aload_n hx hb dCM_member_324 rfl (lv_at hl 0 rfl) ?_
      refine va_get (D := (dC, dI)) (ci := 5) (v := .ref (ad 6)) (C := RCM) (T := TCM) (N := 23) hx hb hts inCM hown hK hP 0 rfl rfl 7 (by decide) (hts _ mw_402) (fun _ h9 => h9) rfl dCM_member_325 ?_
      refine lv_aload_n hx hb dCM_member_328 rfl (lv_at hl 0 rfl) ?_
      refine va_get (D := (dC, dI)) (ci := 5) (v := .int (σ.1 0 6)) (C := RCM) (T := TCM) (N := 23) hx hb hts inCM hown hK hP 0 rfl rfl 6 (by decide) (hts _ mw_401) (fun _ h9 => h9) rfl dCM_member_329 ?_
      refine lv_iload_n hx hb dCM_member_332 rfl (lv_at hl 1 rfl) ?_
      obtain ⟨b2, h⟩ := gx_nb h
      refine va_iast hx hb hK hP hD hS 6 5 rfl rfl b2 dCM_member_333 (fun H locs hP hD hS => ?_)
      obtain ⟨σ3, eσ3⟩ : ∃ z, z = sI σ 6 (σ.1 0 6).toNatClampNeg x1 := ⟨_, rfl⟩
      have hP : va_P (dC, dI) vwC (mW ad cA σ3) H := by rw [eσ3]; exact hP
      have hD : va_D (mA ad) (mW ad cA σ3) := by rw [eσ3]; exact hD
      have h := nm_at eσ3 h
      refine lv_aload_n hx hb dCM_member_334 rfl (lv_at hl 0 rfl) ?_
      refine va_get (D := (dC, dI)) (ci := 5) (v := .ref (ad 7)) (C := RCM) (T := TCM) (N := 23) hx hb hts inCM hown hK hP 0 rfl rfl 8 (by decide) (hts _ mw_403) (fun _ h9 => h9) rfl dCM_member_335 ?_
      refine lv_aload_n hx hb dCM_member_338 rfl (lv_at hl 0 rfl) ?_
      refine va_get (D := (dC, dI)) (ci := 5) (v := .int (σ3.1 0 6)) (C := RCM) (T := TCM) (N := 23) hx hb hts inCM hown hK hP 0 rfl rfl 6 (by decide) (hts _ mw_401) (fun _ h9 => h9) rfl dCM_member_339 ?_
      refine lv_iload_n hx hb dCM_member_342 rfl (lv_at hl 2 rfl) ?_
      obtain ⟨b4, h⟩ := gx_nb h
      refine va_iast hx hb hK hP hD hS 7 6 rfl rfl b4 dCM_member_343 (fun H locs hP hD hS => ?_)
      obtain ⟨σ5, eσ5⟩ : ∃ z, z = sI σ3 7 (σ3.1 0 6).toNatClampNeg x2 := ⟨_, rfl⟩
      have hP : va_P (dC, dI) vwC (mW ad cA σ5) H := by rw [eσ5]; exact hP
      have hD : va_D (mA ad) (mW ad cA σ5) := by rw [eσ5]; exact hD
      have h := nm_at eσ5 h
      refine lv_aload_n hx hb dCM_member_344 rfl (lv_at hl 0 rfl) ?_
      refine va_get (D := (dC, dI)) (ci := 5) (v := .ref (ad 8)) (C := RCM) (T := TCM) (N := 23) hx hb hts inCM hown hK hP 0 rfl rfl 9 (by decide) (hts _ mw_404) (fun _ h9 => h9) rfl dCM_member_345 ?_
      refine lv_aload_n hx hb dCM_member_348 rfl (lv_at hl 0 rfl) ?_
      refine va_get (D := (dC, dI)) (ci := 5) (v := .int (σ5.1 0 6)) (C := RCM) (T := TCM) (N := 23) hx hb hts inCM hown hK hP 0 rfl rfl 6 (by decide) (hts _ mw_401) (fun _ h9 => h9) rfl dCM_member_349 ?_
      refine lv_iload_n hx hb dCM_member_352 rfl (lv_at hl 3 rfl) ?_
      obtain ⟨b6, h⟩ := gx_nb h
      refine va_iast hx hb hK hP hD hS 8 7 rfl rfl b6 dCM_member_353 (fun H locs hP hD hS => ?_)
      obtain ⟨σ7, eσ7⟩ : ∃ z, z = sI σ5 8 (σ5.1 0 6).toNatClampNeg x3 := ⟨_, rfl⟩
      have hP : va_P (dC, dI) vwC (mW ad cA σ7) H := by rw [eσ7]; exact hP
      have hD : va_D (mA ad) (mW ad cA σ7) := by rw [eσ7]; exact hD
      have h := nm_at eσ7 h
      refine lv_aload_n hx hb dCM_member_354 rfl (lv_at hl 0 rfl) ?_
      refine va_get (D := (dC, dI)) (ci := 5) (v := .ref (ad 9)) (C := RCM) (T := TCM) (N := 23) hx hb hts inCM hown hK hP 0 rfl rfl 10 (by decide) (hts _ mw_405) (fun _ h9 => h9) rfl dCM_member_355 ?_
      refine lv_aload_n hx hb dCM_member_358 rfl (lv_at hl 0 rfl) ?_
      refine va_get (D := (dC, dI)) (ci := 5) (v := .int (σ7.1 0 6)) (C := RCM) (T := TCM) (N := 23) hx hb hts inCM hown hK hP 0 rfl rfl 6 (by decide) (hts _ mw_401) (fun _ h9 => h9) rfl dCM_member_359 ?_
      refine lv_iload hx hb dCM_member_362 (lv_at hl 4 rfl) ?_
      obtain ⟨b8, h⟩ := gx_nb h
      refine va_iast hx hb hK hP hD hS 9 8 rfl rfl b8 dCM_member_364 (fun H locs hP hD hS => ?_)
      obtain ⟨σ9, eσ9⟩ : ∃ z, z = sI σ7 9 (σ7.1 0 6).toNatClampNeg x4 := ⟨_, rfl⟩
      have hP : va_P (dC, dI) vwC (mW ad cA σ9) H := by rw [eσ9]; exact hP
      have hD : va_D (mA ad) (mW ad cA σ9) := by rw [eσ9]; exact hD
      have h := nm_at eσ9 h
      refine lv_aload_n hx hb dCM_member_365 rfl (lv_at hl 0 rfl) ?_
      refine va_get (D := (dC, dI)) (ci := 5) (v := .ref (ad 10)) (C := RCM) (T := TCM) (N := 23) hx hb hts inCM hown hK hP 0 rfl rfl 11 (by decide) (hts _ mw_406) (fun _ h9 => h9) rfl dCM_member_366 ?_
      refine lv_aload_n hx hb dCM_member_369 rfl (lv_at hl 0 rfl) ?_
      refine va_get (D := (dC, dI)) (ci := 5) (v := .int (σ9.1 0 6)) (C := RCM) (T := TCM) (N := 23) hx hb hts inCM hown hK hP 0 rfl rfl 6 (by decide) (hts _ mw_401) (fun _ h9 => h9) rfl dCM_member_370 ?_
      refine lv_iload hx hb dCM_member_373 (lv_at hl 5 rfl) ?_
      obtain ⟨b10, h⟩ := gx_nb h
      refine va_iast hx hb hK hP hD hS 10 9 rfl rfl b10 dCM_member_375 (fun H locs hP hD hS => ?_)
      obtain ⟨σ11, eσ11⟩ : ∃ z, z = sI σ9 10 (σ9.1 0 6).toNatClampNeg x5 := ⟨_, rfl⟩
      have hP : va_P (dC, dI) vwC (mW ad cA σ11) H := by rw [eσ11]; exact hP
      have hD : va_D (mA ad) (mW ad cA σ11) := by rw [eσ11]; exact hD
      have h := nm_at eσ11 h
      refine lv_iconst (v := (0 : Int32)) hx hb dCM_member_376 (by decide) ?_
      refine lv_istore (lv' := [(12, .int ((0 : Int32))), (0, .ref (ad 0)), (1, .int (x1)), (2, .int (x2)), (3, .int (x3)), (4, .int (x4)), (5, .int (x5)), (6, .int (x6)), (7, .int (x7)), (8, .int (x8)), (9, .int (x9))]) hx hb dCM_member_377 hl (by decide) rfl (fun ls hl => ?_)
      exact wCM_member_b379 C hK hend _ _ _ _ _ _ _ _ _ _ _ hP hD hS (lv_sub hl [1, 6, 7, 8, 9, 10, 0] rfl) h
    · have h := (if_neg c31).symm.trans h
      refine lv_aload_n hx hb dCM_member_213 rfl (lv_at hl 0 rfl) ?_
      refine va_get (D := (dC, dI)) (ci := 5) (v := .ref (ad 6)) (C := RCM) (T := TCM) (N := 23) hx hb hts inCM hown hK hP 0 rfl rfl 7 (by decide) (hts _ mw_402) (fun _ h9 => h9) rfl dCM_member_214 ?_
      refine lv_iload hx hb dCM_member_217 (lv_at hl 10 rfl) ?_
      obtain ⟨b19, h⟩ := gx_nb h
      refine va_iald hx hb hK hP 6 5 rfl rfl b19 dCM_member_219 ?_
      refine lv_iload_n hx hb dCM_member_220 rfl (lv_at hl 1 rfl) ?_
      refine lv_icmp_ne (tgt := 251) hx hb dCM_member_221 (by decide) (fun c30 => ?_) (fun c30 => ?_)
      · have h := (if_neg c30).symm.trans h
        exact wCM_member_b251 C hK hend ih _ _ _ _ _ _ _ _ _ _ _ _ _ _ hP hD hS (lv_sub hl [0, 1, 2, 3, 4, 5, 6, 7, 8, 9, 10] rfl) h
      · have h := (if_pos c30).symm.trans h
        refine lv_aload_n hx hb dCM_member_224 rfl (lv_at hl 0 rfl) ?_
        refine va_get (D := (dC, dI)) (ci := 5) (v := .ref (ad 7)) (C := RCM) (T := TCM) (N := 23) hx hb hts inCM hown hK hP 0 rfl rfl 8 (by decide) (hts _ mw_403) (fun _ h9 => h9) rfl dCM_member_225 ?_
        refine lv_iload hx hb dCM_member_228 (lv_at hl 10 rfl) ?_
        obtain ⟨b26, h⟩ := gx_nb h
        refine va_iald hx hb hK hP 7 6 rfl rfl b26 dCM_member_230 ?_
        refine lv_iload_n hx hb dCM_member_231 rfl (lv_at hl 2 rfl) ?_
        refine lv_icmp_ne (tgt := 251) hx hb dCM_member_232 (by decide) (fun c29 => ?_) (fun c29 => ?_)
        · have h := (if_neg c29).symm.trans h
          exact wCM_member_b251 C hK hend ih _ _ _ _ _ _ _ _ _ _ _ _ _ _ hP hD hS (lv_sub hl [0, 1, 2, 3, 4, 5, 6, 7, 8, 9, 10] rfl) h
        · have h := (if_pos c29).symm.trans h
          refine lv_aload_n hx hb dCM_member_235 rfl (lv_at hl 0 rfl) ?_
          refine va_get (D := (dC, dI)) (ci := 5) (v := .ref (ad 10)) (C := RCM) (T := TCM) (N := 23) hx hb hts inCM hown hK hP 0 rfl rfl 11 (by decide) (hts _ mw_406) (fun _ h9 => h9) rfl dCM_member_236 ?_
          refine lv_iload hx hb dCM_member_239 (lv_at hl 10 rfl) ?_
          obtain ⟨b27, h⟩ := gx_nb h
          refine va_iald hx hb hK hP 10 9 rfl rfl b27 dCM_member_241 ?_
          refine lv_iload hx hb dCM_member_242 (lv_at hl 5 rfl) ?_
          refine lv_icmp_ne (tgt := 251) hx hb dCM_member_244 (by decide) (fun c28 => ?_) (fun c28 => ?_)
          · have h := (if_neg c28).symm.trans h
            exact wCM_member_b251 C hK hend ih _ _ _ _ _ _ _ _ _ _ _ _ _ _ hP hD hS (lv_sub hl [0, 1, 2, 3, 4, 5, 6, 7, 8, 9, 10] rfl) h
          · have h := (if_pos c28).symm.trans h
            refine lv_iconst (v := (1 : Int32)) hx hb dCM_member_247 (by decide) ?_
            refine lv_goto (tgt := 252) hx hb dCM_member_248 (by decide) ?_
            exact wCM_member_b252 C hK hend ih _ _ _ _ _ _ _ _ _ _ _ _ _ _ _ hP hD hS (lv_sub hl [0, 1, 2, 3, 4, 5, 6, 7, 8, 9, 10] rfl) h
def fCM_member_b201 (σ : xSt) (x1 : Int32) (x2 : Int32) (x3 : Int32) (x4 : Int32) (x5 : Int32) (x6 : Int32) (x7 : Int32) (x8 : Int32) (x9 : Int32) : Option (Int32 × xSt) :=
  fCM_member_b204 gF σ x1 x2 x3 x4 x5 x6 x7 x8 x9 (0 : Int32)
set_option maxHeartbeats 4000000 in
set_option maxRecDepth 100000 in
theorem wCM_member_b201 {p : Program} {l : Launch} {e : Env} {s : State} {m : MethodId} {args : Array Value} {below : List Frame} {meth : Method} {c : Code} {Q : State → Prop} {dC : Nat → ClassId} {dI : Nat → Nat → Nat} {ad : Nat → Nat} {cA : Nat → ClassId} {r : (Int32 × xSt)} (C : CallFix p m c cCM_member 15 s args wAll RCM) (hK : va_K (dC, dI) vwC (mT cA) s) (hend : ∀ (v : Int32) (σ : xSt) (H : Heap) (locs : List Loc) (pc : Nat) (ls : Array Slot), (v, σ) = r → va_P (dC, dI) vwC (mW ad cA σ) H → va_S (mA ad) s.heap H locs → decode cCM_member pc = .ok (.ireturn, 1) → W p l e rm_CM_member s m args below meth c H locs 0 0 Q (F0 m pc ls [.int v])) :
    ∀ (σ : xSt) (H : Heap) (locs : List Loc) (x1 : Int32) (x2 : Int32) (x3 : Int32) (x4 : Int32) (x5 : Int32) (x6 : Int32) (x7 : Int32) (x8 : Int32) (x9 : Int32) (ls : Array Slot), va_P (dC, dI) vwC (mW ad cA σ) H → va_D (mA ad) (mW ad cA σ) → va_S (mA ad) s.heap H locs → lv_has ls 15 [(0, .ref (ad 0)), (1, .int (x1)), (2, .int (x2)), (3, .int (x3)), (4, .int (x4)), (5, .int (x5)), (6, .int (x6)), (7, .int (x7)), (8, .int (x8)), (9, .int (x9))] → fCM_member_b201 σ x1 x2 x3 x4 x5 x6 x7 x8 x9 = some r → W p l e rm_CM_member s m args below meth c H locs 0 0 Q (F0 m 201 ls []) := by
  obtain ⟨hx, hb, hml, hown, hts⟩ := id C
  intro σ H locs x1 x2 x3 x4 x5 x6 x7 x8 x9 ls hP hD hS hl h
  unfold fCM_member_b201 at h
  refine lv_iconst (v := (0 : Int32)) hx hb dCM_member_201 (by decide) ?_
  refine lv_istore (lv' := [(12, .int ((0 : Int32))), (0, .ref (ad 0)), (1, .int (x1)), (2, .int (x2)), (3, .int (x3)), (4, .int (x4)), (5, .int (x5)), (6, .int (x6)), (7, .int (x7)), (8, .int (x8)), (9, .int (x9))]) hx hb dCM_member_202 hl (by decide) rfl (fun ls hl => ?_)
  exact wCM_member_b204 C hK hend _ _ _ _ _ _ _ _ _ _ _ _ _ _ _ hP hD hS (lv_sub hl [1, 2, 3, 4, 5, 6, 7, 8, 9, 10, 0] rfl) h
def fCM_member_b166 (σ : xSt) (x1 : Int32) (x2 : Int32) (x3 : Int32) (x4 : Int32) (x5 : Int32) (x6 : Int32) (x7 : Int32) (x8 : Int32) (x9 : Int32) : Option (Int32 × xSt) :=
  if (x3 &&& (8 : Int32)) = 0 then
    fCM_member_b201 σ x1 x2 x3 x4 x5 x6 x7 x8 x9
  else
    if x5 = 0 then
      some ((-2 : Int32), σ)
    else
      (fCM_parameter σ (x5 - (1 : Int32)) x6 x7 x8 x9).bind fun v32 =>
      if (64 : Int32) ≤ v32 then
        fCM_member_b201 σ x1 x2 x3 x4 x5 x6 x7 x8 x9
      else
        some ((-2 : Int32), σ)
set_option maxHeartbeats 4000000 in
set_option maxRecDepth 100000 in
theorem wCM_member_b166 {p : Program} {l : Launch} {e : Env} {s : State} {m : MethodId} {args : Array Value} {below : List Frame} {meth : Method} {c : Code} {Q : State → Prop} {dC : Nat → ClassId} {dI : Nat → Nat → Nat} {ad : Nat → Nat} {cA : Nat → ClassId} {r : (Int32 × xSt)} (C : CallFix p m c cCM_member 15 s args wAll RCM) (hK : va_K (dC, dI) vwC (mT cA) s) (hend : ∀ (v : Int32) (σ : xSt) (H : Heap) (locs : List Loc) (pc : Nat) (ls : Array Slot), (v, σ) = r → va_P (dC, dI) vwC (mW ad cA σ) H → va_S (mA ad) s.heap H locs → decode cCM_member pc = .ok (.ireturn, 1) → W p l e rm_CM_member s m args below meth c H locs 0 0 Q (F0 m pc ls [.int v])) :
    ∀ (σ : xSt) (H : Heap) (locs : List Loc) (x1 : Int32) (x2 : Int32) (x3 : Int32) (x4 : Int32) (x5 : Int32) (x6 : Int32) (x7 : Int32) (x8 : Int32) (x9 : Int32) (ls : Array Slot), va_P (dC, dI) vwC (mW ad cA σ) H → va_D (mA ad) (mW ad cA σ) → va_S (mA ad) s.heap H locs → lv_has ls 15 [(0, .ref (ad 0)), (1, .int (x1)), (2, .int (x2)), (3, .int (x3)), (4, .int (x4)), (5, .int (x5)), (6, .int (x6)), (7, .int (x7)), (8, .int (x8)), (9, .int (x9))] → fCM_member_b166 σ x1 x2 x3 x4 x5 x6 x7 x8 x9 = some r → W p l e rm_CM_member s m args below meth c H locs 0 0 Q (F0 m 166 ls []) := by
  obtain ⟨hx, hb, hml, hown, hts⟩ := id C
  intro σ H locs x1 x2 x3 x4 x5 x6 x7 x8 x9 ls hP hD hS hl h
  unfold fCM_member_b166 at h
  refine lv_iload_n hx hb dCM_member_166 rfl (lv_at hl 3 rfl) ?_
  refine lv_bipush (v := (8 : Int32)) hx hb dCM_member_167 (by decide) ?_
  refine lv_iand hx hb dCM_member_169 ?_
  refine lv_if_eq (tgt := 201) hx hb dCM_member_170 (by decide) (fun c35 => ?_) (fun c35 => ?_)
  · have h := (if_pos c35).symm.trans h
    exact wCM_member_b201 C hK hend _ _ _ _ _ _ _ _ _ _ _ _ _ hP hD hS (lv_sub hl [0, 1, 2, 3, 4, 5, 6, 7, 8, 9] rfl) h
  · have h := (if_neg c35).symm.trans h
    refine lv_iload hx hb dCM_member_173 (lv_at hl 5 rfl) ?_
    refine lv_if_eq (tgt := 198) hx hb dCM_member_175 (by decide) (fun c34 => ?_) (fun c34 => ?_)
    · have h := (if_pos c34).symm.trans h
      refine lv_bipush (v := (-2 : Int32)) hx hb dCM_member_198 (by decide) ?_
      exact hend _ _ _ _ _ _ (Option.some.inj h) hP hS dCM_member_200
    · have h := (if_neg c34).symm.trans h
      refine lv_iload hx hb dCM_member_178 (lv_at hl 5 rfl) ?_
      refine lv_iconst (v := (1 : Int32)) hx hb dCM_member_180 (by decide) ?_
      refine lv_isub hx hb dCM_member_181 ?_
      refine lv_iload hx hb dCM_member_182 (lv_at hl 6 rfl) ?_
      refine lv_iload hx hb dCM_member_184 (lv_at hl 7 rfl) ?_
      refine lv_iload hx hb dCM_member_186 (lv_at hl 8 rfl) ?_
      refine lv_iload hx hb dCM_member_188 (lv_at hl 9 rfl) ?_
      obtain ⟨v32, ev32, h⟩ := Option.bind_eq_some_iff.mp h
      refine gcall_s (As := [.int (x5 - (1 : Int32)), .int (x6), .int (x7), .int (x8), .int (x9)]) (rest := []) C hK hP (kCM_parameter l dC dI ad cA σ (x5 - (1 : Int32)) x6 x7 x8 x9 v32 ev32) (va_cwS 5 hts (gws mw_408 mw_409 mw_363 mw_410) rfl rfl rfl hdCM_parameter ⟨Nat.le_of_ble_eq_true rfl, Nat.le_of_ble_eq_true rfl⟩) rfl hl.1 rfl (Nat.le_of_ble_eq_true rfl) dCM_member_190 ⟨Nat.le_refl _, Nat.le_refl _⟩ ?_
      refine lv_bipush (v := (64 : Int32)) hx hb dCM_member_193 (by decide) ?_
      refine lv_icmp_ge (tgt := 201) hx hb dCM_member_195 (by decide) (fun c33 => ?_) (fun c33 => ?_)
      · have h := (if_pos c33).symm.trans h
        exact wCM_member_b201 C hK hend _ _ _ _ _ _ _ _ _ _ _ _ _ hP hD hS (lv_sub hl [0, 1, 2, 3, 4, 5, 6, 7, 8, 9] rfl) h
      · have h := (if_neg c33).symm.trans h
        refine lv_bipush (v := (-2 : Int32)) hx hb dCM_member_198 (by decide) ?_
        exact hend _ _ _ _ _ _ (Option.some.inj h) hP hS dCM_member_200
def fCM_member_b132 (σ : xSt) (x1 : Int32) (x2 : Int32) (x3 : Int32) (x4 : Int32) (x5 : Int32) (x6 : Int32) (x7 : Int32) (x8 : Int32) (x9 : Int32) (s0 : Int32) : Option (Int32 × xSt) :=
  if s0 = 0 then
    fCM_member_b166 σ x1 x2 x3 x4 x5 x6 x7 x8 x9
  else
    if (x3 &&& (1 : Int32)) = 0 then
      if (x1 - (16 : Int32)) < 0 ∨ 24 ≤ (x1 - (16 : Int32)).toNatClampNeg then none else
      if (σ.1 1 (x1 - (16 : Int32)).toNatClampNeg) = 0 then
        fCM_member_b166 σ x1 x2 x3 x4 x5 x6 x7 x8 x9
      else
        if (x3 &&& (2 : Int32)) = 0 then
          fCM_member_b166 σ x1 x2 x3 x4 x5 x6 x7 x8 x9
        else
          some ((-2 : Int32), σ)
    else
      some ((-2 : Int32), σ)
set_option maxHeartbeats 4000000 in
set_option maxRecDepth 100000 in
theorem wCM_member_b132 {p : Program} {l : Launch} {e : Env} {s : State} {m : MethodId} {args : Array Value} {below : List Frame} {meth : Method} {c : Code} {Q : State → Prop} {dC : Nat → ClassId} {dI : Nat → Nat → Nat} {ad : Nat → Nat} {cA : Nat → ClassId} {r : (Int32 × xSt)} (C : CallFix p m c cCM_member 15 s args wAll RCM) (hK : va_K (dC, dI) vwC (mT cA) s) (hend : ∀ (v : Int32) (σ : xSt) (H : Heap) (locs : List Loc) (pc : Nat) (ls : Array Slot), (v, σ) = r → va_P (dC, dI) vwC (mW ad cA σ) H → va_S (mA ad) s.heap H locs → decode cCM_member pc = .ok (.ireturn, 1) → W p l e rm_CM_member s m args below meth c H locs 0 0 Q (F0 m pc ls [.int v])) :
    ∀ (σ : xSt) (H : Heap) (locs : List Loc) (x1 : Int32) (x2 : Int32) (x3 : Int32) (x4 : Int32) (x5 : Int32) (x6 : Int32) (x7 : Int32) (x8 : Int32) (x9 : Int32) (s0 : Int32) (ls : Array Slot), va_P (dC, dI) vwC (mW ad cA σ) H → va_D (mA ad) (mW ad cA σ) → va_S (mA ad) s.heap H locs → lv_has ls 15 [(0, .ref (ad 0)), (1, .int (x1)), (2, .int (x2)), (3, .int (x3)), (4, .int (x4)), (5, .int (x5)), (6, .int (x6)), (7, .int (x7)), (8, .int (x8)), (9, .int (x9))] → fCM_member_b132 σ x1 x2 x3 x4 x5 x6 x7 x8 x9 s0 = some r → W p l e rm_CM_member s m args below meth c H locs 0 0 Q (F0 m 132 ls [.int (s0)]) := by
  obtain ⟨hx, hb, hml, hown, hts⟩ := id C
  intro σ H locs x1 x2 x3 x4 x5 x6 x7 x8 x9 s0 ls hP hD hS hl h
  unfold fCM_member_b132 at h
  refine lv_istore (lv' := [(11, .int (s0)), (0, .ref (ad 0)), (1, .int (x1)), (2, .int (x2)), (3, .int (x3)), (4, .int (x4)), (5, .int (x5)), (6, .int (x6)), (7, .int (x7)), (8, .int (x8)), (9, .int (x9))]) hx hb dCM_member_132 hl (by decide) rfl (fun ls hl => ?_)
  refine lv_iload hx hb dCM_member_134 (lv_at hl 0 rfl) ?_
  refine lv_if_eq (tgt := 166) hx hb dCM_member_136 (by decide) (fun c40 => ?_) (fun c40 => ?_)
  · have h := (if_pos c40).symm.trans h
    exact wCM_member_b166 C hK hend _ _ _ _ _ _ _ _ _ _ _ _ _ hP hD hS (lv_sub hl [1, 2, 3, 4, 5, 6, 7, 8, 9, 10] rfl) h
  · have h := (if_neg c40).symm.trans h
    refine lv_iload_n hx hb dCM_member_139 rfl (lv_at hl 4 rfl) ?_
    refine lv_iconst (v := (1 : Int32)) hx hb dCM_member_140 (by decide) ?_
    refine lv_iand hx hb dCM_member_141 ?_
    refine lv_if_ne (tgt := 163) hx hb dCM_member_142 (by decide) (fun c39 => ?_) (fun c39 => ?_)
    · have h := (if_neg c39).symm.trans h
      refine lv_bipush (v := (-2 : Int32)) hx hb dCM_member_163 (by decide) ?_
      exact hend _ _ _ _ _ _ (Option.some.inj h) hP hS dCM_member_165
    · have h := (if_pos c39).symm.trans h
      refine lv_aload_n hx hb dCM_member_145 rfl (lv_at hl 1 rfl) ?_
      refine va_get (D := (dC, dI)) (ci := 5) (v := .ref (ad 1)) (C := RCM) (T := TCM) (N := 23) hx hb hts inCM hown hK hP 0 rfl rfl 1 (by decide) (hts _ mw_357) (fun _ h9 => h9) rfl dCM_member_146 ?_
      refine lv_iload_n hx hb dCM_member_149 rfl (lv_at hl 2 rfl) ?_
      refine lv_bipush (v := (16 : Int32)) hx hb dCM_member_150 (by decide) ?_
      refine lv_isub hx hb dCM_member_152 ?_
      obtain ⟨b36, h⟩ := gx_nb h
      refine va_zald hx hb hK hP 1 0 rfl rfl b36 dCM_member_153 ?_
      refine lv_if_eq (tgt := 166) hx hb dCM_member_154 (by decide) (fun c38 => ?_) (fun c38 => ?_)
      · have h := (if_pos c38).symm.trans h
        exact wCM_member_b166 C hK hend _ _ _ _ _ _ _ _ _ _ _ _ _ hP hD hS (lv_sub hl [1, 2, 3, 4, 5, 6, 7, 8, 9, 10] rfl) h
      · have h := (if_neg c38).symm.trans h
        refine lv_iload_n hx hb dCM_member_157 rfl (lv_at hl 4 rfl) ?_
        refine lv_iconst (v := (2 : Int32)) hx hb dCM_member_158 (by decide) ?_
        refine lv_iand hx hb dCM_member_159 ?_
        refine lv_if_eq (tgt := 166) hx hb dCM_member_160 (by decide) (fun c37 => ?_) (fun c37 => ?_)
        · have h := (if_pos c37).symm.trans h
          exact wCM_member_b166 C hK hend _ _ _ _ _ _ _ _ _ _ _ _ _ hP hD hS (lv_sub hl [1, 2, 3, 4, 5, 6, 7, 8, 9, 10] rfl) h
        · have h := (if_neg c37).symm.trans h
          refine lv_bipush (v := (-2 : Int32)) hx hb dCM_member_163 (by decide) ?_
          exact hend _ _ _ _ _ _ (Option.some.inj h) hP hS dCM_member_165
def fCM_member_b113 (σ : xSt) (x1 : Int32) (x2 : Int32) (x3 : Int32) (x4 : Int32) (x5 : Int32) (x6 : Int32) (x7 : Int32) (x8 : Int32) (x9 : Int32) (x10 : Int32) : Option (Int32 × xSt) :=
  if x10 = 0 then
    some ((-2 : Int32), σ)
  else
    if (x3 &&& (4 : Int32)) = 0 then
      fCM_member_b132 σ x1 x2 x3 x4 x5 x6 x7 x8 x9 (0 : Int32)
    else
      fCM_member_b132 σ x1 x2 x3 x4 x5 x6 x7 x8 x9 (1 : Int32)
set_option maxHeartbeats 4000000 in
set_option maxRecDepth 100000 in
theorem wCM_member_b113 {p : Program} {l : Launch} {e : Env} {s : State} {m : MethodId} {args : Array Value} {below : List Frame} {meth : Method} {c : Code} {Q : State → Prop} {dC : Nat → ClassId} {dI : Nat → Nat → Nat} {ad : Nat → Nat} {cA : Nat → ClassId} {r : (Int32 × xSt)} (C : CallFix p m c cCM_member 15 s args wAll RCM) (hK : va_K (dC, dI) vwC (mT cA) s) (hend : ∀ (v : Int32) (σ : xSt) (H : Heap) (locs : List Loc) (pc : Nat) (ls : Array Slot), (v, σ) = r → va_P (dC, dI) vwC (mW ad cA σ) H → va_S (mA ad) s.heap H locs → decode cCM_member pc = .ok (.ireturn, 1) → W p l e rm_CM_member s m args below meth c H locs 0 0 Q (F0 m pc ls [.int v])) :
    ∀ (σ : xSt) (H : Heap) (locs : List Loc) (x1 : Int32) (x2 : Int32) (x3 : Int32) (x4 : Int32) (x5 : Int32) (x6 : Int32) (x7 : Int32) (x8 : Int32) (x9 : Int32) (x10 : Int32) (ls : Array Slot), va_P (dC, dI) vwC (mW ad cA σ) H → va_D (mA ad) (mW ad cA σ) → va_S (mA ad) s.heap H locs → lv_has ls 15 [(0, .ref (ad 0)), (1, .int (x1)), (2, .int (x2)), (3, .int (x3)), (4, .int (x4)), (5, .int (x5)), (6, .int (x6)), (7, .int (x7)), (8, .int (x8)), (9, .int (x9)), (10, .int (x10))] → fCM_member_b113 σ x1 x2 x3 x4 x5 x6 x7 x8 x9 x10 = some r → W p l e rm_CM_member s m args below meth c H locs 0 0 Q (F0 m 113 ls []) := by
  obtain ⟨hx, hb, hml, hown, hts⟩ := id C
  intro σ H locs x1 x2 x3 x4 x5 x6 x7 x8 x9 x10 ls hP hD hS hl h
  unfold fCM_member_b113 at h
  refine lv_iload hx hb dCM_member_113 (lv_at hl 10 rfl) ?_
  refine lv_if_ne (tgt := 121) hx hb dCM_member_115 (by decide) (fun c42 => ?_) (fun c42 => ?_)
  · have h := (if_neg c42).symm.trans h
    refine lv_iload_n hx hb dCM_member_121 rfl (lv_at hl 3 rfl) ?_
    refine lv_iconst (v := (4 : Int32)) hx hb dCM_member_122 (by decide) ?_
    refine lv_iand hx hb dCM_member_123 ?_
    refine lv_if_eq (tgt := 131) hx hb dCM_member_124 (by decide) (fun c41 => ?_) (fun c41 => ?_)
    · have h := (if_pos c41).symm.trans h
      refine lv_iconst (v := (0 : Int32)) hx hb dCM_member_131 (by decide) ?_
      exact wCM_member_b132 C hK hend _ _ _ _ _ _ _ _ _ _ _ _ _ _ hP hD hS (lv_sub hl [0, 1, 2, 3, 4, 5, 6, 7, 8, 9] rfl) h
    · have h := (if_neg c41).symm.trans h
      refine lv_iconst (v := (1 : Int32)) hx hb dCM_member_127 (by decide) ?_
      refine lv_goto (tgt := 132) hx hb dCM_member_128 (by decide) ?_
      exact wCM_member_b132 C hK hend _ _ _ _ _ _ _ _ _ _ _ _ _ _ hP hD hS (lv_sub hl [0, 1, 2, 3, 4, 5, 6, 7, 8, 9] rfl) h
  · have h := (if_pos c42).symm.trans h
    refine lv_bipush (v := (-2 : Int32)) hx hb dCM_member_118 (by decide) ?_
    exact hend _ _ _ _ _ _ (Option.some.inj h) hP hS dCM_member_120
def fCM_member_b70 : Nat → xSt → Int32 → Int32 → Int32 → Int32 → Int32 → Int32 → Int32 → Int32 → Int32 → Int32 → Int32 → Option (Int32 × xSt)
  | 0, _, _, _, _, _, _, _, _, _, _, _, _ => none
  | n + 1, σ, x1, x2, x3, x4, x5, x6, x7, x8, x9, x10, x11 =>
    if (4 : Int32) ≤ x11 then
      fCM_member_b113 σ x1 x2 x3 x4 x5 x6 x7 x8 x9 x10
    else
      if x10 = 0 then
        fCM_member_b113 σ x1 x2 x3 x4 x5 x6 x7 x8 x9 x10
      else
        if x5 ≤ x11 then
          fCM_member_b113 σ x1 x2 x3 x4 x5 x6 x7 x8 x9 x10
        else
          (fCM_parameter σ x11 x6 x7 x8 x9).bind fun v43 =>
          (fCM_isValue σ v43).bind fun v44 =>
          fCM_member_b70 n σ x1 x2 x3 x4 x5 x6 x7 x8 x9 v44 (x11 + (1 : Int32))
set_option maxHeartbeats 4000000 in
set_option maxRecDepth 100000 in
theorem wCM_member_b70 {p : Program} {l : Launch} {e : Env} {s : State} {m : MethodId} {args : Array Value} {below : List Frame} {meth : Method} {c : Code} {Q : State → Prop} {dC : Nat → ClassId} {dI : Nat → Nat → Nat} {ad : Nat → Nat} {cA : Nat → ClassId} {r : (Int32 × xSt)} (C : CallFix p m c cCM_member 15 s args wAll RCM) (hK : va_K (dC, dI) vwC (mT cA) s) (hend : ∀ (v : Int32) (σ : xSt) (H : Heap) (locs : List Loc) (pc : Nat) (ls : Array Slot), (v, σ) = r → va_P (dC, dI) vwC (mW ad cA σ) H → va_S (mA ad) s.heap H locs → decode cCM_member pc = .ok (.ireturn, 1) → W p l e rm_CM_member s m args below meth c H locs 0 0 Q (F0 m pc ls [.int v])) :
    ∀ (n : Nat) (σ : xSt) (H : Heap) (locs : List Loc) (x1 : Int32) (x2 : Int32) (x3 : Int32) (x4 : Int32) (x5 : Int32) (x6 : Int32) (x7 : Int32) (x8 : Int32) (x9 : Int32) (x10 : Int32) (x11 : Int32) (ls : Array Slot), va_P (dC, dI) vwC (mW ad cA σ) H → va_D (mA ad) (mW ad cA σ) → va_S (mA ad) s.heap H locs → lv_has ls 15 [(0, .ref (ad 0)), (1, .int (x1)), (2, .int (x2)), (3, .int (x3)), (4, .int (x4)), (5, .int (x5)), (6, .int (x6)), (7, .int (x7)), (8, .int (x8)), (9, .int (x9)), (10, .int (x10)), (11, .int (x11))] → fCM_member_b70 n σ x1 x2 x3 x4 x5 x6 x7 x8 x9 x10 x11 = some r → W p l e rm_CM_member s m args below meth c H locs 0 0 Q (F0 m 70 ls []) := by
  obtain ⟨hx, hb, hml, hown, hts⟩ := id C
  intro n
  induction n with
  | zero =>
    intro σ H locs x1 x2 x3 x4 x5 x6 x7 x8 x9 x10 x11 ls hP hD hS hl h
    rw [fCM_member_b70] at h
    cases h
  | succ n ih =>
    intro σ H locs x1 x2 x3 x4 x5 x6 x7 x8 x9 x10 x11 ls hP hD hS hl h
    rw [fCM_member_b70] at h
    refine lv_iload hx hb dCM_member_70 (lv_at hl 11 rfl) ?_
    refine lv_iconst (v := (4 : Int32)) hx hb dCM_member_72 (by decide) ?_
    refine lv_icmp_ge (tgt := 113) hx hb dCM_member_73 (by decide) (fun c47 => ?_) (fun c47 => ?_)
    · have h := (if_pos c47).symm.trans h
      exact wCM_member_b113 C hK hend _ _ _ _ _ _ _ _ _ _ _ _ _ _ hP hD hS (lv_sub hl [0, 1, 2, 3, 4, 5, 6, 7, 8, 9, 10] rfl) h
    · have h := (if_neg c47).symm.trans h
      refine lv_iload hx hb dCM_member_76 (lv_at hl 10 rfl) ?_
      refine lv_if_eq (tgt := 113) hx hb dCM_member_78 (by decide) (fun c46 => ?_) (fun c46 => ?_)
      · have h := (if_pos c46).symm.trans h
        exact wCM_member_b113 C hK hend _ _ _ _ _ _ _ _ _ _ _ _ _ _ hP hD hS (lv_sub hl [0, 1, 2, 3, 4, 5, 6, 7, 8, 9, 10] rfl) h
      · have h := (if_neg c46).symm.trans h
        refine lv_iload hx hb dCM_member_81 (lv_at hl 11 rfl) ?_
        refine lv_iload hx hb dCM_member_83 (lv_at hl 5 rfl) ?_
        refine lv_icmp_ge (tgt := 113) hx hb dCM_member_85 (by decide) (fun c45 => ?_) (fun c45 => ?_)
        · have h := (if_pos c45).symm.trans h
          exact wCM_member_b113 C hK hend _ _ _ _ _ _ _ _ _ _ _ _ _ _ hP hD hS (lv_sub hl [0, 1, 2, 3, 4, 5, 6, 7, 8, 9, 10] rfl) h
        · have h := (if_neg c45).symm.trans h
          refine lv_aload_n hx hb dCM_member_88 rfl (lv_at hl 0 rfl) ?_
          refine lv_iload hx hb dCM_member_89 (lv_at hl 11 rfl) ?_
          refine lv_iload hx hb dCM_member_91 (lv_at hl 6 rfl) ?_
          refine lv_iload hx hb dCM_member_93 (lv_at hl 7 rfl) ?_
          refine lv_iload hx hb dCM_member_95 (lv_at hl 8 rfl) ?_
          refine lv_iload hx hb dCM_member_97 (lv_at hl 9 rfl) ?_
          obtain ⟨v43, ev43, h⟩ := Option.bind_eq_some_iff.mp h
          refine gcall_s (As := [.int (x11), .int (x6), .int (x7), .int (x8), .int (x9)]) (rest := [.ref (ad 0)]) C hK hP (kCM_parameter l dC dI ad cA σ x11 x6 x7 x8 x9 v43 ev43) (va_cwS 5 hts (gws mw_408 mw_409 mw_363 mw_410) rfl rfl rfl hdCM_parameter ⟨Nat.le_of_ble_eq_true rfl, Nat.le_of_ble_eq_true rfl⟩) rfl hl.1 rfl (Nat.le_of_ble_eq_true rfl) dCM_member_99 ⟨Nat.le_refl _, Nat.le_refl _⟩ ?_
          obtain ⟨v44, ev44, h⟩ := Option.bind_eq_some_iff.mp h
          refine gcall_r (b := ad 0) (As := [.int (v43)]) (rest := []) C hK hP (ci := 5) (q0 := 0) rfl rfl (kCM_isValue l dC dI ad cA σ v43 v44 ev44) (cwV 1 hts (gw mw_411 mw_412 mw_413 mw_363 mw_414) rfl rfl rfl hdCM_isValue ⟨Nat.le_of_ble_eq_true rfl, Nat.le_of_ble_eq_true rfl⟩) rfl hl.1 rfl (Nat.le_of_ble_eq_true rfl) dCM_member_102 ⟨Nat.le_refl _, Nat.le_refl _⟩ ?_
          refine lv_istore (lv' := [(10, .int (v44)), (0, .ref (ad 0)), (1, .int (x1)), (2, .int (x2)), (3, .int (x3)), (4, .int (x4)), (5, .int (x5)), (6, .int (x6)), (7, .int (x7)), (8, .int (x8)), (9, .int (x9)), (11, .int (x11))]) hx hb dCM_member_105 hl (by decide) rfl (fun ls hl => ?_)
          refine lv_iinc (v := x11 + (1 : Int32)) (lv' := [(11, .int (x11 + (1 : Int32))), (10, .int (v44)), (0, .ref (ad 0)), (1, .int (x1)), (2, .int (x2)), (3, .int (x3)), (4, .int (x4)), (5, .int (x5)), (6, .int (x6)), (7, .int (x7)), (8, .int (x8)), (9, .int (x9))]) hx hb dCM_member_107 hl (k := 11) rfl rfl (by decide) rfl (fun ls hl => ?_)
          refine lv_goto (tgt := 70) hx hb dCM_member_110 (by decide) ?_
          exact ih _ _ _ _ _ _ _ _ _ _ _ _ _ _ _ hP hD hS (lv_sub hl [2, 3, 4, 5, 6, 7, 8, 9, 10, 11, 1, 0] rfl) h
def fCM_member_b65 (σ : xSt) (x1 : Int32) (x2 : Int32) (x3 : Int32) (x4 : Int32) (x5 : Int32) (x6 : Int32) (x7 : Int32) (x8 : Int32) (x9 : Int32) (s0 : Int32) : Option (Int32 × xSt) :=
  fCM_member_b70 gF σ x1 x2 x3 x4 x5 x6 x7 x8 x9 s0 (0 : Int32)
set_option maxHeartbeats 4000000 in
set_option maxRecDepth 100000 in
theorem wCM_member_b65 {p : Program} {l : Launch} {e : Env} {s : State} {m : MethodId} {args : Array Value} {below : List Frame} {meth : Method} {c : Code} {Q : State → Prop} {dC : Nat → ClassId} {dI : Nat → Nat → Nat} {ad : Nat → Nat} {cA : Nat → ClassId} {r : (Int32 × xSt)} (C : CallFix p m c cCM_member 15 s args wAll RCM) (hK : va_K (dC, dI) vwC (mT cA) s) (hend : ∀ (v : Int32) (σ : xSt) (H : Heap) (locs : List Loc) (pc : Nat) (ls : Array Slot), (v, σ) = r → va_P (dC, dI) vwC (mW ad cA σ) H → va_S (mA ad) s.heap H locs → decode cCM_member pc = .ok (.ireturn, 1) → W p l e rm_CM_member s m args below meth c H locs 0 0 Q (F0 m pc ls [.int v])) :
    ∀ (σ : xSt) (H : Heap) (locs : List Loc) (x1 : Int32) (x2 : Int32) (x3 : Int32) (x4 : Int32) (x5 : Int32) (x6 : Int32) (x7 : Int32) (x8 : Int32) (x9 : Int32) (s0 : Int32) (ls : Array Slot), va_P (dC, dI) vwC (mW ad cA σ) H → va_D (mA ad) (mW ad cA σ) → va_S (mA ad) s.heap H locs → lv_has ls 15 [(0, .ref (ad 0)), (1, .int (x1)), (2, .int (x2)), (3, .int (x3)), (4, .int (x4)), (5, .int (x5)), (6, .int (x6)), (7, .int (x7)), (8, .int (x8)), (9, .int (x9))] → fCM_member_b65 σ x1 x2 x3 x4 x5 x6 x7 x8 x9 s0 = some r → W p l e rm_CM_member s m args below meth c H locs 0 0 Q (F0 m 65 ls [.int (s0)]) := by
  obtain ⟨hx, hb, hml, hown, hts⟩ := id C
  intro σ H locs x1 x2 x3 x4 x5 x6 x7 x8 x9 s0 ls hP hD hS hl h
  unfold fCM_member_b65 at h
  refine lv_istore (lv' := [(10, .int (s0)), (0, .ref (ad 0)), (1, .int (x1)), (2, .int (x2)), (3, .int (x3)), (4, .int (x4)), (5, .int (x5)), (6, .int (x6)), (7, .int (x7)), (8, .int (x8)), (9, .int (x9))]) hx hb dCM_member_65 hl (by decide) rfl (fun ls hl => ?_)
  refine lv_iconst (v := (0 : Int32)) hx hb dCM_member_67 (by decide) ?_
  refine lv_istore (lv' := [(11, .int ((0 : Int32))), (10, .int (s0)), (0, .ref (ad 0)), (1, .int (x1)), (2, .int (x2)), (3, .int (x3)), (4, .int (x4)), (5, .int (x5)), (6, .int (x6)), (7, .int (x7)), (8, .int (x8)), (9, .int (x9))]) hx hb dCM_member_68 hl (by decide) rfl (fun ls hl => ?_)
  exact wCM_member_b70 C hK hend _ _ _ _ _ _ _ _ _ _ _ _ _ _ _ _ hP hD hS (lv_sub hl [2, 3, 4, 5, 6, 7, 8, 9, 10, 11, 1, 0] rfl) h
def fCM_member_b64 (σ : xSt) (x1 : Int32) (x2 : Int32) (x3 : Int32) (x4 : Int32) (x5 : Int32) (x6 : Int32) (x7 : Int32) (x8 : Int32) (x9 : Int32) : Option (Int32 × xSt) :=
  fCM_member_b65 σ x1 x2 x3 x4 x5 x6 x7 x8 x9 (0 : Int32)
set_option maxHeartbeats 4000000 in
set_option maxRecDepth 100000 in
theorem wCM_member_b64 {p : Program} {l : Launch} {e : Env} {s : State} {m : MethodId} {args : Array Value} {below : List Frame} {meth : Method} {c : Code} {Q : State → Prop} {dC : Nat → ClassId} {dI : Nat → Nat → Nat} {ad : Nat → Nat} {cA : Nat → ClassId} {r : (Int32 × xSt)} (C : CallFix p m c cCM_member 15 s args wAll RCM) (hK : va_K (dC, dI) vwC (mT cA) s) (hend : ∀ (v : Int32) (σ : xSt) (H : Heap) (locs : List Loc) (pc : Nat) (ls : Array Slot), (v, σ) = r → va_P (dC, dI) vwC (mW ad cA σ) H → va_S (mA ad) s.heap H locs → decode cCM_member pc = .ok (.ireturn, 1) → W p l e rm_CM_member s m args below meth c H locs 0 0 Q (F0 m pc ls [.int v])) :
    ∀ (σ : xSt) (H : Heap) (locs : List Loc) (x1 : Int32) (x2 : Int32) (x3 : Int32) (x4 : Int32) (x5 : Int32) (x6 : Int32) (x7 : Int32) (x8 : Int32) (x9 : Int32) (ls : Array Slot), va_P (dC, dI) vwC (mW ad cA σ) H → va_D (mA ad) (mW ad cA σ) → va_S (mA ad) s.heap H locs → lv_has ls 15 [(0, .ref (ad 0)), (1, .int (x1)), (2, .int (x2)), (3, .int (x3)), (4, .int (x4)), (5, .int (x5)), (6, .int (x6)), (7, .int (x7)), (8, .int (x8)), (9, .int (x9))] → fCM_member_b64 σ x1 x2 x3 x4 x5 x6 x7 x8 x9 = some r → W p l e rm_CM_member s m args below meth c H locs 0 0 Q (F0 m 64 ls []) := by
  obtain ⟨hx, hb, hml, hown, hts⟩ := id C
  intro σ H locs x1 x2 x3 x4 x5 x6 x7 x8 x9 ls hP hD hS hl h
  unfold fCM_member_b64 at h
  refine lv_iconst (v := (0 : Int32)) hx hb dCM_member_64 (by decide) ?_
  exact wCM_member_b65 C hK hend _ _ _ _ _ _ _ _ _ _ _ _ _ _ hP hD hS (lv_sub hl [0, 1, 2, 3, 4, 5, 6, 7, 8, 9] rfl) h
def fCM_member_b40 (σ : xSt) (x1 : Int32) (x2 : Int32) (x3 : Int32) (x4 : Int32) (x5 : Int32) (x6 : Int32) (x7 : Int32) (x8 : Int32) (x9 : Int32) : Option (Int32 × xSt) :=
  if x5 < 0 then
    fCM_member_b64 σ x1 x2 x3 x4 x5 x6 x7 x8 x9
  else
    if (4 : Int32) < x5 then
      fCM_member_b64 σ x1 x2 x3 x4 x5 x6 x7 x8 x9
    else
      if (60 : Int32) ≤ (σ.1 0 6) then
        fCM_member_b64 σ x1 x2 x3 x4 x5 x6 x7 x8 x9
      else
        fCM_member_b65 σ x1 x2 x3 x4 x5 x6 x7 x8 x9 (1 : Int32)
set_option maxHeartbeats 4000000 in
set_option maxRecDepth 100000 in
theorem wCM_member_b40 {p : Program} {l : Launch} {e : Env} {s : State} {m : MethodId} {args : Array Value} {below : List Frame} {meth : Method} {c : Code} {Q : State → Prop} {dC : Nat → ClassId} {dI : Nat → Nat → Nat} {ad : Nat → Nat} {cA : Nat → ClassId} {r : (Int32 × xSt)} (C : CallFix p m c cCM_member 15 s args wAll RCM) (hK : va_K (dC, dI) vwC (mT cA) s) (hend : ∀ (v : Int32) (σ : xSt) (H : Heap) (locs : List Loc) (pc : Nat) (ls : Array Slot), (v, σ) = r → va_P (dC, dI) vwC (mW ad cA σ) H → va_S (mA ad) s.heap H locs → decode cCM_member pc = .ok (.ireturn, 1) → W p l e rm_CM_member s m args below meth c H locs 0 0 Q (F0 m pc ls [.int v])) :
    ∀ (σ : xSt) (H : Heap) (locs : List Loc) (x1 : Int32) (x2 : Int32) (x3 : Int32) (x4 : Int32) (x5 : Int32) (x6 : Int32) (x7 : Int32) (x8 : Int32) (x9 : Int32) (ls : Array Slot), va_P (dC, dI) vwC (mW ad cA σ) H → va_D (mA ad) (mW ad cA σ) → va_S (mA ad) s.heap H locs → lv_has ls 15 [(0, .ref (ad 0)), (1, .int (x1)), (2, .int (x2)), (3, .int (x3)), (4, .int (x4)), (5, .int (x5)), (6, .int (x6)), (7, .int (x7)), (8, .int (x8)), (9, .int (x9))] → fCM_member_b40 σ x1 x2 x3 x4 x5 x6 x7 x8 x9 = some r → W p l e rm_CM_member s m args below meth c H locs 0 0 Q (F0 m 40 ls []) := by
  obtain ⟨hx, hb, hml, hown, hts⟩ := id C
  intro σ H locs x1 x2 x3 x4 x5 x6 x7 x8 x9 ls hP hD hS hl h
  unfold fCM_member_b40 at h
  refine lv_iload hx hb dCM_member_40 (lv_at hl 5 rfl) ?_
  refine lv_if_lt (tgt := 64) hx hb dCM_member_42 (by decide) (fun c51 => ?_) (fun c51 => ?_)
  · have h := (if_pos c51).symm.trans h
    exact wCM_member_b64 C hK hend _ _ _ _ _ _ _ _ _ _ _ _ _ hP hD hS (lv_sub hl [0, 1, 2, 3, 4, 5, 6, 7, 8, 9] rfl) h
  · have h := (if_neg c51).symm.trans h
    refine lv_iload hx hb dCM_member_45 (lv_at hl 5 rfl) ?_
    refine lv_iconst (v := (4 : Int32)) hx hb dCM_member_47 (by decide) ?_
    refine lv_icmp_gt (tgt := 64) hx hb dCM_member_48 (by decide) (fun c50 => ?_) (fun c50 => ?_)
    · have h := (if_pos c50).symm.trans h
      exact wCM_member_b64 C hK hend _ _ _ _ _ _ _ _ _ _ _ _ _ hP hD hS (lv_sub hl [0, 1, 2, 3, 4, 5, 6, 7, 8, 9] rfl) h
    · have h := (if_neg c50).symm.trans h
      refine lv_aload_n hx hb dCM_member_51 rfl (lv_at hl 0 rfl) ?_
      refine va_get (D := (dC, dI)) (ci := 5) (v := .int (σ.1 0 6)) (C := RCM) (T := TCM) (N := 23) hx hb hts inCM hown hK hP 0 rfl rfl 6 (by decide) (hts _ mw_401) (fun _ h9 => h9) rfl dCM_member_52 ?_
      refine lv_bipush (v := (60 : Int32)) hx hb dCM_member_55 (by decide) ?_
      refine lv_icmp_ge (tgt := 64) hx hb dCM_member_57 (by decide) (fun c49 => ?_) (fun c49 => ?_)
      · have h := (if_pos c49).symm.trans h
        exact wCM_member_b64 C hK hend _ _ _ _ _ _ _ _ _ _ _ _ _ hP hD hS (lv_sub hl [0, 1, 2, 3, 4, 5, 6, 7, 8, 9] rfl) h
      · have h := (if_neg c49).symm.trans h
        refine lv_iconst (v := (1 : Int32)) hx hb dCM_member_60 (by decide) ?_
        refine lv_goto (tgt := 65) hx hb dCM_member_61 (by decide) ?_
        exact wCM_member_b65 C hK hend _ _ _ _ _ _ _ _ _ _ _ _ _ _ hP hD hS (lv_sub hl [0, 1, 2, 3, 4, 5, 6, 7, 8, 9] rfl) h
def fCM_member (σ : xSt) (x1 : Int32) (x2 : Int32) (x3 : Int32) (x4 : Int32) (x5 : Int32) (x6 : Int32) (x7 : Int32) (x8 : Int32) (x9 : Int32) : Option (Int32 × xSt) :=
  (fCM_isTold σ x1).bind fun v1 =>
  if v1 = 0 then
    fCM_member_b64 σ x1 x2 x3 x4 x5 x6 x7 x8 x9
  else
    (fCM_isName σ x2).bind fun v48 =>
    if v48 = 0 then
      fCM_member_b64 σ x1 x2 x3 x4 x5 x6 x7 x8 x9
    else
      if x3 < 0 then
        fCM_member_b64 σ x1 x2 x3 x4 x5 x6 x7 x8 x9
      else
        if (15 : Int32) < x3 then
          fCM_member_b64 σ x1 x2 x3 x4 x5 x6 x7 x8 x9
        else
          if x4 = (-1 : Int32) then
            fCM_member_b40 σ x1 x2 x3 x4 x5 x6 x7 x8 x9
          else
            (fCM_isValue σ x4).bind fun v52 =>
            if v52 = 0 then
              fCM_member_b64 σ x1 x2 x3 x4 x5 x6 x7 x8 x9
            else
              fCM_member_b40 σ x1 x2 x3 x4 x5 x6 x7 x8 x9
set_option maxHeartbeats 4000000 in
set_option maxRecDepth 100000 in
theorem wCM_member {p : Program} {l : Launch} {e : Env} {s : State} {m : MethodId} {args : Array Value} {below : List Frame} {meth : Method} {c : Code} {Q : State → Prop} {dC : Nat → ClassId} {dI : Nat → Nat → Nat} {ad : Nat → Nat} {cA : Nat → ClassId} {r : (Int32 × xSt)} (C : CallFix p m c cCM_member 15 s args wAll RCM) (hK : va_K (dC, dI) vwC (mT cA) s) (hend : ∀ (v : Int32) (σ : xSt) (H : Heap) (locs : List Loc) (pc : Nat) (ls : Array Slot), (v, σ) = r → va_P (dC, dI) vwC (mW ad cA σ) H → va_S (mA ad) s.heap H locs → decode cCM_member pc = .ok (.ireturn, 1) → W p l e rm_CM_member s m args below meth c H locs 0 0 Q (F0 m pc ls [.int v])) {H : Heap} {locs : List Loc} {σ : xSt} (hP : va_P (dC, dI) vwC (mW ad cA σ) H) (hD : va_D (mA ad) (mW ad cA σ)) (hS : va_S (mA ad) s.heap H locs) {x1 : Int32} {x2 : Int32} {x3 : Int32} {x4 : Int32} {x5 : Int32} {x6 : Int32} {x7 : Int32} {x8 : Int32} {x9 : Int32} (ls : Array Slot) (hl : lv_has ls 15 [(0, .ref (ad 0)), (1, .int (x1)), (2, .int (x2)), (3, .int (x3)), (4, .int (x4)), (5, .int (x5)), (6, .int (x6)), (7, .int (x7)), (8, .int (x8)), (9, .int (x9))]) (h : fCM_member σ x1 x2 x3 x4 x5 x6 x7 x8 x9 = some r) : W p l e rm_CM_member s m args below meth c H locs 0 0 Q (F0 m 0 ls []) := by
  obtain ⟨hx, hb, hml, hown, hts⟩ := id C
  unfold fCM_member at h
  refine lv_aload_n hx hb dCM_member_0 rfl (lv_at hl 0 rfl) ?_
  refine lv_iload_n hx hb dCM_member_1 rfl (lv_at hl 1 rfl) ?_
  obtain ⟨v1, ev1, h⟩ := Option.bind_eq_some_iff.mp h
  refine gcall_r (b := ad 0) (As := [.int (x1)]) (rest := []) C hK hP (ci := 5) (q0 := 0) rfl rfl (kCM_isTold l dC dI ad cA σ x1 v1 ev1) (cwV 1 hts (gw mw_371 mw_372 mw_373 mw_363 mw_374) rfl rfl rfl hdCM_isTold ⟨Nat.le_of_ble_eq_true rfl, Nat.le_of_ble_eq_true rfl⟩) rfl hl.1 rfl (Nat.le_of_ble_eq_true rfl) dCM_member_2 ⟨Nat.le_refl _, Nat.le_refl _⟩ ?_
  refine lv_if_eq (tgt := 64) hx hb dCM_member_5 (by decide) (fun c58 => ?_) (fun c58 => ?_)
  · have h := (if_pos c58).symm.trans h
    exact wCM_member_b64 C hK hend _ _ _ _ _ _ _ _ _ _ _ _ _ hP hD hS (lv_sub hl [0, 1, 2, 3, 4, 5, 6, 7, 8, 9] rfl) h
  · have h := (if_neg c58).symm.trans h
    refine lv_iload_n hx hb dCM_member_8 rfl (lv_at hl 2 rfl) ?_
    obtain ⟨v48, ev48, h⟩ := Option.bind_eq_some_iff.mp h
    refine gcall_s (As := [.int (x2)]) (rest := []) C hK hP (kCM_isName l dC dI ad cA σ x2 v48 ev48) (va_cwS 1 hts (gws mw_415 mw_416 mw_363 mw_417) rfl rfl rfl hdCM_isName ⟨Nat.le_of_ble_eq_true rfl, Nat.le_of_ble_eq_true rfl⟩) rfl hl.1 rfl (Nat.le_of_ble_eq_true rfl) dCM_member_9 ⟨Nat.le_refl _, Nat.le_refl _⟩ ?_
    refine lv_if_eq (tgt := 64) hx hb dCM_member_12 (by decide) (fun c57 => ?_) (fun c57 => ?_)
    · have h := (if_pos c57).symm.trans h
      exact wCM_member_b64 C hK hend _ _ _ _ _ _ _ _ _ _ _ _ _ hP hD hS (lv_sub hl [0, 1, 2, 3, 4, 5, 6, 7, 8, 9] rfl) h
    · have h := (if_neg c57).symm.trans h
      refine lv_iload_n hx hb dCM_member_15 rfl (lv_at hl 3 rfl) ?_
      refine lv_if_lt (tgt := 64) hx hb dCM_member_16 (by decide) (fun c56 => ?_) (fun c56 => ?_)
      · have h := (if_pos c56).symm.trans h
        exact wCM_member_b64 C hK hend _ _ _ _ _ _ _ _ _ _ _ _ _ hP hD hS (lv_sub hl [0, 1, 2, 3, 4, 5, 6, 7, 8, 9] rfl) h
      · have h := (if_neg c56).symm.trans h
        refine lv_iload_n hx hb dCM_member_19 rfl (lv_at hl 3 rfl) ?_
        refine lv_bipush (v := (15 : Int32)) hx hb dCM_member_20 (by decide) ?_
        refine lv_icmp_gt (tgt := 64) hx hb dCM_member_22 (by decide) (fun c55 => ?_) (fun c55 => ?_)
        · have h := (if_pos c55).symm.trans h
          exact wCM_member_b64 C hK hend _ _ _ _ _ _ _ _ _ _ _ _ _ hP hD hS (lv_sub hl [0, 1, 2, 3, 4, 5, 6, 7, 8, 9] rfl) h
        · have h := (if_neg c55).symm.trans h
          refine lv_iload hx hb dCM_member_25 (lv_at hl 4 rfl) ?_
          refine lv_iconst (v := (-1 : Int32)) hx hb dCM_member_27 (by decide) ?_
          refine lv_icmp_eq (tgt := 40) hx hb dCM_member_28 (by decide) (fun c54 => ?_) (fun c54 => ?_)
          · have h := (if_pos c54).symm.trans h
            exact wCM_member_b40 C hK hend _ _ _ _ _ _ _ _ _ _ _ _ _ hP hD hS (lv_sub hl [0, 1, 2, 3, 4, 5, 6, 7, 8, 9] rfl) h
          · have h := (if_neg c54).symm.trans h
            refine lv_aload_n hx hb dCM_member_31 rfl (lv_at hl 0 rfl) ?_
            refine lv_iload hx hb dCM_member_32 (lv_at hl 4 rfl) ?_
            obtain ⟨v52, ev52, h⟩ := Option.bind_eq_some_iff.mp h
            refine gcall_r (b := ad 0) (As := [.int (x4)]) (rest := []) C hK hP (ci := 5) (q0 := 0) rfl rfl (kCM_isValue l dC dI ad cA σ x4 v52 ev52) (cwV 1 hts (gw mw_411 mw_412 mw_413 mw_363 mw_414) rfl rfl rfl hdCM_isValue ⟨Nat.le_of_ble_eq_true rfl, Nat.le_of_ble_eq_true rfl⟩) rfl hl.1 rfl (Nat.le_of_ble_eq_true rfl) dCM_member_34 ⟨Nat.le_refl _, Nat.le_refl _⟩ ?_
            refine lv_if_eq (tgt := 64) hx hb dCM_member_37 (by decide) (fun c53 => ?_) (fun c53 => ?_)
            · have h := (if_pos c53).symm.trans h
              exact wCM_member_b64 C hK hend _ _ _ _ _ _ _ _ _ _ _ _ _ hP hD hS (lv_sub hl [0, 1, 2, 3, 4, 5, 6, 7, 8, 9] rfl) h
            · have h := (if_neg c53).symm.trans h
              exact wCM_member_b40 C hK hend _ _ _ _ _ _ _ _ _ _ _ _ _ hP hD hS (lv_sub hl [0, 1, 2, 3, 4, 5, 6, 7, 8, 9] rfl) h
set_option maxHeartbeats 4000000 in
set_option maxRecDepth 100000 in
theorem kCM_member (l : Launch) (dC : Nat → ClassId) (dI : Nat → Nat → Nat) (ad : Nat → Nat) (cA : Nat → ClassId) (σ : xSt) (x1 : Int32) (x2 : Int32) (x3 : Int32) (x4 : Int32) (x5 : Int32) (x6 : Int32) (x7 : Int32) (x8 : Int32) (x9 : Int32) (r : (Int32 × xSt)) (h : fCM_member σ x1 x2 x3 x4 x5 x6 x7 x8 x9 = some r) : Met l yCM_member wsCM_member rm_CM_member (va_Pc [.ref (ad 0), .int (x1), .int (x2), .int (x3), .int (x4), .int (x5), .int (x6), .int (x7), .int (x8), .int (x9)] (fun U => va_P (dC, dI) vwC (mW ad cA σ) U.heap ∧ va_K (dC, dI) vwC (mT cA) U ∧ va_D (mA ad) (mW ad cA σ))) (va_Qi (fun (v : Int32) (u : xSt) => (v, u) = r) (fun u t => va_P (dC, dI) vwC (mW ad cA u) t.heap) (mA ad)) 0 0 (mA ad) := by
  refine Met.ofW (cc := cCM_member) (maxL := 15) (ret := (some .int)) (by decide) rfl ?_
  intro p e s m args below meth c s₁ B hml hv
  obtain ⟨rfl, hP, hK, hD⟩ := hv
  have hr := B.returns
  have hlocks := B.notSynchronized
  have hl := lv_entry ([.ref (ad 0), .int (x1), .int (x2), .int (x3), .int (x4), .int (x5), .int (x6), .int (x7), .int (x8), .int (x9)]) (n := 15) (Nat.le_of_ble_eq_true rfl)
  rw [lg_entry_eq]
  exact wCM_member ⟨B.exec, B.bytes, hml, findClass_of_methodNamed B.named, fun w h => atoms_spec (ws := wsCM_member) B.pre w (List.mem_cons_of_mem _ h)⟩ hK (fun v σ H locs pc ls hv hP hS hd => W.iret (v := v) B.exec B.bytes hr (fun t ht hW => ⟨⟨v, σ, rfl, hv, by show va_P _ _ _ t.heap; rw [ht]; exact hP⟩, hS.F ht⟩) hS.2.2 hd) hP hD va_S.rf _ hl h
