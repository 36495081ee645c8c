abbrev rm_C3_isToldLambda : Room := { frames := 0, cells := 0, slots := 0, locals := 0 }
def fC3_isToldLambda (σ : xSt) (x1 : Int32) : Option Int32 :=
  if x1 < 0 ∨ 5 ≤ x1.toNatClampNeg then none else
  if (σ.1 16 x1.toNatClampNeg) = 0 then
    some (0 : Int32)
  else
    if x1 < 0 ∨ 5 ≤ x1.toNatClampNeg then none else
    if (σ.1 17 x1.toNatClampNeg) = 0 then
      some (0 : Int32)
    else
      some (1 : Int32)
set_option maxHeartbeats 4000000 in
set_option maxRecDepth 100000 in
theorem wC3_isToldLambda {p : Program} {l : Launch} {e : Env} {s : State} {m : MethodId} {args : Array Value} {below : List Frame} {meth : Method} {c : Code} {Q : State → Prop} {dC : Nat → ClassId} {dI : Nat → Nat → Nat} {ad : Nat → Nat} {cA : Nat → ClassId} {r : Int32} {H : Heap} {locs : List Loc} {σ : xSt} (C : CallFix p m c cC3_isToldLambda 2 s args wAll RC3) (hK : va_K (dC, dI) vwC (xT cA) s) (hP : va_P (dC, dI) vwC (xW ad cA σ) H) (hend : ∀ (v : Int32) (pc : Nat) (ls : Array Slot), v = r → narrow .boolean (.int v) = .int v → decode cC3_isToldLambda pc = .ok (.ireturn, 1) → W p l e rm_C3_isToldLambda s m args below meth c H locs 0 0 Q (F0 m pc ls [.int v])) {x1 : Int32} (ls : Array Slot) (hl : lv_has ls 2 [(0, .ref (ad 3)), (1, .int (x1))]) (h : fC3_isToldLambda σ x1 = some r) : W p l e rm_C3_isToldLambda s m args below meth c H locs 0 0 Q (F0 m 0 ls []) := by
  obtain ⟨hx, hb, hml, hown, hts⟩ := id C
  unfold fC3_isToldLambda at h
  refine lv_aload_n hx hb dC3_isToldLambda_0 rfl (lv_at hl 0 rfl) ?_
  refine va_get (D := (dC, dI)) (ci := 3) (v := .ref (ad 16)) (C := RC3) (T := TC3) (N := 6) hx hb hts inC3 hown hK hP 3 rfl rfl 0 (by decide) (hts _ mw_177) (fun _ h9 => h9) rfl dC3_isToldLambda_1 ?_
  refine lv_iload_n hx hb dC3_isToldLambda_4 rfl (lv_at hl 1 rfl) ?_
  obtain ⟨b1, h⟩ := gx_nb h
  refine va_zald hx hb hK hP 16 11 rfl rfl b1 dC3_isToldLambda_5 ?_
  refine lv_if_eq (tgt := 22) hx hb dC3_isToldLambda_6 (by decide) (fun c4 => ?_) (fun c4 => ?_)
  · have h := (if_pos c4).symm.trans h
    refine lv_iconst (v := (0 : Int32)) hx hb dC3_isToldLambda_22 (by decide) ?_
    exact hend _ _ _ (Option.some.inj h) rfl dC3_isToldLambda_23
  · have h := (if_neg c4).symm.trans h
    refine lv_aload_n hx hb dC3_isToldLambda_9 rfl (lv_at hl 0 rfl) ?_
    refine va_get (D := (dC, dI)) (ci := 3) (v := .ref (ad 17)) (C := RC3) (T := TC3) (N := 6) hx hb hts inC3 hown hK hP 3 rfl rfl 1 (by decide) (hts _ mw_178) (fun _ h9 => h9) rfl dC3_isToldLambda_10 ?_
    refine lv_iload_n hx hb dC3_isToldLambda_13 rfl (lv_at hl 1 rfl) ?_
    obtain ⟨b2, h⟩ := gx_nb h
    refine va_zald hx hb hK hP 17 12 rfl rfl b2 dC3_isToldLambda_14 ?_
    refine lv_if_eq (tgt := 22) hx hb dC3_isToldLambda_15 (by decide) (fun c3 => ?_) (fun c3 => ?_)
    · have h := (if_pos c3).symm.trans h
      refine lv_iconst (v := (0 : Int32)) hx hb dC3_isToldLambda_22 (by decide) ?_
      exact hend _ _ _ (Option.some.inj h) rfl dC3_isToldLambda_23
    · have h := (if_neg c3).symm.trans h
      refine lv_iconst (v := (1 : Int32)) hx hb dC3_isToldLambda_18 (by decide) ?_
      refine lv_goto (tgt := 23) hx hb dC3_isToldLambda_19 (by decide) ?_
      exact hend _ _ _ (Option.some.inj h) rfl dC3_isToldLambda_23
set_option maxHeartbeats 4000000 in
set_option maxRecDepth 100000 in
theorem kC3_isToldLambda (l : Launch) (dC : Nat → ClassId) (dI : Nat → Nat → Nat) (ad : Nat → Nat) (cA : Nat → ClassId) (σ : xSt) (x1 : Int32) (r : Int32) (h : fC3_isToldLambda σ x1 = some r) : Met l yC3_isToldLambda wsC3_isToldLambda rm_C3_isToldLambda (va_Pc [.ref (ad 3), .int (x1)] (fun U => va_P (dC, dI) vwC (xW ad cA σ) U.heap ∧ va_K (dC, dI) vwC (xT cA) U)) (vp_Si (fun v => v = r)) 0 0 (fun _ => False) := by
  refine Met.ofW (cc := cC3_isToldLambda) (maxL := 2) (ret := (some .boolean)) (by decide) rfl ?_
  intro p e s m args below meth c s₁ B hml hv
  obtain ⟨rfl, hP, hK⟩ := hv
  have hr := B.returns
  have hlocks := B.notSynchronized
  have hl := lv_entry ([.ref (ad 3), .int (x1)]) (n := 2) (Nat.le_of_ble_eq_true rfl)
  rw [lg_entry_eq]
  exact wC3_isToldLambda ⟨B.exec, B.bytes, hml, findClass_of_methodNamed B.named, fun w h => atoms_spec (ws := wsC3_isToldLambda) B.pre w (List.mem_cons_of_mem _ h)⟩ hK hP (fun v pc ls hv hn hd => W.zret (v := v) B.exec B.bytes hr hn (fun t ht hW => ⟨v, rfl, hv, ht⟩) (fun q hq => absurd hq List.not_mem_nil) hd) _ hl h
abbrev rm_C3_valueOf : Room := { frames := 0, cells := 0, slots := 0, locals := 0 }
def fC3_valueOf (σ : xSt) (x1 : Int32) : Option Int32 :=
  if x1 < 0 ∨ 5 ≤ x1.toNatClampNeg then none else
  some (σ.1 18 x1.toNatClampNeg)
set_option maxHeartbeats 4000000 in
set_option maxRecDepth 100000 in
theorem wC3_valueOf {p : Program} {l : Launch} {e : Env} {s : State} {m : MethodId} {args : Array Value} {below : List Frame} {meth : Method} {c : Code} {Q : State → Prop} {dC : Nat → ClassId} {dI : Nat → Nat → Nat} {ad : Nat → Nat} {cA : Nat → ClassId} {r : Int32} {H : Heap} {locs : List Loc} {σ : xSt} (C : CallFix p m c cC3_valueOf 2 s args wAll RC3) (hK : va_K (dC, dI) vwC (xT cA) s) (hP : va_P (dC, dI) vwC (xW ad cA σ) H) (hend : ∀ (v : Int32) (pc : Nat) (ls : Array Slot), v = r → decode cC3_valueOf pc = .ok (.ireturn, 1) → W p l e rm_C3_valueOf s m args below meth c H locs 0 0 Q (F0 m pc ls [.int v])) {x1 : Int32} (ls : Array Slot) (hl : lv_has ls 2 [(0, .ref (ad 3)), (1, .int (x1))]) (h : fC3_valueOf σ x1 = some r) : W p l e rm_C3_valueOf s m args below meth c H locs 0 0 Q (F0 m 0 ls []) := by
  obtain ⟨hx, hb, hml, hown, hts⟩ := id C
  unfold fC3_valueOf at h
  refine lv_aload_n hx hb dC3_valueOf_0 rfl (lv_at hl 0 rfl) ?_
  refine va_get (D := (dC, dI)) (ci := 3) (v := .ref (ad 18)) (C := RC3) (T := TC3) (N := 6) hx hb hts inC3 hown hK hP 3 rfl rfl 2 (by decide) (hts _ mw_179) (fun _ h9 => h9) rfl dC3_valueOf_1 ?_
  refine lv_iload_n hx hb dC3_valueOf_4 rfl (lv_at hl 1 rfl) ?_
  obtain ⟨b1, h⟩ := gx_nb h
  refine va_iald hx hb hK hP 18 13 rfl rfl b1 dC3_valueOf_5 ?_
  exact hend _ _ _ (Option.some.inj h) dC3_valueOf_6
set_option maxHeartbeats 4000000 in
set_option maxRecDepth 100000 in
theorem kC3_valueOf (l : Launch) (dC : Nat → ClassId) (dI : Nat → Nat → Nat) (ad : Nat → Nat) (cA : Nat → ClassId) (σ : xSt) (x1 : Int32) (r : Int32) (h : fC3_valueOf σ x1 = some r) : Met l yC3_valueOf wsC3_valueOf rm_C3_valueOf (va_Pc [.ref (ad 3), .int (x1)] (fun U => va_P (dC, dI) vwC (xW ad cA σ) U.heap ∧ va_K (dC, dI) vwC (xT cA) U)) (vp_Si (fun v => v = r)) 0 0 (fun _ => False) := by
  refine Met.ofW (cc := cC3_valueOf) (maxL := 2) (ret := (some .int)) (by decide) rfl ?_
  intro p e s m args below meth c s₁ B hml hv
  obtain ⟨rfl, hP, hK⟩ := hv
  have hr := B.returns
  have hlocks := B.notSynchronized
  have hl := lv_entry ([.ref (ad 3), .int (x1)]) (n := 2) (Nat.le_of_ble_eq_true rfl)
  rw [lg_entry_eq]
  exact wC3_valueOf ⟨B.exec, B.bytes, hml, findClass_of_methodNamed B.named, fun w h => atoms_spec (ws := wsC3_valueOf) B.pre w (List.mem_cons_of_mem _ h)⟩ hK hP (fun v pc ls hv hd => W.iret (v := v) B.exec B.bytes hr (fun t ht hW => ⟨v, rfl, hv, ht⟩) (fun q hq => absurd hq List.not_mem_nil) hd) _ hl h
abbrev rm_C2_resultOf : Room := { frames := 0, cells := 0, slots := 0, locals := 0 }
def fC2_resultOf (σ : xSt) (x1 : Int32) : Option Int32 :=
  if x1 < 0 ∨ 61 ≤ x1.toNatClampNeg then none else
  some (σ.1 12 x1.toNatClampNeg)
set_option maxHeartbeats 4000000 in
set_option maxRecDepth 100000 in
theorem wC2_resultOf {p : Program} {l : Launch} {e : Env} {s : State} {m : MethodId} {args : Array Value} {below : List Frame} {meth : Method} {c : Code} {Q : State → Prop} {dC : Nat → ClassId} {dI : Nat → Nat → Nat} {ad : Nat → Nat} {cA : Nat → ClassId} {r : Int32} {H : Heap} {locs : List Loc} {σ : xSt} (C : CallFix p m c cC2_resultOf 2 s args wAll RC2) (hK : va_K (dC, dI) vwC (xT cA) s) (hP : va_P (dC, dI) vwC (xW ad cA σ) H) (hend : ∀ (v : Int32) (pc : Nat) (ls : Array Slot), v = r → decode cC2_resultOf pc = .ok (.ireturn, 1) → W p l e rm_C2_resultOf s m args below meth c H locs 0 0 Q (F0 m pc ls [.int v])) {x1 : Int32} (ls : Array Slot) (hl : lv_has ls 2 [(0, .ref (ad 2)), (1, .int (x1))]) (h : fC2_resultOf σ x1 = some r) : W p l e rm_C2_resultOf s m args below meth c H locs 0 0 Q (F0 m 0 ls []) := by
  obtain ⟨hx, hb, hml, hown, hts⟩ := id C
  unfold fC2_resultOf at h
  refine lv_aload_n hx hb dC2_resultOf_0 rfl (lv_at hl 0 rfl) ?_
  refine va_get (D := (dC, dI)) (ci := 2) (v := .ref (ad 12)) (C := RC2) (T := TC2) (N := 10) hx hb hts inC2 hown hK hP 2 rfl rfl 4 (by decide) (hts _ mw_46) (fun _ h9 => h9) rfl dC2_resultOf_1 ?_
  refine lv_iload_n hx hb dC2_resultOf_4 rfl (lv_at hl 1 rfl) ?_
  obtain ⟨b1, h⟩ := gx_nb h
  refine va_iald hx hb hK hP 12 7 rfl rfl b1 dC2_resultOf_5 ?_
  exact hend _ _ _ (Option.some.inj h) dC2_resultOf_6
set_option maxHeartbeats 4000000 in
set_option maxRecDepth 100000 in
theorem kC2_resultOf (l : Launch) (dC : Nat → ClassId) (dI : Nat → Nat → Nat) (ad : Nat → Nat) (cA : Nat → ClassId) (σ : xSt) (x1 : Int32) (r : Int32) (h : fC2_resultOf σ x1 = some r) : Met l yC2_resultOf wsC2_resultOf rm_C2_resultOf (va_Pc [.ref (ad 2), .int (x1)] (fun U => va_P (dC, dI) vwC (xW ad cA σ) U.heap ∧ va_K (dC, dI) vwC (xT cA) U)) (vp_Si (fun v => v = r)) 0 0 (fun _ => False) := by
  refine Met.ofW (cc := cC2_resultOf) (maxL := 2) (ret := (some .int)) (by decide) rfl ?_
  intro p e s m args below meth c s₁ B hml hv
  obtain ⟨rfl, hP, hK⟩ := hv
  have hr := B.returns
  have hlocks := B.notSynchronized
  have hl := lv_entry ([.ref (ad 2), .int (x1)]) (n := 2) (Nat.le_of_ble_eq_true rfl)
  rw [lg_entry_eq]
  exact wC2_resultOf ⟨B.exec, B.bytes, hml, findClass_of_methodNamed B.named, fun w h => atoms_spec (ws := wsC2_resultOf) B.pre w (List.mem_cons_of_mem _ h)⟩ hK hP (fun v pc ls hv hd => W.iret (v := v) B.exec B.bytes hr (fun t ht hW => ⟨v, rfl, hv, ht⟩) (fun q hq => absurd hq List.not_mem_nil) hd) _ hl h
abbrev rm_C1_isReference : Room := { frames := 0, cells := 0, slots := 0, locals := 0 }
def fC1_isReference (σ : xSt) (x1 : Int32) : Option Int32 :=
  if x1 ≤ (3 : Int32) then
    some (0 : Int32)
  else
    some (1 : Int32)
set_option maxHeartbeats 4000000 in
set_option maxRecDepth 100000 in
theorem wC1_isReference {p : Program} {l : Launch} {e : Env} {s : State} {m : MethodId} {args : Array Value} {below : List Frame} {meth : Method} {c : Code} {Q : State → Prop} {dC : Nat → ClassId} {dI : Nat → Nat → Nat} {ad : Nat → Nat} {cA : Nat → ClassId} {r : Int32} {H : Heap} {locs : List Loc} {σ : xSt} (C : CallFix p m c cC1_isReference 2 s args wAll RC1) (hK : va_K (dC, dI) vwC (xT cA) s) (hP : va_P (dC, dI) vwC (xW ad cA σ) H) (hend : ∀ (v : Int32) (pc : Nat) (ls : Array Slot), v = r → narrow .boolean (.int v) = .int v → decode cC1_isReference pc = .ok (.ireturn, 1) → W p l e rm_C1_isReference s m args below meth c H locs 0 0 Q (F0 m pc ls [.int v])) {x1 : Int32} (ls : Array Slot) (hl : lv_has ls 2 [(0, .ref (ad 1)), (1, .int (x1))]) (h : fC1_isReference σ x1 = some r) : W p l e rm_C1_isReference s m args below meth c H locs 0 0 Q (F0 m 0 ls []) := by
  obtain ⟨hx, hb, hml, hown, hts⟩ := id C
  unfold fC1_isReference at h
  refine lv_iload_n hx hb dC1_isReference_0 rfl (lv_at hl 1 rfl) ?_
  refine lv_iconst (v := (3 : Int32)) hx hb dC1_isReference_1 (by decide) ?_
  refine lv_icmp_le (tgt := 9) hx hb dC1_isReference_2 (by decide) (fun c1 => ?_) (fun c1 => ?_)
  · have h := (if_pos c1).symm.trans h
    refine lv_iconst (v := (0 : Int32)) hx hb dC1_isReference_9 (by decide) ?_
    exact hend _ _ _ (Option.some.inj h) rfl dC1_isReference_10
  · have h := (if_neg c1).symm.trans h
    refine lv_iconst (v := (1 : Int32)) hx hb dC1_isReference_5 (by decide) ?_
    refine lv_goto (tgt := 10) hx hb dC1_isReference_6 (by decide) ?_
    exact hend _ _ _ (Option.some.inj h) rfl dC1_isReference_10
set_option maxHeartbeats 4000000 in
set_option maxRecDepth 100000 in
theorem kC1_isReference (l : Launch) (dC : Nat → ClassId) (dI : Nat → Nat → Nat) (ad : Nat → Nat) (cA : Nat → ClassId) (σ : xSt) (x1 : Int32) (r : Int32) (h : fC1_isReference σ x1 = some r) : Met l yC1_isReference wsC1_isReference rm_C1_isReference (va_Pc [.ref (ad 1), .int (x1)] (fun U => va_P (dC, dI) vwC (xW ad cA σ) U.heap ∧ va_K (dC, dI) vwC (xT cA) U)) (vp_Si (fun v => v = r)) 0 0 (fun _ => False) := by
  refine Met.ofW (cc := cC1_isReference) (maxL := 2) (ret := (some .boolean)) (by decide) rfl ?_
  intro p e s m args below meth c s₁ B hml hv
  obtain ⟨rfl, hP, hK⟩ := hv
  have hr := B.returns
  have hlocks := B.notSynchronized
  have hl := lv_entry ([.ref (ad 1), .int (x1)]) (n := 2) (Nat.le_of_ble_eq_true rfl)
  rw [lg_entry_eq]
  exact wC1_isReference ⟨B.exec, B.bytes, hml, findClass_of_methodNamed B.named, fun w h => atoms_spec (ws := wsC1_isReference) B.pre w (List.mem_cons_of_mem _ h)⟩ hK hP (fun v pc ls hv hn hd => W.zret (v := v) B.exec B.bytes hr hn (fun t ht hW => ⟨v, rfl, hv, ht⟩) (fun q hq => absurd hq List.not_mem_nil) hd) _ hl h
abbrev rm_C4_isFinerResult : Room := { frames := 1, cells := 0, slots := 0, locals := 25 }
def fC4_isFinerResult_b86 (σ : xSt) (x4 : Int32) (x5 : Int32) : Option Int32 :=
  (fC1_isA σ x4 x5).bind fun v5 =>
  if v5 &&& 1 = v5 then
    some v5
  else none
set_option maxHeartbeats 4000000 in
set_option maxRecDepth 100000 in
theorem wC4_isFinerResult_b86 {p : Program} {l : Launch} {e : Env} {s : State} {m : MethodId} {args : Array Value} {below : List Frame} {meth : Method} {c : Code} {Q : State → Prop} {dC : Nat → ClassId} {dI : Nat → Nat → Nat} {ad : Nat → Nat} {cA : Nat → ClassId} {r : Int32} {H : Heap} {locs : List Loc} {σ : xSt} (C : CallFix p m c cC4_isFinerResult 6 s args wAll RC4) (hK : va_K (dC, dI) vwC (xT cA) s) (hP : va_P (dC, dI) vwC (xW ad cA σ) H) (hend : ∀ (v : Int32) (pc : Nat) (ls : Array Slot), v = r → narrow .boolean (.int v) = .int v → decode cC4_isFinerResult pc = .ok (.ireturn, 1) → W p l e rm_C4_isFinerResult s m args below meth c H locs 0 0 Q (F0 m pc ls [.int v])) :
    ∀ (x4 : Int32) (x5 : Int32) (ls : Array Slot), lv_has ls 6 [(0, .ref (ad 4)), (4, .int (x4)), (5, .int (x5))] → fC4_isFinerResult_b86 σ x4 x5 = some r → W p l e rm_C4_isFinerResult s m args below meth c H locs 0 0 Q (F0 m 86 ls []) := by
  obtain ⟨hx, hb, hml, hown, hts⟩ := id C
  intro x4 x5 ls hl h
  unfold fC4_isFinerResult_b86 at h
  refine lv_aload_n hx hb dC4_isFinerResult_86 rfl (lv_at hl 0 rfl) ?_
  refine va_get (D := (dC, dI)) (ci := 4) (v := .ref (ad 1)) (C := RC4) (T := TC4) (N := 10) hx hb hts inC4 hown hK hP 4 rfl rfl 0 (by decide) (hts _ mw_260) (fun _ h9 => h9) rfl dC4_isFinerResult_87 ?_
  refine lv_iload hx hb dC4_isFinerResult_90 (lv_at hl 1 rfl) ?_
  refine lv_iload hx hb dC4_isFinerResult_92 (lv_at hl 2 rfl) ?_
  obtain ⟨v5, ev5, h⟩ := Option.bind_eq_some_iff.mp h
  refine gcall_r (b := ad 1) (As := [.int (x4), .int (x5)]) (rest := []) C hK hP (ci := 1) (q0 := 1) rfl rfl (kC1_isA l dC dI ad cA σ x4 x5 v5 ev5) (cwV 2 hts (gw mw_266 mw_28 mw_29 mw_7 mw_30) rfl rfl rfl hdC1_isA ⟨Nat.le_of_ble_eq_true rfl, Nat.le_of_ble_eq_true rfl⟩) rfl hl.1 rfl (Nat.le_of_ble_eq_true rfl) dC4_isFinerResult_94 ⟨Nat.le_refl _, Nat.le_refl _⟩ ?_
  obtain ⟨b6, h⟩ := gx_gd h
  exact hend _ _ _ (Option.some.inj h) (gx_nar b6) dC4_isFinerResult_97
def fC4_isFinerResult_b53 (σ : xSt) (x3 : Int32) (x4 : Int32) (x5 : Int32) : Option Int32 :=
  (fC1_isReference σ x4).bind fun v4 =>
  if v4 = 0 then
    fC4_isFinerResult_b86 σ x4 x5
  else
    (fC1_isPrimitive σ x5).bind fun v7 =>
    if v7 = 0 then
      fC4_isFinerResult_b86 σ x4 x5
    else
      (fC1_isReference σ x3).bind fun v8 =>
      if v8 &&& 1 = v8 then
        some v8
      else none
set_option maxHeartbeats 4000000 in
set_option maxRecDepth 100000 in
theorem wC4_isFinerResult_b53 {p : Program} {l : Launch} {e : Env} {s : State} {m : MethodId} {args : Array Value} {below : List Frame} {meth : Method} {c : Code} {Q : State → Prop} {dC : Nat → ClassId} {dI : Nat → Nat → Nat} {ad : Nat → Nat} {cA : Nat → ClassId} {r : Int32} {H : Heap} {locs : List Loc} {σ : xSt} (C : CallFix p m c cC4_isFinerResult 6 s args wAll RC4) (hK : va_K (dC, dI) vwC (xT cA) s) (hP : va_P (dC, dI) vwC (xW ad cA σ) H) (hend : ∀ (v : Int32) (pc : Nat) (ls : Array Slot), v = r → narrow .boolean (.int v) = .int v → decode cC4_isFinerResult pc = .ok (.ireturn, 1) → W p l e rm_C4_isFinerResult s m args below meth c H locs 0 0 Q (F0 m pc ls [.int v])) :
    ∀ (x3 : Int32) (x4 : Int32) (x5 : Int32) (ls : Array Slot), lv_has ls 6 [(0, .ref (ad 4)), (3, .int (x3)), (4, .int (x4)), (5, .int (x5))] → fC4_isFinerResult_b53 σ x3 x4 x5 = some r → W p l e rm_C4_isFinerResult s m args below meth c H locs 0 0 Q (F0 m 53 ls []) := by
  obtain ⟨hx, hb, hml, hown, hts⟩ := id C
  intro x3 x4 x5 ls hl h
  unfold fC4_isFinerResult_b53 at h
  refine lv_aload_n hx hb dC4_isFinerResult_53 rfl (lv_at hl 0 rfl) ?_
  refine va_get (D := (dC, dI)) (ci := 4) (v := .ref (ad 1)) (C := RC4) (T := TC4) (N := 10) hx hb hts inC4 hown hK hP 4 rfl rfl 0 (by decide) (hts _ mw_260) (fun _ h9 => h9) rfl dC4_isFinerResult_54 ?_
  refine lv_iload hx hb dC4_isFinerResult_57 (lv_at hl 2 rfl) ?_
  obtain ⟨v4, ev4, h⟩ := Option.bind_eq_some_iff.mp h
  refine gcall_r (b := ad 1) (As := [.int (x4)]) (rest := []) C hK hP (ci := 1) (q0 := 1) rfl rfl (kC1_isReference l dC dI ad cA σ x4 v4 ev4) (cwV 1 hts (gw mw_281 mw_282 mw_283 mw_7 mw_284) rfl rfl rfl hdC1_isReference ⟨Nat.le_of_ble_eq_true rfl, Nat.le_of_ble_eq_true rfl⟩) rfl hl.1 rfl (Nat.le_of_ble_eq_true rfl) dC4_isFinerResult_59 ⟨Nat.le_refl _, Nat.le_refl _⟩ ?_
  refine lv_if_eq (tgt := 86) hx hb dC4_isFinerResult_62 (by decide) (fun c11 => ?_) (fun c11 => ?_)
  · have h := (if_pos c11).symm.trans h
    exact wC4_isFinerResult_b86 C hK hP hend _ _ _ (lv_sub hl [0, 2, 3] rfl) h
  · have h := (if_neg c11).symm.trans h
    refine lv_aload_n hx hb dC4_isFinerResult_65 rfl (lv_at hl 0 rfl) ?_
    refine va_get (D := (dC, dI)) (ci := 4) (v := .ref (ad 1)) (C := RC4) (T := TC4) (N := 10) hx hb hts inC4 hown hK hP 4 rfl rfl 0 (by decide) (hts _ mw_260) (fun _ h9 => h9) rfl dC4_isFinerResult_66 ?_
    refine lv_iload hx hb dC4_isFinerResult_69 (lv_at hl 3 rfl) ?_
    obtain ⟨v7, ev7, h⟩ := Option.bind_eq_some_iff.mp h
    refine gcall_r (b := ad 1) (As := [.int (x5)]) (rest := []) C hK hP (ci := 1) (q0 := 1) rfl rfl (kC1_isPrimitive l dC dI ad cA σ x5 v7 ev7) (cwV 1 hts (gw mw_280 mw_128 mw_129 mw_7 mw_130) rfl rfl rfl hdC1_isPrimitive ⟨Nat.le_of_ble_eq_true rfl, Nat.le_of_ble_eq_true rfl⟩) rfl hl.1 rfl (Nat.le_of_ble_eq_true rfl) dC4_isFinerResult_71 ⟨Nat.le_refl _, Nat.le_refl _⟩ ?_
    refine lv_if_eq (tgt := 86) hx hb dC4_isFinerResult_74 (by decide) (fun c10 => ?_) (fun c10 => ?_)
    · have h := (if_pos c10).symm.trans h
      exact wC4_isFinerResult_b86 C hK hP hend _ _ _ (lv_sub hl [0, 2, 3] rfl) h
    · have h := (if_neg c10).symm.trans h
      refine lv_aload_n hx hb dC4_isFinerResult_77 rfl (lv_at hl 0 rfl) ?_
      refine va_get (D := (dC, dI)) (ci := 4) (v := .ref (ad 1)) (C := RC4) (T := TC4) (N := 10) hx hb hts inC4 hown hK hP 4 rfl rfl 0 (by decide) (hts _ mw_260) (fun _ h9 => h9) rfl dC4_isFinerResult_78 ?_
      refine lv_iload_n hx hb dC4_isFinerResult_81 rfl (lv_at hl 1 rfl) ?_
      obtain ⟨v8, ev8, h⟩ := Option.bind_eq_some_iff.mp h
      refine gcall_r (b := ad 1) (As := [.int (x3)]) (rest := []) C hK hP (ci := 1) (q0 := 1) rfl rfl (kC1_isReference l dC dI ad cA σ x3 v8 ev8) (cwV 1 hts (gw mw_281 mw_282 mw_283 mw_7 mw_284) rfl rfl rfl hdC1_isReference ⟨Nat.le_of_ble_eq_true rfl, Nat.le_of_ble_eq_true rfl⟩) rfl hl.1 rfl (Nat.le_of_ble_eq_true rfl) dC4_isFinerResult_82 ⟨Nat.le_refl _, Nat.le_refl _⟩ ?_
      obtain ⟨b9, h⟩ := gx_gd h
      exact hend _ _ _ (Option.some.inj h) (gx_nar b9) dC4_isFinerResult_85
def fC4_isFinerResult (σ : xSt) (x1 : Int32) (x2 : Int32) (x3 : Int32) : Option Int32 :=
  (fC2_resultOf σ x1).bind fun v1 =>
  (fC2_resultOf σ x2).bind fun v2 =>
  (fC1_isPrimitive σ v1).bind fun v3 =>
  if v3 = 0 then
    fC4_isFinerResult_b53 σ x3 v1 v2
  else
    (fC1_isReference σ v2).bind fun v12 =>
    if v12 = 0 then
      fC4_isFinerResult_b53 σ x3 v1 v2
    else
      (fC1_isPrimitive σ x3).bind fun v13 =>
      if v13 &&& 1 = v13 then
        some v13
      else none
set_option maxHeartbeats 4000000 in
set_option maxRecDepth 100000 in
theorem wC4_isFinerResult {p : Program} {l : Launch} {e : Env} {s : State} {m : MethodId} {args : Array Value} {below : List Frame} {meth : Method} {c : Code} {Q : State → Prop} {dC : Nat → ClassId} {dI : Nat → Nat → Nat} {ad : Nat → Nat} {cA : Nat → ClassId} {r : Int32} {H : Heap} {locs : List Loc} {σ : xSt} (C : CallFix p m c cC4_isFinerResult 6 s args wAll RC4) (hK : va_K (dC, dI) vwC (xT cA) s) (hP : va_P (dC, dI) vwC (xW ad cA σ) H) (hend : ∀ (v : Int32) (pc : Nat) (ls : Array Slot), v = r → narrow .boolean (.int v) = .int v → decode cC4_isFinerResult pc = .ok (.ireturn, 1) → W p l e rm_C4_isFinerResult s m args below meth c H locs 0 0 Q (F0 m pc ls [.int v])) {x1 : Int32} {x2 : Int32} {x3 : Int32} (ls : Array Slot) (hl : lv_has ls 6 [(0, .ref (ad 4)), (1, .int (x1)), (2, .int (x2)), (3, .int (x3))]) (h : fC4_isFinerResult σ x1 x2 x3 = some r) : W p l e rm_C4_isFinerResult s m args below meth c H locs 0 0 Q (F0 m 0 ls []) := by
  obtain ⟨hx, hb, hml, hown, hts⟩ := id C
  unfold fC4_isFinerResult at h
  refine lv_aload_n hx hb dC4_isFinerResult_0 rfl (lv_at hl 0 rfl) ?_
  refine va_get (D := (dC, dI)) (ci := 4) (v := .ref (ad 2)) (C := RC4) (T := TC4) (N := 10) hx hb hts inC4 hown hK hP 4 rfl rfl 1 (by decide) (hts _ mw_206) (fun _ h9 => h9) rfl dC4_isFinerResult_1 ?_
  refine lv_iload_n hx hb dC4_isFinerResult_4 rfl (lv_at hl 1 rfl) ?_
  obtain ⟨v1, ev1, h⟩ := Option.bind_eq_some_iff.mp h
  refine gcall_r (b := ad 2) (As := [.int (x1)]) (rest := []) C hK hP (ci := 2) (q0 := 2) rfl rfl (kC2_resultOf l dC dI ad cA σ x1 v1 ev1) (cwV 1 hts (gw mw_276 mw_277 mw_278 mw_40 mw_279) rfl rfl rfl hdC2_resultOf ⟨Nat.le_of_ble_eq_true rfl, Nat.le_of_ble_eq_true rfl⟩) rfl hl.1 rfl (Nat.le_of_ble_eq_true rfl) dC4_isFinerResult_5 ⟨Nat.le_refl _, Nat.le_refl _⟩ ?_
  refine lv_istore (lv' := [(4, .int (v1)), (0, .ref (ad 4)), (1, .int (x1)), (2, .int (x2)), (3, .int (x3))]) hx hb dC4_isFinerResult_8 hl (by decide) rfl (fun ls hl => ?_)
  refine lv_aload_n hx hb dC4_isFinerResult_10 rfl (lv_at hl 1 rfl) ?_
  refine va_get (D := (dC, dI)) (ci := 4) (v := .ref (ad 2)) (C := RC4) (T := TC4) (N := 10) hx hb hts inC4 hown hK hP 4 rfl rfl 1 (by decide) (hts _ mw_206) (fun _ h9 => h9) rfl dC4_isFinerResult_11 ?_
  refine lv_iload_n hx hb dC4_isFinerResult_14 rfl (lv_at hl 3 rfl) ?_
  obtain ⟨v2, ev2, h⟩ := Option.bind_eq_some_iff.mp h
  refine gcall_r (b := ad 2) (As := [.int (x2)]) (rest := []) C hK hP (ci := 2) (q0 := 2) rfl rfl (kC2_resultOf l dC dI ad cA σ x2 v2 ev2) (cwV 1 hts (gw mw_276 mw_277 mw_278 mw_40 mw_279) rfl rfl rfl hdC2_resultOf ⟨Nat.le_of_ble_eq_true rfl, Nat.le_of_ble_eq_true rfl⟩) rfl hl.1 rfl (Nat.le_of_ble_eq_true rfl) dC4_isFinerResult_15 ⟨Nat.le_refl _, Nat.le_refl _⟩ ?_
  refine lv_istore (lv' := [(5, .int (v2)), (4, .int (v1)), (0, .ref (ad 4)), (1, .int (x1)), (2, .int (x2)), (3, .int (x3))]) hx hb dC4_isFinerResult_18 hl (by decide) rfl (fun ls hl => ?_)
  refine lv_aload_n hx hb dC4_isFinerResult_20 rfl (lv_at hl 2 rfl) ?_
  refine va_get (D := (dC, dI)) (ci := 4) (v := .ref (ad 1)) (C := RC4) (T := TC4) (N := 10) hx hb hts inC4 hown hK hP 4 rfl rfl 0 (by decide) (hts _ mw_260) (fun _ h9 => h9) rfl dC4_isFinerResult_21 ?_
  refine lv_iload hx hb dC4_isFinerResult_24 (lv_at hl 1 rfl) ?_
  obtain ⟨v3, ev3, h⟩ := Option.bind_eq_some_iff.mp h
  refine gcall_r (b := ad 1) (As := [.int (v1)]) (rest := []) C hK hP (ci := 1) (q0 := 1) rfl rfl (kC1_isPrimitive l dC dI ad cA σ v1 v3 ev3) (cwV 1 hts (gw mw_280 mw_128 mw_129 mw_7 mw_130) rfl rfl rfl hdC1_isPrimitive ⟨Nat.le_of_ble_eq_true rfl, Nat.le_of_ble_eq_true rfl⟩) rfl hl.1 rfl (Nat.le_of_ble_eq_true rfl) dC4_isFinerResult_26 ⟨Nat.le_refl _, Nat.le_refl _⟩ ?_
  refine lv_if_eq (tgt := 53) hx hb dC4_isFinerResult_29 (by decide) (fun c16 => ?_) (fun c16 => ?_)
  · have h := (if_pos c16).symm.trans h
    exact wC4_isFinerResult_b53 C hK hP hend _ _ _ _ (lv_sub hl [2, 5, 1, 0] rfl) h
  · have h := (if_neg c16).symm.trans h
    refine lv_aload_n hx hb dC4_isFinerResult_32 rfl (lv_at hl 2 rfl) ?_
    refine va_get (D := (dC, dI)) (ci := 4) (v := .ref (ad 1)) (C := RC4) (T := TC4) (N := 10) hx hb hts inC4 hown hK hP 4 rfl rfl 0 (by decide) (hts _ mw_260) (fun _ h9 => h9) rfl dC4_isFinerResult_33 ?_
    refine lv_iload hx hb dC4_isFinerResult_36 (lv_at hl 0 rfl) ?_
    obtain ⟨v12, ev12, h⟩ := Option.bind_eq_some_iff.mp h
    refine gcall_r (b := ad 1) (As := [.int (v2)]) (rest := []) C hK hP (ci := 1) (q0 := 1) rfl rfl (kC1_isReference l dC dI ad cA σ v2 v12 ev12) (cwV 1 hts (gw mw_281 mw_282 mw_283 mw_7 mw_284) rfl rfl rfl hdC1_isReference ⟨Nat.le_of_ble_eq_true rfl, Nat.le_of_ble_eq_true rfl⟩) rfl hl.1 rfl (Nat.le_of_ble_eq_true rfl) dC4_isFinerResult_38 ⟨Nat.le_refl _, Nat.le_refl _⟩ ?_
    refine lv_if_eq (tgt := 53) hx hb dC4_isFinerResult_41 (by decide) (fun c15 => ?_) (fun c15 => ?_)
    · have h := (if_pos c15).symm.trans h
      exact wC4_isFinerResult_b53 C hK hP hend _ _ _ _ (lv_sub hl [2, 5, 1, 0] rfl) h
    · have h := (if_neg c15).symm.trans h
      refine lv_aload_n hx hb dC4_isFinerResult_44 rfl (lv_at hl 2 rfl) ?_
      refine va_get (D := (dC, dI)) (ci := 4) (v := .ref (ad 1)) (C := RC4) (T := TC4) (N := 10) hx hb hts inC4 hown hK hP 4 rfl rfl 0 (by decide) (hts _ mw_260) (fun _ h9 => h9) rfl dC4_isFinerResult_45 ?_
      refine lv_iload_n hx hb dC4_isFinerResult_48 rfl (lv_at hl 5 rfl) ?_
      obtain ⟨v13, ev13, h⟩ := Option.bind_eq_some_iff.mp h
      refine gcall_r (b := ad 1) (As := [.int (x3)]) (rest := []) C hK hP (ci := 1) (q0 := 1) rfl rfl (kC1_isPrimitive l dC dI ad cA σ x3 v13 ev13) (cwV 1 hts (gw mw_280 mw_128 mw_129 mw_7 mw_130) rfl rfl rfl hdC1_isPrimitive ⟨Nat.le_of_ble_eq_true rfl, Nat.le_of_ble_eq_true rfl⟩) rfl hl.1 rfl (Nat.le_of_ble_eq_true rfl) dC4_isFinerResult_49 ⟨Nat.le_refl _, Nat.le_refl _⟩ ?_
      obtain ⟨b14, h⟩ := gx_gd h
      exact hend _ _ _ (Option.some.inj h) (gx_nar b14) dC4_isFinerResult_52
set_option maxHeartbeats 4000000 in
set_option maxRecDepth 100000 in
theorem kC4_isFinerResult (l : Launch) (dC : Nat → ClassId) (dI : Nat → Nat → Nat) (ad : Nat → Nat) (cA : Nat → ClassId) (σ : xSt) (x1 : Int32) (x2 : Int32) (x3 : Int32) (r : Int32) (h : fC4_isFinerResult σ x1 x2 x3 = some r) : Met l yC4_isFinerResult wsC4_isFinerResult rm_C4_isFinerResult (va_Pc [.ref (ad 4), .int (x1), .int (x2), .int (x3)] (fun U => va_P (dC, dI) vwC (xW ad cA σ) U.heap ∧ va_K (dC, dI) vwC (xT cA) U)) (vp_Si (fun v => v = r)) 0 0 (fun _ => False) := by
  refine Met.ofW (cc := cC4_isFinerResult) (maxL := 6) (ret := (some .boolean)) (by decide) rfl ?_
  intro p e s m args below meth c s₁ B hml hv
  obtain ⟨rfl, hP, hK⟩ := hv
  have hr := B.returns
  have hlocks := B.notSynchronized
  have hl := lv_entry ([.ref (ad 4), .int (x1), .int (x2), .int (x3)]) (n := 6) (Nat.le_of_ble_eq_true rfl)
  rw [lg_entry_eq]
  exact wC4_isFinerResult ⟨B.exec, B.bytes, hml, findClass_of_methodNamed B.named, fun w h => atoms_spec (ws := wsC4_isFinerResult) B.pre w (List.mem_cons_of_mem _ h)⟩ hK hP (fun v pc ls hv hn hd => W.zret (v := v) B.exec B.bytes hr hn (fun t ht hW => ⟨v, rfl, hv, ht⟩) (fun q hq => absurd hq List.not_mem_nil) hd) _ hl h
abbrev rm_C4_isFinerFunction : Room := { frames := 2, cells := 0, slots := 0, locals := 50 }
def fC4_isFinerFunction (σ : xSt) (x1 : Int32) (x2 : Int32) (x3 : Int32) : Option Int32 :=
  (fC2_functionOf σ x1).bind fun v1 =>
  (fC2_functionOf σ x2).bind fun v2 =>
  (fC3_isToldLambda σ x3).bind fun v3 =>
  if v3 = 0 then
    some (0 : Int32)
  else
    if v1 = (-1 : Int32) then
      some (0 : Int32)
    else
      if v2 = (-1 : Int32) then
        some (0 : Int32)
      else
        (fC1_isA σ x1 x2).bind fun v4 =>
        if v4 = 0 then
          (fC1_isA σ x2 x1).bind fun v5 =>
          if v5 = 0 then
            (fC2_sameParameters σ v1 v2).bind fun v6 =>
            if v6 = 0 then
              some (0 : Int32)
            else
              (fC2_hasResult σ v2).bind fun v7 =>
              if v7 = 0 then
                some (1 : Int32)
              else
                (fC2_hasResult σ v1).bind fun v8 =>
                if v8 = 0 then
                  some (0 : Int32)
                else
                  (fC3_valueOf σ x3).bind fun v9 =>
                  (fC4_isFinerResult σ v1 v2 v9).bind fun v10 =>
                  if v10 = 0 then
                    some (0 : Int32)
                  else
                    some (1 : Int32)
          else
            some (0 : Int32)
        else
          some (0 : Int32)
set_option maxHeartbeats 4000000 in
set_option maxRecDepth 100000 in
theorem wC4_isFinerFunction {p : Program} {l : Launch} {e : Env} {s : State} {m : MethodId} {args : Array Value} {below : List Frame} {meth : Method} {c : Code} {Q : State → Prop} {dC : Nat → ClassId} {dI : Nat → Nat → Nat} {ad : Nat → Nat} {cA : Nat → ClassId} {r : Int32} {H : Heap} {locs : List Loc} {σ : xSt} (C : CallFix p m c cC4_isFinerFunction 6 s args wAll RC4) (hK : va_K (dC, dI) vwC (xT cA) s) (hP : va_P (dC, dI) vwC (xW ad cA σ) H) (hend : ∀ (v : Int32) (pc : Nat) (ls : Array Slot), v = r → narrow .boolean (.int v) = .int v → decode cC4_isFinerFunction pc = .ok (.ireturn, 1) → W p l e rm_C4_isFinerFunction s m args below meth c H locs 0 0 Q (F0 m pc ls [.int v])) {x1 : Int32} {x2 : Int32} {x3 : Int32} (ls : Array Slot) (hl : lv_has ls 6 [(0, .ref (ad 4)), (1, .int (x1)), (2, .int (x2)), (3, .int (x3))]) (h : fC4_isFinerFunction σ x1 x2 x3 = some r) : W p l e rm_C4_isFinerFunction s m args below meth c H locs 0 0 Q (F0 m 0 ls []) := by
  obtain ⟨hx, hb, hml, hown, hts⟩ := id C
  unfold fC4_isFinerFunction at h
  refine lv_aload_n hx hb dC4_isFinerFunction_0 rfl (lv_at hl 0 rfl) ?_
  refine va_get (D := (dC, dI)) (ci := 4) (v := .ref (ad 2)) (C := RC4) (T := TC4) (N := 10) hx hb hts inC4 hown hK hP 4 rfl rfl 1 (by decide) (hts _ mw_206) (fun _ h9 => h9) rfl dC4_isFinerFunction_1 ?_
  refine lv_iload_n hx hb dC4_isFinerFunction_4 rfl (lv_at hl 1 rfl) ?_
  obtain ⟨v1, ev1, h⟩ := Option.bind_eq_some_iff.mp h
  refine gcall_r (b := ad 2) (As := [.int (x1)]) (rest := []) C hK hP (ci := 2) (q0 := 2) rfl rfl (kC2_functionOf l dC dI ad cA σ x1 v1 ev1) (cwV 1 hts (gw mw_233 mw_162 mw_163 mw_40 mw_164) rfl rfl rfl hdC2_functionOf ⟨Nat.le_of_ble_eq_true rfl, Nat.le_of_ble_eq_true rfl⟩) rfl hl.1 rfl (Nat.le_of_ble_eq_true rfl) dC4_isFinerFunction_5 ⟨Nat.le_refl _, Nat.le_refl _⟩ ?_
  refine lv_istore (lv' := [(4, .int (v1)), (0, .ref (ad 4)), (1, .int (x1)), (2, .int (x2)), (3, .int (x3))]) hx hb dC4_isFinerFunction_8 hl (by decide) rfl (fun ls hl => ?_)
  refine lv_aload_n hx hb dC4_isFinerFunction_10 rfl (lv_at hl 1 rfl) ?_
  refine va_get (D := (dC, dI)) (ci := 4) (v := .ref (ad 2)) (C := RC4) (T := TC4) (N := 10) hx hb hts inC4 hown hK hP 4 rfl rfl 1 (by decide) (hts _ mw_206) (fun _ h9 => h9) rfl dC4_isFinerFunction_11 ?_
  refine lv_iload_n hx hb dC4_isFinerFunction_14 rfl (lv_at hl 3 rfl) ?_
  obtain ⟨v2, ev2, h⟩ := Option.bind_eq_some_iff.mp h
  refine gcall_r (b := ad 2) (As := [.int (x2)]) (rest := []) C hK hP (ci := 2) (q0 := 2) rfl rfl (kC2_functionOf l dC dI ad cA σ x2 v2 ev2) (cwV 1 hts (gw mw_233 mw_162 mw_163 mw_40 mw_164) rfl rfl rfl hdC2_functionOf ⟨Nat.le_of_ble_eq_true rfl, Nat.le_of_ble_eq_true rfl⟩) rfl hl.1 rfl (Nat.le_of_ble_eq_true rfl) dC4_isFinerFunction_15 ⟨Nat.le_refl _, Nat.le_refl _⟩ ?_
  refine lv_istore (lv' := [(5, .int (v2)), (4, .int (v1)), (0, .ref (ad 4)), (1, .int (x1)), (2, .int (x2)), (3, .int (x3))]) hx hb dC4_isFinerFunction_18 hl (by decide) rfl (fun ls hl => ?_)
  refine lv_aload_n hx hb dC4_isFinerFunction_20 rfl (lv_at hl 2 rfl) ?_
  refine va_get (D := (dC, dI)) (ci := 4) (v := .ref (ad 3)) (C := RC4) (T := TC4) (N := 10) hx hb hts inC4 hown hK hP 4 rfl rfl 2 (by decide) (hts _ mw_216) (fun _ h9 => h9) rfl dC4_isFinerFunction_21 ?_
  refine lv_iload_n hx hb dC4_isFinerFunction_24 rfl (lv_at hl 5 rfl) ?_
  obtain ⟨v3, ev3, h⟩ := Option.bind_eq_some_iff.mp h
  refine gcall_r (b := ad 3) (As := [.int (x3)]) (rest := []) C hK hP (ci := 3) (q0 := 3) rfl rfl (kC3_isToldLambda l dC dI ad cA σ x3 v3 ev3) (cwV 1 hts (gw mw_267 mw_268 mw_269 mw_184 mw_270) rfl rfl rfl hdC3_isToldLambda ⟨Nat.le_of_ble_eq_true rfl, Nat.le_of_ble_eq_true rfl⟩) rfl hl.1 rfl (Nat.le_of_ble_eq_true rfl) dC4_isFinerFunction_25 ⟨Nat.le_refl _, Nat.le_refl _⟩ ?_
  refine lv_if_eq (tgt := 43) hx hb dC4_isFinerFunction_28 (by decide) (fun c19 => ?_) (fun c19 => ?_)
  · have h := (if_pos c19).symm.trans h
    refine lv_iconst (v := (0 : Int32)) hx hb dC4_isFinerFunction_43 (by decide) ?_
    exact hend _ _ _ (Option.some.inj h) rfl dC4_isFinerFunction_44
  · have h := (if_neg c19).symm.trans h
    refine lv_iload hx hb dC4_isFinerFunction_31 (lv_at hl 1 rfl) ?_
    refine lv_iconst (v := (-1 : Int32)) hx hb dC4_isFinerFunction_33 (by decide) ?_
    refine lv_icmp_eq (tgt := 43) hx hb dC4_isFinerFunction_34 (by decide) (fun c18 => ?_) (fun c18 => ?_)
    · have h := (if_pos c18).symm.trans h
      refine lv_iconst (v := (0 : Int32)) hx hb dC4_isFinerFunction_43 (by decide) ?_
      exact hend _ _ _ (Option.some.inj h) rfl dC4_isFinerFunction_44
    · have h := (if_neg c18).symm.trans h
      refine lv_iload hx hb dC4_isFinerFunction_37 (lv_at hl 0 rfl) ?_
      refine lv_iconst (v := (-1 : Int32)) hx hb dC4_isFinerFunction_39 (by decide) ?_
      refine lv_icmp_ne (tgt := 45) hx hb dC4_isFinerFunction_40 (by decide) (fun c17 => ?_) (fun c17 => ?_)
      · have h := (if_neg c17).symm.trans h
        refine lv_aload_n hx hb dC4_isFinerFunction_45 rfl (lv_at hl 2 rfl) ?_
        refine va_get (D := (dC, dI)) (ci := 4) (v := .ref (ad 1)) (C := RC4) (T := TC4) (N := 10) hx hb hts inC4 hown hK hP 4 rfl rfl 0 (by decide) (hts _ mw_260) (fun _ h9 => h9) rfl dC4_isFinerFunction_46 ?_
        refine lv_iload_n hx hb dC4_isFinerFunction_49 rfl (lv_at hl 3 rfl) ?_
        refine lv_iload_n hx hb dC4_isFinerFunction_50 rfl (lv_at hl 4 rfl) ?_
        obtain ⟨v4, ev4, h⟩ := Option.bind_eq_some_iff.mp h
        refine gcall_r (b := ad 1) (As := [.int (x1), .int (x2)]) (rest := []) C hK hP (ci := 1) (q0 := 1) rfl rfl (kC1_isA l dC dI ad cA σ x1 x2 v4 ev4) (cwV 2 hts (gw mw_266 mw_28 mw_29 mw_7 mw_30) rfl rfl rfl hdC1_isA ⟨Nat.le_of_ble_eq_true rfl, Nat.le_of_ble_eq_true rfl⟩) rfl hl.1 rfl (Nat.le_of_ble_eq_true rfl) dC4_isFinerFunction_51 ⟨Nat.le_refl _, Nat.le_refl _⟩ ?_
        refine lv_if_ne (tgt := 83) hx hb dC4_isFinerFunction_54 (by decide) (fun c16 => ?_) (fun c16 => ?_)
        · have h := (if_neg c16).symm.trans h
          refine lv_iconst (v := (0 : Int32)) hx hb dC4_isFinerFunction_83 (by decide) ?_
          exact hend _ _ _ (Option.some.inj h) rfl dC4_isFinerFunction_84
        · have h := (if_pos c16).symm.trans h
          refine lv_aload_n hx hb dC4_isFinerFunction_57 rfl (lv_at hl 2 rfl) ?_
          refine va_get (D := (dC, dI)) (ci := 4) (v := .ref (ad 1)) (C := RC4) (T := TC4) (N := 10) hx hb hts inC4 hown hK hP 4 rfl rfl 0 (by decide) (hts _ mw_260) (fun _ h9 => h9) rfl dC4_isFinerFunction_58 ?_
          refine lv_iload_n hx hb dC4_isFinerFunction_61 rfl (lv_at hl 4 rfl) ?_
          refine lv_iload_n hx hb dC4_isFinerFunction_62 rfl (lv_at hl 3 rfl) ?_
          obtain ⟨v5, ev5, h⟩ := Option.bind_eq_some_iff.mp h
          refine gcall_r (b := ad 1) (As := [.int (x2), .int (x1)]) (rest := []) C hK hP (ci := 1) (q0 := 1) rfl rfl (kC1_isA l dC dI ad cA σ x2 x1 v5 ev5) (cwV 2 hts (gw mw_266 mw_28 mw_29 mw_7 mw_30) rfl rfl rfl hdC1_isA ⟨Nat.le_of_ble_eq_true rfl, Nat.le_of_ble_eq_true rfl⟩) rfl hl.1 rfl (Nat.le_of_ble_eq_true rfl) dC4_isFinerFunction_63 ⟨Nat.le_refl _, Nat.le_refl _⟩ ?_
          refine lv_if_ne (tgt := 83) hx hb dC4_isFinerFunction_66 (by decide) (fun c15 => ?_) (fun c15 => ?_)
          · have h := (if_neg c15).symm.trans h
            refine lv_iconst (v := (0 : Int32)) hx hb dC4_isFinerFunction_83 (by decide) ?_
            exact hend _ _ _ (Option.some.inj h) rfl dC4_isFinerFunction_84
          · have h := (if_pos c15).symm.trans h
            refine lv_aload_n hx hb dC4_isFinerFunction_69 rfl (lv_at hl 2 rfl) ?_
            refine va_get (D := (dC, dI)) (ci := 4) (v := .ref (ad 2)) (C := RC4) (T := TC4) (N := 10) hx hb hts inC4 hown hK hP 4 rfl rfl 1 (by decide) (hts _ mw_206) (fun _ h9 => h9) rfl dC4_isFinerFunction_70 ?_
            refine lv_iload hx hb dC4_isFinerFunction_73 (lv_at hl 1 rfl) ?_
            refine lv_iload hx hb dC4_isFinerFunction_75 (lv_at hl 0 rfl) ?_
            obtain ⟨v6, ev6, h⟩ := Option.bind_eq_some_iff.mp h
            refine gcall_r (b := ad 2) (As := [.int (v1), .int (v2)]) (rest := []) C hK hP (ci := 2) (q0 := 2) rfl rfl (kC2_sameParameters l dC dI ad cA σ v1 v2 v6 ev6) (cwV 2 hts (gw mw_271 mw_111 mw_112 mw_40 mw_113) rfl rfl rfl hdC2_sameParameters ⟨Nat.le_of_ble_eq_true rfl, Nat.le_of_ble_eq_true rfl⟩) rfl hl.1 rfl (Nat.le_of_ble_eq_true rfl) dC4_isFinerFunction_77 ⟨Nat.le_refl _, Nat.le_refl _⟩ ?_
            refine lv_if_ne (tgt := 85) hx hb dC4_isFinerFunction_80 (by decide) (fun c14 => ?_) (fun c14 => ?_)
            · have h := (if_neg c14).symm.trans h
              refine lv_aload_n hx hb dC4_isFinerFunction_85 rfl (lv_at hl 2 rfl) ?_
              refine va_get (D := (dC, dI)) (ci := 4) (v := .ref (ad 2)) (C := RC4) (T := TC4) (N := 10) hx hb hts inC4 hown hK hP 4 rfl rfl 1 (by decide) (hts _ mw_206) (fun _ h9 => h9) rfl dC4_isFinerFunction_86 ?_
              refine lv_iload hx hb dC4_isFinerFunction_89 (lv_at hl 0 rfl) ?_
              obtain ⟨v7, ev7, h⟩ := Option.bind_eq_some_iff.mp h
              refine gcall_r (b := ad 2) (As := [.int (v2)]) (rest := []) C hK hP (ci := 2) (q0 := 2) rfl rfl (kC2_hasResult l dC dI ad cA σ v2 v7 ev7) (cwV 1 hts (gw mw_238 mw_239 mw_240 mw_40 mw_241) rfl rfl rfl hdC2_hasResult ⟨Nat.le_of_ble_eq_true rfl, Nat.le_of_ble_eq_true rfl⟩) rfl hl.1 rfl (Nat.le_of_ble_eq_true rfl) dC4_isFinerFunction_91 ⟨Nat.le_refl _, Nat.le_refl _⟩ ?_
              refine lv_if_eq (tgt := 128) hx hb dC4_isFinerFunction_94 (by decide) (fun c13 => ?_) (fun c13 => ?_)
              · have h := (if_pos c13).symm.trans h
                refine lv_iconst (v := (1 : Int32)) hx hb dC4_isFinerFunction_128 (by decide) ?_
                refine lv_goto (tgt := 133) hx hb dC4_isFinerFunction_129 (by decide) ?_
                exact hend _ _ _ (Option.some.inj h) rfl dC4_isFinerFunction_133
              · have h := (if_neg c13).symm.trans h
                refine lv_aload_n hx hb dC4_isFinerFunction_97 rfl (lv_at hl 2 rfl) ?_
                refine va_get (D := (dC, dI)) (ci := 4) (v := .ref (ad 2)) (C := RC4) (T := TC4) (N := 10) hx hb hts inC4 hown hK hP 4 rfl rfl 1 (by decide) (hts _ mw_206) (fun _ h9 => h9) rfl dC4_isFinerFunction_98 ?_
                refine lv_iload hx hb dC4_isFinerFunction_101 (lv_at hl 1 rfl) ?_
                obtain ⟨v8, ev8, h⟩ := Option.bind_eq_some_iff.mp h
                refine gcall_r (b := ad 2) (As := [.int (v1)]) (rest := []) C hK hP (ci := 2) (q0 := 2) rfl rfl (kC2_hasResult l dC dI ad cA σ v1 v8 ev8) (cwV 1 hts (gw mw_238 mw_239 mw_240 mw_40 mw_241) rfl rfl rfl hdC2_hasResult ⟨Nat.le_of_ble_eq_true rfl, Nat.le_of_ble_eq_true rfl⟩) rfl hl.1 rfl (Nat.le_of_ble_eq_true rfl) dC4_isFinerFunction_103 ⟨Nat.le_refl _, Nat.le_refl _⟩ ?_
                refine lv_if_eq (tgt := 132) hx hb dC4_isFinerFunction_106 (by decide) (fun c12 => ?_) (fun c12 => ?_)
                · have h := (if_pos c12).symm.trans h
                  refine lv_iconst (v := (0 : Int32)) hx hb dC4_isFinerFunction_132 (by decide) ?_
                  exact hend _ _ _ (Option.some.inj h) rfl dC4_isFinerFunction_133
                · have h := (if_neg c12).symm.trans h
                  refine lv_aload_n hx hb dC4_isFinerFunction_109 rfl (lv_at hl 2 rfl) ?_
                  refine lv_iload hx hb dC4_isFinerFunction_110 (lv_at hl 1 rfl) ?_
                  refine lv_iload hx hb dC4_isFinerFunction_112 (lv_at hl 0 rfl) ?_
                  refine lv_aload_n hx hb dC4_isFinerFunction_114 rfl (lv_at hl 2 rfl) ?_
                  refine va_get (D := (dC, dI)) (ci := 4) (v := .ref (ad 3)) (C := RC4) (T := TC4) (N := 10) hx hb hts inC4 hown hK hP 4 rfl rfl 2 (by decide) (hts _ mw_216) (fun _ h9 => h9) rfl dC4_isFinerFunction_115 ?_
                  refine lv_iload_n hx hb dC4_isFinerFunction_118 rfl (lv_at hl 5 rfl) ?_
                  obtain ⟨v9, ev9, h⟩ := Option.bind_eq_some_iff.mp h
                  refine gcall_r (b := ad 3) (As := [.int (x3)]) (rest := [.int (v2), .int (v1), .ref (ad 4)]) C hK hP (ci := 3) (q0 := 3) rfl rfl (kC3_valueOf l dC dI ad cA σ x3 v9 ev9) (cwV 1 hts (gw mw_272 mw_273 mw_274 mw_184 mw_275) rfl rfl rfl hdC3_valueOf ⟨Nat.le_of_ble_eq_true rfl, Nat.le_of_ble_eq_true rfl⟩) rfl hl.1 rfl (Nat.le_of_ble_eq_true rfl) dC4_isFinerFunction_119 ⟨Nat.le_refl _, Nat.le_refl _⟩ ?_
                  obtain ⟨v10, ev10, h⟩ := Option.bind_eq_some_iff.mp h
                  refine gcall_r (b := ad 4) (As := [.int (v1), .int (v2), .int (v9)]) (rest := []) C hK hP (ci := 4) (q0 := 4) rfl rfl (kC4_isFinerResult l dC dI ad cA σ v1 v2 v9 v10 ev10) (cwV 3 hts (gw mw_285 mw_286 mw_287 mw_204 mw_288) rfl rfl rfl hdC4_isFinerResult ⟨Nat.le_of_ble_eq_true rfl, Nat.le_of_ble_eq_true rfl⟩) rfl hl.1 rfl (Nat.le_of_ble_eq_true rfl) dC4_isFinerFunction_122 ⟨Nat.le_refl _, Nat.le_refl _⟩ ?_
                  refine lv_if_eq (tgt := 132) hx hb dC4_isFinerFunction_125 (by decide) (fun c11 => ?_) (fun c11 => ?_)
                  · have h := (if_pos c11).symm.trans h
                    refine lv_iconst (v := (0 : Int32)) hx hb dC4_isFinerFunction_132 (by decide) ?_
                    exact hend _ _ _ (Option.some.inj h) rfl dC4_isFinerFunction_133
                  · have h := (if_neg c11).symm.trans h
                    refine lv_iconst (v := (1 : Int32)) hx hb dC4_isFinerFunction_128 (by decide) ?_
                    refine lv_goto (tgt := 133) hx hb dC4_isFinerFunction_129 (by decide) ?_
                    exact hend _ _ _ (Option.some.inj h) rfl dC4_isFinerFunction_133
            · have h := (if_pos c14).symm.trans h
              refine lv_iconst (v := (0 : Int32)) hx hb dC4_isFinerFunction_83 (by decide) ?_
              exact hend _ _ _ (Option.some.inj h) rfl dC4_isFinerFunction_84
      · have h := (if_pos c17).symm.trans h
        refine lv_iconst (v := (0 : Int32)) hx hb dC4_isFinerFunction_43 (by decide) ?_
        exact hend _ _ _ (Option.some.inj h) rfl dC4_isFinerFunction_44
set_option maxHeartbeats 4000000 in
set_option maxRecDepth 100000 in
theorem kC4_isFinerFunction (l : Launch) (dC : Nat → ClassId) (dI : Nat → Nat → Nat) (ad : Nat → Nat) (cA : Nat → ClassId) (σ : xSt) (x1 : Int32) (x2 : Int32) (x3 : Int32) (r : Int32) (h : fC4_isFinerFunction σ x1 x2 x3 = some r) : Met l yC4_isFinerFunction wsC4_isFinerFunction rm_C4_isFinerFunction (va_Pc [.ref (ad 4), .int (x1), .int (x2), .int (x3)] (fun U => va_P (dC, dI) vwC (xW ad cA σ) U.heap ∧ va_K (dC, dI) vwC (xT cA) U)) (vp_Si (fun v => v = r)) 0 0 (fun _ => False) := by
  refine Met.ofW (cc := cC4_isFinerFunction) (maxL := 6) (ret := (some .boolean)) (by decide) rfl ?_
  intro p e s m args below meth c s₁ B hml hv
  obtain ⟨rfl, hP, hK⟩ := hv
  have hr := B.returns
  have hlocks := B.notSynchronized
  have hl := lv_entry ([.ref (ad 4), .int (x1), .int (x2), .int (x3)]) (n := 6) (Nat.le_of_ble_eq_true rfl)
  rw [lg_entry_eq]
  exact wC4_isFinerFunction ⟨B.exec, B.bytes, hml, findClass_of_methodNamed B.named, fun w h => atoms_spec (ws := wsC4_isFinerFunction) B.pre w (List.mem_cons_of_mem _ h)⟩ hK hP (fun v pc ls hv hn hd => W.zret (v := v) B.exec B.bytes hr hn (fun t ht hW => ⟨v, rfl, hv, ht⟩) (fun q hq => absurd hq List.not_mem_nil) hd) _ hl h
abbrev rm_C4_isAsSpecialAs : Room := { frames := 3, cells := 0, slots := 0, locals := 75 }
def fC4_isAsSpecialAs_b84 (k17 : Int32 → Int32 → Int32 → Int32 → Option Int32) (σ : xSt) (x1 : Int32) (x2 : Int32) (x3 : Int32) (x4 : Int32) : Option Int32 :=
  k17 x1 x2 x3 (x4 + (1 : Int32))
set_option maxHeartbeats 4000000 in
set_option maxRecDepth 100000 in
theorem wC4_isAsSpecialAs_b84 {p : Program} {l : Launch} {e : Env} {s : State} {m : MethodId} {args : Array Value} {below : List Frame} {meth : Method} {c : Code} {Q : State → Prop} {dC : Nat → ClassId} {dI : Nat → Nat → Nat} {ad : Nat → Nat} {cA : Nat → ClassId} {r : Int32} {H : Heap} {locs : List Loc} {σ : xSt} (C : CallFix p m c cC4_isAsSpecialAs 7 s args wAll RC4) (hK : va_K (dC, dI) vwC (xT cA) s) (hP : va_P (dC, dI) vwC (xW ad cA σ) H) (hend : ∀ (v : Int32) (pc : Nat) (ls : Array Slot), v = r → narrow .boolean (.int v) = .int v → decode cC4_isAsSpecialAs pc = .ok (.ireturn, 1) → W p l e rm_C4_isAsSpecialAs s m args below meth c H locs 0 0 Q (F0 m pc ls [.int v])) {k17 : Int32 → Int32 → Int32 → Int32 → Option Int32} (hk17 : ∀ (x1 : Int32) (x2 : Int32) (x3 : Int32) (x4 : Int32) (ls : Array Slot), lv_has ls 7 [(0, .ref (ad 4)), (1, .int (x1)), (2, .int (x2)), (3, .int (x3)), (4, .int (x4))] → k17 x1 x2 x3 x4 = some r → W p l e rm_C4_isAsSpecialAs s m args below meth c H locs 0 0 Q (F0 m 17 ls [])) :
    ∀ (x1 : Int32) (x2 : Int32) (x3 : Int32) (x4 : Int32) (ls : Array Slot), lv_has ls 7 [(0, .ref (ad 4)), (1, .int (x1)), (2, .int (x2)), (3, .int (x3)), (4, .int (x4))] → fC4_isAsSpecialAs_b84 k17 σ x1 x2 x3 x4 = some r → W p l e rm_C4_isAsSpecialAs s m args below meth c H locs 0 0 Q (F0 m 84 ls []) := by
  obtain ⟨hx, hb, hml, hown, hts⟩ := id C
  intro x1 x2 x3 x4 ls hl h
  unfold fC4_isAsSpecialAs_b84 at h
  refine lv_iinc (v := x4 + (1 : Int32)) (lv' := [(4, .int (x4 + (1 : Int32))), (0, .ref (ad 4)), (1, .int (x1)), (2, .int (x2)), (3, .int (x3))]) hx hb dC4_isAsSpecialAs_84 hl (k := 4) rfl rfl (by decide) rfl (fun ls hl => ?_)
  refine lv_goto (tgt := 17) hx hb dC4_isAsSpecialAs_87 (by decide) ?_
  exact hk17 _ _ _ _ _ (lv_sub hl [1, 2, 3, 4, 0] rfl) h
def fC4_isAsSpecialAs_b17 (σ : xSt) : Nat → Int32 → Int32 → Int32 → Int32 → Option Int32
  | 0, _, _, _, _ => none
  | n + 1, x1, x2, x3, x4 =>
    (fC3_size σ).bind fun v1 =>
    if v1 ≤ x4 then
      if x3 = 0 then
        some (1 : Int32)
      else
        (fC2_spreadType σ x1).bind fun v2 =>
        (fC2_spreadType σ x2).bind fun v3 =>
        (fC1_isA σ v2 v3).bind fun v4 =>
        if v4 = 0 then
          some (0 : Int32)
        else
          some (1 : Int32)
    else
      (fC2_facing σ x1 x4 x3).bind fun v7 =>
      (fC2_facing σ x2 x4 x3).bind fun v8 =>
      (fC1_isA σ v7 v8).bind fun v9 =>
      if v9 = 0 then
        (fC4_isFinerFunction σ v7 v8 x4).bind fun v10 =>
        if v10 = 0 then
          some (0 : Int32)
        else
          fC4_isAsSpecialAs_b84 (fC4_isAsSpecialAs_b17 σ n) σ x1 x2 x3 x4
      else
        fC4_isAsSpecialAs_b84 (fC4_isAsSpecialAs_b17 σ n) σ x1 x2 x3 x4
set_option maxHeartbeats 4000000 in
set_option maxRecDepth 100000 in
theorem wC4_isAsSpecialAs_b17 {p : Program} {l : Launch} {e : Env} {s : State} {m : MethodId} {args : Array Value} {below : List Frame} {meth : Method} {c : Code} {Q : State → Prop} {dC : Nat → ClassId} {dI : Nat → Nat → Nat} {ad : Nat → Nat} {cA : Nat → ClassId} {r : Int32} {H : Heap} {locs : List Loc} {σ : xSt} (C : CallFix p m c cC4_isAsSpecialAs 7 s args wAll RC4) (hK : va_K (dC, dI) vwC (xT cA) s) (hP : va_P (dC, dI) vwC (xW ad cA σ) H) (hend : ∀ (v : Int32) (pc : Nat) (ls : Array Slot), v = r → narrow .boolean (.int v) = .int v → decode cC4_isAsSpecialAs pc = .ok (.ireturn, 1) → W p l e rm_C4_isAsSpecialAs s m args below meth c H locs 0 0 Q (F0 m pc ls [.int v])) :
    ∀ (n : Nat) (x1 : Int32) (x2 : Int32) (x3 : Int32) (x4 : Int32) (ls : Array Slot), lv_has ls 7 [(0, .ref (ad 4)), (1, .int (x1)), (2, .int (x2)), (3, .int (x3)), (4, .int (x4))] → fC4_isAsSpecialAs_b17 σ n x1 x2 x3 x4 = some r → W p l e rm_C4_isAsSpecialAs s m args below meth c H locs 0 0 Q (F0 m 17 ls []) := by
  obtain ⟨hx, hb, hml, hown, hts⟩ := id C
  intro n
  induction n with
  | zero =>
    intro x1 x2 x3 x4 ls hl h
    rw [fC4_isAsSpecialAs_b17] at h
    cases h
  | succ n ih =>
    intro x1 x2 x3 x4 ls hl h
    rw [fC4_isAsSpecialAs_b17] at h
    refine lv_iload hx hb dC4_isAsSpecialAs_17 (lv_at hl 4 rfl) ?_
    refine lv_aload_n hx hb dC4_isAsSpecialAs_19 rfl (lv_at hl 0 rfl) ?_
    refine va_get (D := (dC, dI)) (ci := 4) (v := .ref (ad 3)) (C := RC4) (T := TC4) (N := 10) hx hb hts inC4 hown hK hP 4 rfl rfl 2 (by decide) (hts _ mw_216) (fun _ h9 => h9) rfl dC4_isAsSpecialAs_20 ?_
    obtain ⟨v1, ev1, h⟩ := Option.bind_eq_some_iff.mp h
    refine gcall_r (b := ad 3) (As := []) (rest := [.int (x4)]) C hK hP (ci := 3) (q0 := 3) rfl rfl (kC3_size l dC dI ad cA σ v1 ev1) (cwV 0 hts (gw mw_217 mw_218 mw_219 mw_184 mw_220) rfl rfl rfl hdC3_size ⟨Nat.le_of_ble_eq_true rfl, Nat.le_of_ble_eq_true rfl⟩) rfl hl.1 rfl (Nat.le_of_ble_eq_true rfl) dC4_isAsSpecialAs_23 ⟨Nat.le_refl _, Nat.le_refl _⟩ ?_
    refine lv_icmp_ge (tgt := 90) hx hb dC4_isAsSpecialAs_26 (by decide) (fun c13 => ?_) (fun c13 => ?_)
    · have h := (if_pos c13).symm.trans h
      refine lv_iload_n hx hb dC4_isAsSpecialAs_90 rfl (lv_at hl 3 rfl) ?_
      refine lv_if_eq (tgt := 120) hx hb dC4_isAsSpecialAs_91 (by decide) (fun c6 => ?_) (fun c6 => ?_)
      · have h := (if_pos c6).symm.trans h
        refine lv_iconst (v := (1 : Int32)) hx hb dC4_isAsSpecialAs_120 (by decide) ?_
        refine lv_goto (tgt := 125) hx hb dC4_isAsSpecialAs_121 (by decide) ?_
        exact hend _ _ _ (Option.some.inj h) rfl dC4_isAsSpecialAs_125
      · have h := (if_neg c6).symm.trans h
        refine lv_aload_n hx hb dC4_isAsSpecialAs_94 rfl (lv_at hl 0 rfl) ?_
        refine va_get (D := (dC, dI)) (ci := 4) (v := .ref (ad 1)) (C := RC4) (T := TC4) (N := 10) hx hb hts inC4 hown hK hP 4 rfl rfl 0 (by decide) (hts _ mw_260) (fun _ h9 => h9) rfl dC4_isAsSpecialAs_95 ?_
        refine lv_aload_n hx hb dC4_isAsSpecialAs_98 rfl (lv_at hl 0 rfl) ?_
        refine va_get (D := (dC, dI)) (ci := 4) (v := .ref (ad 2)) (C := RC4) (T := TC4) (N := 10) hx hb hts inC4 hown hK hP 4 rfl rfl 1 (by decide) (hts _ mw_206) (fun _ h9 => h9) rfl dC4_isAsSpecialAs_99 ?_
        refine lv_iload_n hx hb dC4_isAsSpecialAs_102 rfl (lv_at hl 1 rfl) ?_
        obtain ⟨v2, ev2, h⟩ := Option.bind_eq_some_iff.mp h
        refine gcall_r (b := ad 2) (As := [.int (x1)]) (rest := [.ref (ad 1)]) C hK hP (ci := 2) (q0 := 2) rfl rfl (kC2_spreadType l dC dI ad cA σ x1 v2 ev2) (cwV 1 hts (gw mw_262 mw_263 mw_264 mw_40 mw_265) rfl rfl rfl hdC2_spreadType ⟨Nat.le_of_ble_eq_true rfl, Nat.le_of_ble_eq_true rfl⟩) rfl hl.1 rfl (Nat.le_of_ble_eq_true rfl) dC4_isAsSpecialAs_103 ⟨Nat.le_refl _, Nat.le_refl _⟩ ?_
        refine lv_aload_n hx hb dC4_isAsSpecialAs_106 rfl (lv_at hl 0 rfl) ?_
        refine va_get (D := (dC, dI)) (ci := 4) (v := .ref (ad 2)) (C := RC4) (T := TC4) (N := 10) hx hb hts inC4 hown hK hP 4 rfl rfl 1 (by decide) (hts _ mw_206) (fun _ h9 => h9) rfl dC4_isAsSpecialAs_107 ?_
        refine lv_iload_n hx hb dC4_isAsSpecialAs_110 rfl (lv_at hl 2 rfl) ?_
        obtain ⟨v3, ev3, h⟩ := Option.bind_eq_some_iff.mp h
        refine gcall_r (b := ad 2) (As := [.int (x2)]) (rest := [.int (v2), .ref (ad 1)]) C hK hP (ci := 2) (q0 := 2) rfl rfl (kC2_spreadType l dC dI ad cA σ x2 v3 ev3) (cwV 1 hts (gw mw_262 mw_263 mw_264 mw_40 mw_265) rfl rfl rfl hdC2_spreadType ⟨Nat.le_of_ble_eq_true rfl, Nat.le_of_ble_eq_true rfl⟩) rfl hl.1 rfl (Nat.le_of_ble_eq_true rfl) dC4_isAsSpecialAs_111 ⟨Nat.le_refl _, Nat.le_refl _⟩ ?_
        obtain ⟨v4, ev4, h⟩ := Option.bind_eq_some_iff.mp h
        refine gcall_r (b := ad 1) (As := [.int (v2), .int (v3)]) (rest := []) C hK hP (ci := 1) (q0 := 1) rfl rfl (kC1_isA l dC dI ad cA σ v2 v3 v4 ev4) (cwV 2 hts (gw mw_266 mw_28 mw_29 mw_7 mw_30) rfl rfl rfl hdC1_isA ⟨Nat.le_of_ble_eq_true rfl, Nat.le_of_ble_eq_true rfl⟩) rfl hl.1 rfl (Nat.le_of_ble_eq_true rfl) dC4_isAsSpecialAs_114 ⟨Nat.le_refl _, Nat.le_refl _⟩ ?_
        refine lv_if_eq (tgt := 124) hx hb dC4_isAsSpecialAs_117 (by decide) (fun c5 => ?_) (fun c5 => ?_)
        · have h := (if_pos c5).symm.trans h
          refine lv_iconst (v := (0 : Int32)) hx hb dC4_isAsSpecialAs_124 (by decide) ?_
          exact hend _ _ _ (Option.some.inj h) rfl dC4_isAsSpecialAs_125
        · have h := (if_neg c5).symm.trans h
          refine lv_iconst (v := (1 : Int32)) hx hb dC4_isAsSpecialAs_120 (by decide) ?_
          refine lv_goto (tgt := 125) hx hb dC4_isAsSpecialAs_121 (by decide) ?_
          exact hend _ _ _ (Option.some.inj h) rfl dC4_isAsSpecialAs_125
    · have h := (if_neg c13).symm.trans h
      refine lv_aload_n hx hb dC4_isAsSpecialAs_29 rfl (lv_at hl 0 rfl) ?_
      refine va_get (D := (dC, dI)) (ci := 4) (v := .ref (ad 2)) (C := RC4) (T := TC4) (N := 10) hx hb hts inC4 hown hK hP 4 rfl rfl 1 (by decide) (hts _ mw_206) (fun _ h9 => h9) rfl dC4_isAsSpecialAs_30 ?_
      refine lv_iload_n hx hb dC4_isAsSpecialAs_33 rfl (lv_at hl 1 rfl) ?_
      refine lv_iload hx hb dC4_isAsSpecialAs_34 (lv_at hl 4 rfl) ?_
      refine lv_iload_n hx hb dC4_isAsSpecialAs_36 rfl (lv_at hl 3 rfl) ?_
      obtain ⟨v7, ev7, h⟩ := Option.bind_eq_some_iff.mp h
      refine gcall_r (b := ad 2) (As := [.int (x1), .int (x4), .int (x3)]) (rest := []) C hK hP (ci := 2) (q0 := 2) rfl rfl (kC2_facing l dC dI ad cA σ x1 x4 x3 v7 ev7) (cwV 3 hts (gw mw_229 mw_230 mw_231 mw_40 mw_232) rfl rfl rfl hdC2_facing ⟨Nat.le_of_ble_eq_true rfl, Nat.le_of_ble_eq_true rfl⟩) rfl hl.1 rfl (Nat.le_of_ble_eq_true rfl) dC4_isAsSpecialAs_37 ⟨Nat.le_refl _, Nat.le_refl _⟩ ?_
      refine lv_istore (lv' := [(5, .int (v7)), (0, .ref (ad 4)), (1, .int (x1)), (2, .int (x2)), (3, .int (x3)), (4, .int (x4))]) hx hb dC4_isAsSpecialAs_40 hl (by decide) rfl (fun ls hl => ?_)
      refine lv_aload_n hx hb dC4_isAsSpecialAs_42 rfl (lv_at hl 1 rfl) ?_
      refine va_get (D := (dC, dI)) (ci := 4) (v := .ref (ad 2)) (C := RC4) (T := TC4) (N := 10) hx hb hts inC4 hown hK hP 4 rfl rfl 1 (by decide) (hts _ mw_206) (fun _ h9 => h9) rfl dC4_isAsSpecialAs_43 ?_
      refine lv_iload_n hx hb dC4_isAsSpecialAs_46 rfl (lv_at hl 3 rfl) ?_
      refine lv_iload hx hb dC4_isAsSpecialAs_47 (lv_at hl 5 rfl) ?_
      refine lv_iload_n hx hb dC4_isAsSpecialAs_49 rfl (lv_at hl 4 rfl) ?_
      obtain ⟨v8, ev8, h⟩ := Option.bind_eq_some_iff.mp h
      refine gcall_r (b := ad 2) (As := [.int (x2), .int (x4), .int (x3)]) (rest := []) C hK hP (ci := 2) (q0 := 2) rfl rfl (kC2_facing l dC dI ad cA σ x2 x4 x3 v8 ev8) (cwV 3 hts (gw mw_229 mw_230 mw_231 mw_40 mw_232) rfl rfl rfl hdC2_facing ⟨Nat.le_of_ble_eq_true rfl, Nat.le_of_ble_eq_true rfl⟩) rfl hl.1 rfl (Nat.le_of_ble_eq_true rfl) dC4_isAsSpecialAs_50 ⟨Nat.le_refl _, Nat.le_refl _⟩ ?_
      refine lv_istore (lv' := [(6, .int (v8)), (5, .int (v7)), (0, .ref (ad 4)), (1, .int (x1)), (2, .int (x2)), (3, .int (x3)), (4, .int (x4))]) hx hb dC4_isAsSpecialAs_53 hl (by decide) rfl (fun ls hl => ?_)
      refine lv_aload_n hx hb dC4_isAsSpecialAs_55 rfl (lv_at hl 2 rfl) ?_
      refine va_get (D := (dC, dI)) (ci := 4) (v := .ref (ad 1)) (C := RC4) (T := TC4) (N := 10) hx hb hts inC4 hown hK hP 4 rfl rfl 0 (by decide) (hts _ mw_260) (fun _ h9 => h9) rfl dC4_isAsSpecialAs_56 ?_
      refine lv_iload hx hb dC4_isAsSpecialAs_59 (lv_at hl 1 rfl) ?_
      refine lv_iload hx hb dC4_isAsSpecialAs_61 (lv_at hl 0 rfl) ?_
      obtain ⟨v9, ev9, h⟩ := Option.bind_eq_some_iff.mp h
      refine gcall_r (b := ad 1) (As := [.int (v7), .int (v8)]) (rest := []) C hK hP (ci := 1) (q0 := 1) rfl rfl (kC1_isA l dC dI ad cA σ v7 v8 v9 ev9) (cwV 2 hts (gw mw_266 mw_28 mw_29 mw_7 mw_30) rfl rfl rfl hdC1_isA ⟨Nat.le_of_ble_eq_true rfl, Nat.le_of_ble_eq_true rfl⟩) rfl hl.1 rfl (Nat.le_of_ble_eq_true rfl) dC4_isAsSpecialAs_63 ⟨Nat.le_refl _, Nat.le_refl _⟩ ?_
      refine lv_if_ne (tgt := 84) hx hb dC4_isAsSpecialAs_66 (by decide) (fun c12 => ?_) (fun c12 => ?_)
      · have h := (if_neg c12).symm.trans h
        exact wC4_isAsSpecialAs_b84 C hK hP hend ih _ _ _ _ _ (lv_sub hl [2, 3, 4, 5, 6] rfl) h
      · have h := (if_pos c12).symm.trans h
        refine lv_aload_n hx hb dC4_isAsSpecialAs_69 rfl (lv_at hl 2 rfl) ?_
        refine lv_iload hx hb dC4_isAsSpecialAs_70 (lv_at hl 1 rfl) ?_
        refine lv_iload hx hb dC4_isAsSpecialAs_72 (lv_at hl 0 rfl) ?_
        refine lv_iload hx hb dC4_isAsSpecialAs_74 (lv_at hl 6 rfl) ?_
        obtain ⟨v10, ev10, h⟩ := Option.bind_eq_some_iff.mp h
        refine gcall_r (b := ad 4) (As := [.int (v7), .int (v8), .int (x4)]) (rest := []) C hK hP (ci := 4) (q0 := 4) rfl rfl (kC4_isFinerFunction l dC dI ad cA σ v7 v8 x4 v10 ev10) (cwV 3 hts (gw mw_289 mw_290 mw_291 mw_204 mw_292) rfl rfl rfl hdC4_isFinerFunction ⟨Nat.le_of_ble_eq_true rfl, Nat.le_of_ble_eq_true rfl⟩) rfl hl.1 rfl (Nat.le_of_ble_eq_true rfl) dC4_isAsSpecialAs_76 ⟨Nat.le_refl _, Nat.le_refl _⟩ ?_
        refine lv_if_ne (tgt := 84) hx hb dC4_isAsSpecialAs_79 (by decide) (fun c11 => ?_) (fun c11 => ?_)
        · have h := (if_neg c11).symm.trans h
          exact wC4_isAsSpecialAs_b84 C hK hP hend ih _ _ _ _ _ (lv_sub hl [2, 3, 4, 5, 6] rfl) h
        · have h := (if_pos c11).symm.trans h
          refine lv_iconst (v := (0 : Int32)) hx hb dC4_isAsSpecialAs_82 (by decide) ?_
          exact hend _ _ _ (Option.some.inj h) rfl dC4_isAsSpecialAs_83
def fC4_isAsSpecialAs_b13 (σ : xSt) (x1 : Int32) (x2 : Int32) (s0 : Int32) : Option Int32 :=
  fC4_isAsSpecialAs_b17 σ gF x1 x2 s0 (0 : Int32)
set_option maxHeartbeats 4000000 in
set_option maxRecDepth 100000 in
theorem wC4_isAsSpecialAs_b13 {p : Program} {l : Launch} {e : Env} {s : State} {m : MethodId} {args : Array Value} {below : List Frame} {meth : Method} {c : Code} {Q : State → Prop} {dC : Nat → ClassId} {dI : Nat → Nat → Nat} {ad : Nat → Nat} {cA : Nat → ClassId} {r : Int32} {H : Heap} {locs : List Loc} {σ : xSt} (C : CallFix p m c cC4_isAsSpecialAs 7 s args wAll RC4) (hK : va_K (dC, dI) vwC (xT cA) s) (hP : va_P (dC, dI) vwC (xW ad cA σ) H) (hend : ∀ (v : Int32) (pc : Nat) (ls : Array Slot), v = r → narrow .boolean (.int v) = .int v → decode cC4_isAsSpecialAs pc = .ok (.ireturn, 1) → W p l e rm_C4_isAsSpecialAs s m args below meth c H locs 0 0 Q (F0 m pc ls [.int v])) :
    ∀ (x1 : Int32) (x2 : Int32) (s0 : Int32) (ls : Array Slot), lv_has ls 7 [(0, .ref (ad 4)), (1, .int (x1)), (2, .int (x2))] → fC4_isAsSpecialAs_b13 σ x1 x2 s0 = some r → W p l e rm_C4_isAsSpecialAs s m args below meth c H locs 0 0 Q (F0 m 13 ls [.int (s0)]) := by
  obtain ⟨hx, hb, hml, hown, hts⟩ := id C
  intro x1 x2 s0 ls hl h
  unfold fC4_isAsSpecialAs_b13 at h
  refine lv_istore_n (lv' := [(3, .int (s0)), (0, .ref (ad 4)), (1, .int (x1)), (2, .int (x2))]) hx hb dC4_isAsSpecialAs_13 rfl hl (by decide) rfl (fun ls hl => ?_)
  refine lv_iconst (v := (0 : Int32)) hx hb dC4_isAsSpecialAs_14 (by decide) ?_
  refine lv_istore (lv' := [(4, .int ((0 : Int32))), (3, .int (s0)), (0, .ref (ad 4)), (1, .int (x1)), (2, .int (x2))]) hx hb dC4_isAsSpecialAs_15 hl (by decide) rfl (fun ls hl => ?_)
  exact wC4_isAsSpecialAs_b17 C hK hP hend _ _ _ _ _ _ (lv_sub hl [2, 3, 4, 1, 0] rfl) h
def fC4_isAsSpecialAs (σ : xSt) (x1 : Int32) (x2 : Int32) : Option Int32 :=
  if (σ.1 4 9) = (3 : Int32) then
    fC4_isAsSpecialAs_b13 σ x1 x2 (1 : Int32)
  else
    fC4_isAsSpecialAs_b13 σ x1 x2 (0 : Int32)
set_option maxHeartbeats 4000000 in
set_option maxRecDepth 100000 in
theorem wC4_isAsSpecialAs {p : Program} {l : Launch} {e : Env} {s : State} {m : MethodId} {args : Array Value} {below : List Frame} {meth : Method} {c : Code} {Q : State → Prop} {dC : Nat → ClassId} {dI : Nat → Nat → Nat} {ad : Nat → Nat} {cA : Nat → ClassId} {r : Int32} {H : Heap} {locs : List Loc} {σ : xSt} (C : CallFix p m c cC4_isAsSpecialAs 7 s args wAll RC4) (hK : va_K (dC, dI) vwC (xT cA) s) (hP : va_P (dC, dI) vwC (xW ad cA σ) H) (hend : ∀ (v : Int32) (pc : Nat) (ls : Array Slot), v = r → narrow .boolean (.int v) = .int v → decode cC4_isAsSpecialAs pc = .ok (.ireturn, 1) → W p l e rm_C4_isAsSpecialAs s m args below meth c H locs 0 0 Q (F0 m pc ls [.int v])) {x1 : Int32} {x2 : Int32} (ls : Array Slot) (hl : lv_has ls 7 [(0, .ref (ad 4)), (1, .int (x1)), (2, .int (x2))]) (h : fC4_isAsSpecialAs σ x1 x2 = some r) : W p l e rm_C4_isAsSpecialAs s m args below meth c H locs 0 0 Q (F0 m 0 ls []) := by
  obtain ⟨hx, hb, hml, hown, hts⟩ := id C
  unfold fC4_isAsSpecialAs at h
  refine lv_aload_n hx hb dC4_isAsSpecialAs_0 rfl (lv_at hl 0 rfl) ?_
  refine va_get (D := (dC, dI)) (ci := 4) (v := .int (σ.1 4 9)) (C := RC4) (T := TC4) (N := 10) hx hb hts inC4 hown hK hP 4 rfl rfl 9 (by decide) (hts _ mw_198) (fun _ h9 => h9) rfl dC4_isAsSpecialAs_1 ?_
  refine lv_iconst (v := (3 : Int32)) hx hb dC4_isAsSpecialAs_4 (by decide) ?_
  refine lv_icmp_ne (tgt := 12) hx hb dC4_isAsSpecialAs_5 (by decide) (fun c14 => ?_) (fun c14 => ?_)
  · have h := (if_neg c14).symm.trans h
    refine lv_iconst (v := (0 : Int32)) hx hb dC4_isAsSpecialAs_12 (by decide) ?_
    exact wC4_isAsSpecialAs_b13 C hK hP hend _ _ _ _ (lv_sub hl [0, 1, 2] rfl) h
  · have h := (if_pos c14).symm.trans h
    refine lv_iconst (v := (1 : Int32)) hx hb dC4_isAsSpecialAs_8 (by decide) ?_
    refine lv_goto (tgt := 13) hx hb dC4_isAsSpecialAs_9 (by decide) ?_
    exact wC4_isAsSpecialAs_b13 C hK hP hend _ _ _ _ (lv_sub hl [0, 1, 2] rfl) h
set_option maxHeartbeats 4000000 in
set_option maxRecDepth 100000 in
theorem kC4_isAsSpecialAs (l : Launch) (dC : Nat → ClassId) (dI : Nat → Nat → Nat) (ad : Nat → Nat) (cA : Nat → ClassId) (σ : xSt) (x1 : Int32) (x2 : Int32) (r : Int32) (h : fC4_isAsSpecialAs σ x1 x2 = some r) : Met l yC4_isAsSpecialAs wsC4_isAsSpecialAs rm_C4_isAsSpecialAs (va_Pc [.ref (ad 4), .int (x1), .int (x2)] (fun U => va_P (dC, dI) vwC (xW ad cA σ) U.heap ∧ va_K (dC, dI) vwC (xT cA) U)) (vp_Si (fun v => v = r)) 0 0 (fun _ => False) := by
  refine Met.ofW (cc := cC4_isAsSpecialAs) (maxL := 7) (ret := (some .boolean)) (by decide) rfl ?_
  intro p e s m args below meth c s₁ B hml hv
  obtain ⟨rfl, hP, hK⟩ := hv
  have hr := B.returns
  have hlocks := B.notSynchronized
  have hl := lv_entry ([.ref (ad 4), .int (x1), .int (x2)]) (n := 7) (Nat.le_of_ble_eq_true rfl)
  rw [lg_entry_eq]
  exact wC4_isAsSpecialAs ⟨B.exec, B.bytes, hml, findClass_of_methodNamed B.named, fun w h => atoms_spec (ws := wsC4_isAsSpecialAs) B.pre w (List.mem_cons_of_mem _ h)⟩ hK hP (fun v pc ls hv hn hd => W.zret (v := v) B.exec B.bytes hr hn (fun t ht hW => ⟨v, rfl, hv, ht⟩) (fun q hq => absurd hq List.not_mem_nil) hd) _ hl h
abbrev rm_C4_compareAll : Room := { frames := 4, cells := 0, slots := 0, locals := 101 }
def fC4_compareAll_b65 (k2 : xSt → Int32 → Option xSt) (k26 : xSt → Int32 → Int32 → Int32 → Option xSt) (σ : xSt) (x1 : Int32) (x2 : Int32) (x3 : Int32) : Option xSt :=
  k26 σ x1 x2 (x3 + (1 : Int32))
set_option maxHeartbeats 4000000 in
set_option maxRecDepth 100000 in
theorem wC4_compareAll_b65 {p : Program} {l : Launch} {e : Env} {s : State} {m : MethodId} {args : Array Value} {below : List Frame} {meth : Method} {c : Code} {Q : State → Prop} {dC : Nat → ClassId} {dI : Nat → Nat → Nat} {ad : Nat → Nat} {cA : Nat → ClassId} {r : xSt} (C : CallFix p m c cC4_compareAll 4 s args wAll RC4) (hK : va_K (dC, dI) vwC (xT cA) s) (hend : ∀ (σ : xSt) (H : Heap) (locs : List Loc) (pc : Nat) (ls : Array Slot), σ = r → va_P (dC, dI) vwC (xW ad cA σ) H → va_S (xA ad) s.heap H locs → decode cC4_compareAll pc = .ok (.return_, 1) → W p l e rm_C4_compareAll s m args below meth c H locs 0 0 Q (F0 m pc ls [])) {k2 : xSt → Int32 → Option xSt} {k26 : xSt → Int32 → Int32 → Int32 → Option xSt} (hk2 : ∀ (σ : xSt) (H : Heap) (locs : List Loc) (x1 : Int32) (ls : Array Slot), va_P (dC, dI) vwC (xW ad cA σ) H → va_D (xA ad) (xW ad cA σ) → va_S (xA ad) s.heap H locs → lv_has ls 4 [(0, .ref (ad 4)), (1, .int (x1))] → k2 σ x1 = some r → W p l e rm_C4_compareAll s m args below meth c H locs 0 0 Q (F0 m 2 ls [])) (hk26 : ∀ (σ : xSt) (H : Heap) (locs : List Loc) (x1 : Int32) (x2 : Int32) (x3 : Int32) (ls : Array Slot), va_P (dC, dI) vwC (xW ad cA σ) H → va_D (xA ad) (xW ad cA σ) → va_S (xA ad) s.heap H locs → lv_has ls 4 [(0, .ref (ad 4)), (1, .int (x1)), (2, .int (x2)), (3, .int (x3))] → k26 σ x1 x2 x3 = some r → W p l e rm_C4_compareAll s m args below meth c H locs 0 0 Q (F0 m 26 ls [])) :
    ∀ (σ : xSt) (H : Heap) (locs : List Loc) (x1 : Int32) (x2 : Int32) (x3 : Int32) (ls : Array Slot), va_P (dC, dI) vwC (xW ad cA σ) H → va_D (xA ad) (xW ad cA σ) → va_S (xA ad) s.heap H locs → lv_has ls 4 [(0, .ref (ad 4)), (1, .int (x1)), (2, .int (x2)), (3, .int (x3))] → fC4_compareAll_b65 k2 k26 σ x1 x2 x3 = some r → W p l e rm_C4_compareAll s m args below meth c H locs 0 0 Q (F0 m 65 ls []) := by
  obtain ⟨hx, hb, hml, hown, hts⟩ := id C
  intro σ H locs x1 x2 x3 ls hP hD hS hl h
  unfold fC4_compareAll_b65 at h
  refine lv_iinc (v := x3 + (1 : Int32)) (lv' := [(3, .int (x3 + (1 : Int32))), (0, .ref (ad 4)), (1, .int (x1)), (2, .int (x2))]) hx hb dC4_compareAll_65 hl (k := 3) rfl rfl (by decide) rfl (fun ls hl => ?_)
  refine lv_goto (tgt := 26) hx hb dC4_compareAll_68 (by decide) ?_
  exact hk26 _ _ _ _ _ _ _ hP hD hS (lv_sub hl [1, 2, 3, 0] rfl) h
def fC4_compareAll_b26 (k2 : xSt → Int32 → Option xSt) : Nat → xSt → Int32 → Int32 → Int32 → Option xSt
  | 0, _, _, _, _ => none
  | n + 1, σ, x1, x2, x3 =>
    if (σ.1 4 7) ≤ x3 then
      k2 σ (x1 + (1 : Int32))
    else
      if x3 < 0 ∨ 60 ≤ x3.toNatClampNeg then none else
      (fC4_isAsSpecialAs σ x2 (σ.1 22 x3.toNatClampNeg)).bind fun v6 =>
      if v6 = 0 then
        fC4_compareAll_b65 k2 (fC4_compareAll_b26 k2 n) σ x1 x2 x3
      else
        if x2 < 0 ∨ 60 ≤ x2.toNatClampNeg then none else
        if x3 < 0 ∨ 60 ≤ x3.toNatClampNeg then none else
        if x2 < 0 ∨ 60 ≤ x2.toNatClampNeg then none else
        nm (sL σ 23 x2.toNatClampNeg ((σ.2 23 x2.toNatClampNeg) ||| (jlshl (1 : Int64) (σ.1 22 x3.toNatClampNeg)))) fun σ10 =>
        fC4_compareAll_b65 k2 (fC4_compareAll_b26 k2 n) σ10 x1 x2 x3
set_option maxHeartbeats 4000000 in
set_option maxRecDepth 100000 in
theorem wC4_compareAll_b26 {p : Program} {l : Launch} {e : Env} {s : State} {m : MethodId} {args : Array Value} {below : List Frame} {meth : Method} {c : Code} {Q : State → Prop} {dC : Nat → ClassId} {dI : Nat → Nat → Nat} {ad : Nat → Nat} {cA : Nat → ClassId} {r : xSt} (C : CallFix p m c cC4_compareAll 4 s args wAll RC4) (hK : va_K (dC, dI) vwC (xT cA) s) (hend : ∀ (σ : xSt) (H : Heap) (locs : List Loc) (pc : Nat) (ls : Array Slot), σ = r → va_P (dC, dI) vwC (xW ad cA σ) H → va_S (xA ad) s.heap H locs → decode cC4_compareAll pc = .ok (.return_, 1) → W p l e rm_C4_compareAll s m args below meth c H locs 0 0 Q (F0 m pc ls [])) {k2 : xSt → Int32 → Option xSt} (hk2 : ∀ (σ : xSt) (H : Heap) (locs : List Loc) (x1 : Int32) (ls : Array Slot), va_P (dC, dI) vwC (xW ad cA σ) H → va_D (xA ad) (xW ad cA σ) → va_S (xA ad) s.heap H locs → lv_has ls 4 [(0, .ref (ad 4)), (1, .int (x1))] → k2 σ x1 = some r → W p l e rm_C4_compareAll s m args below meth c H locs 0 0 Q (F0 m 2 ls [])) :
    ∀ (n : Nat) (σ : xSt) (H : Heap) (locs : List Loc) (x1 : Int32) (x2 : Int32) (x3 : Int32) (ls : Array Slot), va_P (dC, dI) vwC (xW ad cA σ) H → va_D (xA ad) (xW ad cA σ) → va_S (xA ad) s.heap H locs → lv_has ls 4 [(0, .ref (ad 4)), (1, .int (x1)), (2, .int (x2)), (3, .int (x3))] → fC4_compareAll_b26 k2 n σ x1 x2 x3 = some r → W p l e rm_C4_compareAll s m args below meth c H locs 0 0 Q (F0 m 26 ls []) := by
  obtain ⟨hx, hb, hml, hown, hts⟩ := id C
  intro n
  induction n with
  | zero =>
    intro σ H locs x1 x2 x3 ls hP hD hS hl h
    rw [fC4_compareAll_b26] at h
    cases h
  | succ n ih =>
    intro σ H locs x1 x2 x3 ls hP hD hS hl h
    rw [fC4_compareAll_b26] at h
    refine lv_iload_n hx hb dC4_compareAll_26 rfl (lv_at hl 3 rfl) ?_
    refine lv_aload_n hx hb dC4_compareAll_27 rfl (lv_at hl 0 rfl) ?_
    refine va_get (D := (dC, dI)) (ci := 4) (v := .int (σ.1 4 7)) (C := RC4) (T := TC4) (N := 10) hx hb hts inC4 hown hK hP 4 rfl rfl 7 (by decide) (hts _ mw_199) (fun _ h9 => h9) rfl dC4_compareAll_28 ?_
    refine lv_icmp_ge (tgt := 71) hx hb dC4_compareAll_31 (by decide) (fun c12 => ?_) (fun c12 => ?_)
    · have h := (if_pos c12).symm.trans h
      refine lv_iinc (v := x1 + (1 : Int32)) (lv' := [(1, .int (x1 + (1 : Int32))), (0, .ref (ad 4)), (2, .int (x2)), (3, .int (x3))]) hx hb dC4_compareAll_71 hl (k := 1) rfl rfl (by decide) rfl (fun ls hl => ?_)
      refine lv_goto (tgt := 2) hx hb dC4_compareAll_74 (by decide) ?_
      exact hk2 _ _ _ _ _ hP hD hS (lv_sub hl [1, 0] rfl) h
    · have h := (if_neg c12).symm.trans h
      refine lv_aload_n hx hb dC4_compareAll_34 rfl (lv_at hl 0 rfl) ?_
      refine lv_iload_n hx hb dC4_compareAll_35 rfl (lv_at hl 2 rfl) ?_
      refine lv_aload_n hx hb dC4_compareAll_36 rfl (lv_at hl 0 rfl) ?_
      refine va_get (D := (dC, dI)) (ci := 4) (v := .ref (ad 22)) (C := RC4) (T := TC4) (N := 10) hx hb hts inC4 hown hK hP 4 rfl rfl 4 (by decide) (hts _ mw_258) (fun _ h9 => h9) rfl dC4_compareAll_37 ?_
      refine lv_iload_n hx hb dC4_compareAll_40 rfl (lv_at hl 3 rfl) ?_
      obtain ⟨b5, h⟩ := gx_nb h
      refine va_iald hx hb hK hP 22 17 rfl rfl b5 dC4_compareAll_41 ?_
      obtain ⟨v6, ev6, h⟩ := Option.bind_eq_some_iff.mp h
      refine gcall_r (b := ad 4) (As := [.int (x2), .int (σ.1 22 x3.toNatClampNeg)]) (rest := []) C hK hP (ci := 4) (q0 := 4) rfl rfl (kC4_isAsSpecialAs l dC dI ad cA σ x2 (σ.1 22 x3.toNatClampNeg) v6 ev6) (cwV 2 hts (gw mw_293 mw_294 mw_295 mw_204 mw_296) rfl rfl rfl hdC4_isAsSpecialAs ⟨Nat.le_of_ble_eq_true rfl, Nat.le_of_ble_eq_true rfl⟩) rfl hl.1 rfl (Nat.le_of_ble_eq_true rfl) dC4_compareAll_42 ⟨Nat.le_refl _, Nat.le_refl _⟩ ?_
      refine lv_if_eq (tgt := 65) hx hb dC4_compareAll_45 (by decide) (fun c11 => ?_) (fun c11 => ?_)
      · have h := (if_pos c11).symm.trans h
        exact wC4_compareAll_b65 C hK hend hk2 ih _ _ _ _ _ _ _ hP hD hS (lv_sub hl [0, 1, 2, 3] rfl) h
      · have h := (if_neg c11).symm.trans h
        refine lv_aload_n hx hb dC4_compareAll_48 rfl (lv_at hl 0 rfl) ?_
        refine va_get (D := (dC, dI)) (ci := 4) (v := .ref (ad 23)) (C := RC4) (T := TC4) (N := 10) hx hb hts inC4 hown hK hP 4 rfl rfl 5 (by decide) (hts _ mw_259) (fun _ h9 => h9) rfl dC4_compareAll_49 ?_
        refine lv_iload_n hx hb dC4_compareAll_52 rfl (lv_at hl 2 rfl) ?_
        refine lv_dup2_11 hx hb dC4_compareAll_53 rfl rfl ?_
        obtain ⟨b7, h⟩ := gx_nb h
        refine va_lald hx hb hK hP 23 18 rfl rfl b7 dC4_compareAll_54 ?_
        refine lv_lconst (v := (1 : Int64)) hx hb dC4_compareAll_55 (by decide) ?_
        refine lv_aload_n hx hb dC4_compareAll_56 rfl (lv_at hl 0 rfl) ?_
        refine va_get (D := (dC, dI)) (ci := 4) (v := .ref (ad 22)) (C := RC4) (T := TC4) (N := 10) hx hb hts inC4 hown hK hP 4 rfl rfl 4 (by decide) (hts _ mw_258) (fun _ h9 => h9) rfl dC4_compareAll_57 ?_
        refine lv_iload_n hx hb dC4_compareAll_60 rfl (lv_at hl 3 rfl) ?_
        obtain ⟨b8, h⟩ := gx_nb h
        refine va_iald hx hb hK hP 22 17 rfl rfl b8 dC4_compareAll_61 ?_
        refine lv_lshl (v := jlshl (1 : Int64) (σ.1 22 x3.toNatClampNeg)) hx hb dC4_compareAll_62 rfl ?_
        refine lv_lor hx hb dC4_compareAll_63 ?_
        obtain ⟨b9, h⟩ := gx_nb h
        refine va_last hx hb hK hP hD hS 23 18 rfl rfl b9 dC4_compareAll_64 (fun H locs hP hD hS => ?_)
        obtain ⟨σ10, eσ10⟩ : ∃ z, z = sL σ 23 x2.toNatClampNeg ((σ.2 23 x2.toNatClampNeg) ||| (jlshl (1 : Int64) (σ.1 22 x3.toNatClampNeg))) := ⟨_, rfl⟩
        have hP : va_P (dC, dI) vwC (xW ad cA σ10) H := by rw [eσ10]; exact hP
        have hD : va_D (xA ad) (xW ad cA σ10) := by rw [eσ10]; exact hD
        have h := nm_at eσ10 h
        exact wC4_compareAll_b65 C hK hend hk2 ih _ _ _ _ _ _ _ hP hD hS (lv_sub hl [0, 1, 2, 3] rfl) h
def fC4_compareAll_b2 : Nat → xSt → Int32 → Option xSt
  | 0, _, _ => none
  | n + 1, σ, x1 =>
    if (σ.1 4 7) ≤ x1 then
      some σ
    else
      if x1 < 0 ∨ 60 ≤ x1.toNatClampNeg then none else
      nm (σ.1 22 x1.toNatClampNeg) fun y2 =>
      if y2 < 0 ∨ 60 ≤ y2.toNatClampNeg then none else
      nm (sL σ 23 y2.toNatClampNeg (0 : Int64)) fun σ4 =>
      fC4_compareAll_b26 (fC4_compareAll_b2 n) gF σ4 x1 y2 (0 : Int32)
set_option maxHeartbeats 4000000 in
set_option maxRecDepth 100000 in
theorem wC4_compareAll_b2 {p : Program} {l : Launch} {e : Env} {s : State} {m : MethodId} {args : Array Value} {below : List Frame} {meth : Method} {c : Code} {Q : State → Prop} {dC : Nat → ClassId} {dI : Nat → Nat → Nat} {ad : Nat → Nat} {cA : Nat → ClassId} {r : xSt} (C : CallFix p m c cC4_compareAll 4 s args wAll RC4) (hK : va_K (dC, dI) vwC (xT cA) s) (hend : ∀ (σ : xSt) (H : Heap) (locs : List Loc) (pc : Nat) (ls : Array Slot), σ = r → va_P (dC, dI) vwC (xW ad cA σ) H → va_S (xA ad) s.heap H locs → decode cC4_compareAll pc = .ok (.return_, 1) → W p l e rm_C4_compareAll s m args below meth c H locs 0 0 Q (F0 m pc ls [])) :
    ∀ (n : Nat) (σ : xSt) (H : Heap) (locs : List Loc) (x1 : Int32) (ls : Array Slot), va_P (dC, dI) vwC (xW ad cA σ) H → va_D (xA ad) (xW ad cA σ) → va_S (xA ad) s.heap H locs → lv_has ls 4 [(0, .ref (ad 4)), (1, .int (x1))] → fC4_compareAll_b2 n σ x1 = some r → W p l e rm_C4_compareAll s m args below meth c H locs 0 0 Q (F0 m 2 ls []) := by
  obtain ⟨hx, hb, hml, hown, hts⟩ := id C
  intro n
  induction n with
  | zero =>
    intro σ H locs x1 ls hP hD hS hl h
    rw [fC4_compareAll_b2] at h
    cases h
  | succ n ih =>
    intro σ H locs x1 ls hP hD hS hl h
    rw [fC4_compareAll_b2] at h
    refine lv_iload_n hx hb dC4_compareAll_2 rfl (lv_at hl 1 rfl) ?_
    refine lv_aload_n hx hb dC4_compareAll_3 rfl (lv_at hl 0 rfl) ?_
    refine va_get (D := (dC, dI)) (ci := 4) (v := .int (σ.1 4 7)) (C := RC4) (T := TC4) (N := 10) hx hb hts inC4 hown hK hP 4 rfl rfl 7 (by decide) (hts _ mw_199) (fun _ h9 => h9) rfl dC4_compareAll_4 ?_
    refine lv_icmp_ge (tgt := 77) hx hb dC4_compareAll_7 (by decide) (fun c13 => ?_) (fun c13 => ?_)
    · have h := (if_pos c13).symm.trans h
      exact hend _ _ _ _ _ (Option.some.inj h) hP hS dC4_compareAll_77
    · have h := (if_neg c13).symm.trans h
      refine lv_aload_n hx hb dC4_compareAll_10 rfl (lv_at hl 0 rfl) ?_
      refine va_get (D := (dC, dI)) (ci := 4) (v := .ref (ad 22)) (C := RC4) (T := TC4) (N := 10) hx hb hts inC4 hown hK hP 4 rfl rfl 4 (by decide) (hts _ mw_258) (fun _ h9 => h9) rfl dC4_compareAll_11 ?_
      refine lv_iload_n hx hb dC4_compareAll_14 rfl (lv_at hl 1 rfl) ?_
      obtain ⟨b1, h⟩ := gx_nb h
      refine va_iald hx hb hK hP 22 17 rfl rfl b1 dC4_compareAll_15 ?_
      refine lv_topi (fun y2 ey2 => ?_)
      have h := nm_at ey2 h
      refine lv_istore_n (lv' := [(2, .int (y2)), (0, .ref (ad 4)), (1, .int (x1))]) hx hb dC4_compareAll_16 rfl hl (by decide) rfl (fun ls hl => ?_)
      refine lv_aload_n hx hb dC4_compareAll_17 rfl (lv_at hl 1 rfl) ?_
      refine va_get (D := (dC, dI)) (ci := 4) (v := .ref (ad 23)) (C := RC4) (T := TC4) (N := 10) hx hb hts inC4 hown hK hP 4 rfl rfl 5 (by decide) (hts _ mw_259) (fun _ h9 => h9) rfl dC4_compareAll_18 ?_
      refine lv_iload_n hx hb dC4_compareAll_21 rfl (lv_at hl 0 rfl) ?_
      refine lv_lconst (v := (0 : Int64)) hx hb dC4_compareAll_22 (by decide) ?_
      obtain ⟨b3, h⟩ := gx_nb h
      refine va_last hx hb hK hP hD hS 23 18 rfl rfl b3 dC4_compareAll_23 (fun H locs hP hD hS => ?_)
      obtain ⟨σ4, eσ4⟩ : ∃ z, z = sL σ 23 y2.toNatClampNeg (0 : Int64) := ⟨_, rfl⟩
      have hP : va_P (dC, dI) vwC (xW ad cA σ4) H := by rw [eσ4]; exact hP
      have hD : va_D (xA ad) (xW ad cA σ4) := by rw [eσ4]; exact hD
      have h := nm_at eσ4 h
      refine lv_iconst (v := (0 : Int32)) hx hb dC4_compareAll_24 (by decide) ?_
      refine lv_istore_n (lv' := [(3, .int ((0 : Int32))), (2, .int (y2)), (0, .ref (ad 4)), (1, .int (x1))]) hx hb dC4_compareAll_25 rfl hl (by decide) rfl (fun ls hl => ?_)
      exact wC4_compareAll_b26 C hK hend ih _ _ _ _ _ _ _ _ hP hD hS (lv_sub hl [2, 3, 1, 0] rfl) h
def fC4_compareAll (σ : xSt) : Option xSt :=
  fC4_compareAll_b2 gF σ (0 : Int32)
set_option maxHeartbeats 4000000 in
set_option maxRecDepth 100000 in
theorem wC4_compareAll {p : Program} {l : Launch} {e : Env} {s : State} {m : MethodId} {args : Array Value} {below : List Frame} {meth : Method} {c : Code} {Q : State → Prop} {dC : Nat → ClassId} {dI : Nat → Nat → Nat} {ad : Nat → Nat} {cA : Nat → ClassId} {r : xSt} (C : CallFix p m c cC4_compareAll 4 s args wAll RC4) (hK : va_K (dC, dI) vwC (xT cA) s) (hend : ∀ (σ : xSt) (H : Heap) (locs : List Loc) (pc : Nat) (ls : Array Slot), σ = r → va_P (dC, dI) vwC (xW ad cA σ) H → va_S (xA ad) s.heap H locs → decode cC4_compareAll pc = .ok (.return_, 1) → W p l e rm_C4_compareAll s m args below meth c H locs 0 0 Q (F0 m pc ls [])) {H : Heap} {locs : List Loc} {σ : xSt} (hP : va_P (dC, dI) vwC (xW ad cA σ) H) (hD : va_D (xA ad) (xW ad cA σ)) (hS : va_S (xA ad) s.heap H locs) (ls : Array Slot) (hl : lv_has ls 4 [(0, .ref (ad 4))]) (h : fC4_compareAll σ = some r) : W p l e rm_C4_compareAll s m args below meth c H locs 0 0 Q (F0 m 0 ls []) := by
  obtain ⟨hx, hb, hml, hown, hts⟩ := id C
  unfold fC4_compareAll at h
  refine lv_iconst (v := (0 : Int32)) hx hb dC4_compareAll_0 (by decide) ?_
  refine lv_istore_n (lv' := [(1, .int ((0 : Int32))), (0, .ref (ad 4))]) hx hb dC4_compareAll_1 rfl hl (by decide) rfl (fun ls hl => ?_)
  exact wC4_compareAll_b2 C hK hend _ _ _ _ _ _ hP hD hS (lv_sub hl [1, 0] rfl) h
set_option maxHeartbeats 4000000 in
set_option maxRecDepth 100000 in
theorem kC4_compareAll (l : Launch) (dC : Nat → ClassId) (dI : Nat → Nat → Nat) (ad : Nat → Nat) (cA : Nat → ClassId) (σ : xSt) (r : xSt) (h : fC4_compareAll σ = some r) : Met l yC4_compareAll wsC4_compareAll rm_C4_compareAll (va_Pc [.ref (ad 4)] (fun U => va_P (dC, dI) vwC (xW ad cA σ) U.heap ∧ va_K (dC, dI) vwC (xT cA) U ∧ va_D (xA ad) (xW ad cA σ))) (va_Qv (fun u : xSt => u = r) (fun u t => va_P (dC, dI) vwC (xW ad cA u) t.heap) (xA ad)) 0 0 (xA ad) := by
  refine Met.ofW (cc := cC4_compareAll) (maxL := 4) (ret := none) (by decide) rfl ?_
  intro p e s m args below meth c s₁ B hml hv
  obtain ⟨rfl, hP, hK, hD⟩ := hv
  have hr := B.returns
  have hlocks := B.notSynchronized
  have hl := lv_entry ([.ref (ad 4)]) (n := 4) (Nat.le_of_ble_eq_true rfl)
  rw [lg_entry_eq]
  exact wC4_compareAll ⟨B.exec, B.bytes, hml, findClass_of_methodNamed B.named, fun w h => atoms_spec (ws := wsC4_compareAll) B.pre w (List.mem_cons_of_mem _ h)⟩ hK (fun σ H locs pc ls hv hP hS hd => W.vret B.exec B.bytes hr (fun t ht hW => ⟨⟨σ, rfl, hv, by show va_P _ _ _ t.heap; rw [ht]; exact hP⟩, hS.F ht⟩) hS.2.2 hd) hP hD va_S.rf _ hl h
abbrev rm_C4_pick : Room := { frames := 1, cells := 0, slots := 0, locals := 23 }
def fC4_pick_b90 (k9 : Int32 → Int32 → Int32 → Int32 → Option Int32) (σ : xSt) (x1 : Int32) (x2 : Int32) (x3 : Int32) (x4 : Int32) : Option Int32 :=
  k9 x1 x2 x3 (x4 + (1 : Int32))
set_option maxHeartbeats 4000000 in
set_option maxRecDepth 100000 in
theorem wC4_pick_b90 {p : Program} {l : Launch} {e : Env} {s : State} {m : MethodId} {args : Array Value} {below : List Frame} {meth : Method} {c : Code} {Q : State → Prop} {dC : Nat → ClassId} {dI : Nat → Nat → Nat} {ad : Nat → Nat} {cA : Nat → ClassId} {r : Int32} {H : Heap} {locs : List Loc} {σ : xSt} (C : CallFix p m c cC4_pick 6 s args wAll RC4) (hK : va_K (dC, dI) vwC (xT cA) s) (hP : va_P (dC, dI) vwC (xW ad cA σ) H) (hend : ∀ (v : Int32) (pc : Nat) (ls : Array Slot), v = r → decode cC4_pick pc = .ok (.ireturn, 1) → W p l e rm_C4_pick s m args below meth c H locs 0 0 Q (F0 m pc ls [.int v])) {k9 : Int32 → Int32 → Int32 → Int32 → Option Int32} (hk9 : ∀ (x1 : Int32) (x2 : Int32) (x3 : Int32) (x4 : Int32) (ls : Array Slot), lv_has ls 6 [(0, .ref (ad 4)), (1, .int (x1)), (2, .int (x2)), (3, .int (x3)), (4, .int (x4))] → k9 x1 x2 x3 x4 = some r → W p l e rm_C4_pick s m args below meth c H locs 0 0 Q (F0 m 9 ls [])) :
    ∀ (x1 : Int32) (x2 : Int32) (x3 : Int32) (x4 : Int32) (ls : Array Slot), lv_has ls 6 [(0, .ref (ad 4)), (1, .int (x1)), (2, .int (x2)), (3, .int (x3)), (4, .int (x4))] → fC4_pick_b90 k9 σ x1 x2 x3 x4 = some r → W p l e rm_C4_pick s m args below meth c H locs 0 0 Q (F0 m 90 ls []) := by
  obtain ⟨hx, hb, hml, hown, hts⟩ := id C
  intro x1 x2 x3 x4 ls hl h
  unfold fC4_pick_b90 at h
  refine lv_iinc (v := x4 + (1 : Int32)) (lv' := [(4, .int (x4 + (1 : Int32))), (0, .ref (ad 4)), (1, .int (x1)), (2, .int (x2)), (3, .int (x3))]) hx hb dC4_pick_90 hl (k := 4) rfl rfl (by decide) rfl (fun ls hl => ?_)
  refine lv_goto (tgt := 9) hx hb dC4_pick_93 (by decide) ?_
  exact hk9 _ _ _ _ _ (lv_sub hl [1, 2, 3, 4, 0] rfl) h
def fC4_pick_b72 (k9 : Int32 → Int32 → Int32 → Int32 → Option Int32) (σ : xSt) (x1 : Int32) (x2 : Int32) (x3 : Int32) (x4 : Int32) (x5 : Int32) : Option Int32 :=
  (fC2_isAbstract σ x5).bind fun v8 =>
  if v8 = 0 then
    fC4_pick_b90 k9 σ x1 x5 (x3 + (1 : Int32)) x4
  else
    fC4_pick_b90 k9 σ x1 x2 x3 x4
set_option maxHeartbeats 4000000 in
set_option maxRecDepth 100000 in
theorem wC4_pick_b72 {p : Program} {l : Launch} {e : Env} {s : State} {m : MethodId} {args : Array Value} {below : List Frame} {meth : Method} {c : Code} {Q : State → Prop} {dC : Nat → ClassId} {dI : Nat → Nat → Nat} {ad : Nat → Nat} {cA : Nat → ClassId} {r : Int32} {H : Heap} {locs : List Loc} {σ : xSt} (C : CallFix p m c cC4_pick 6 s args wAll RC4) (hK : va_K (dC, dI) vwC (xT cA) s) (hP : va_P (dC, dI) vwC (xW ad cA σ) H) (hend : ∀ (v : Int32) (pc : Nat) (ls : Array Slot), v = r → decode cC4_pick pc = .ok (.ireturn, 1) → W p l e rm_C4_pick s m args below meth c H locs 0 0 Q (F0 m pc ls [.int v])) {k9 : Int32 → Int32 → Int32 → Int32 → Option Int32} (hk9 : ∀ (x1 : Int32) (x2 : Int32) (x3 : Int32) (x4 : Int32) (ls : Array Slot), lv_has ls 6 [(0, .ref (ad 4)), (1, .int (x1)), (2, .int (x2)), (3, .int (x3)), (4, .int (x4))] → k9 x1 x2 x3 x4 = some r → W p l e rm_C4_pick s m args below meth c H locs 0 0 Q (F0 m 9 ls [])) :
    ∀ (x1 : Int32) (x2 : Int32) (x3 : Int32) (x4 : Int32) (x5 : Int32) (ls : Array Slot), lv_has ls 6 [(0, .ref (ad 4)), (1, .int (x1)), (2, .int (x2)), (3, .int (x3)), (4, .int (x4)), (5, .int (x5))] → fC4_pick_b72 k9 σ x1 x2 x3 x4 x5 = some r → W p l e rm_C4_pick s m args below meth c H locs 0 0 Q (F0 m 72 ls []) := by
  obtain ⟨hx, hb, hml, hown, hts⟩ := id C
  intro x1 x2 x3 x4 x5 ls hl h
  unfold fC4_pick_b72 at h
  refine lv_aload_n hx hb dC4_pick_72 rfl (lv_at hl 0 rfl) ?_
  refine va_get (D := (dC, dI)) (ci := 4) (v := .ref (ad 2)) (C := RC4) (T := TC4) (N := 10) hx hb hts inC4 hown hK hP 4 rfl rfl 1 (by decide) (hts _ mw_206) (fun _ h9 => h9) rfl dC4_pick_73 ?_
  refine lv_iload hx hb dC4_pick_76 (lv_at hl 5 rfl) ?_
  obtain ⟨v8, ev8, h⟩ := Option.bind_eq_some_iff.mp h
  refine gcall_r (b := ad 2) (As := [.int (x5)]) (rest := []) C hK hP (ci := 2) (q0 := 2) rfl rfl (kC2_isAbstract l dC dI ad cA σ x5 v8 ev8) (cwV 1 hts (gw mw_301 mw_61 mw_62 mw_40 mw_63) rfl rfl rfl hdC2_isAbstract ⟨Nat.le_of_ble_eq_true rfl, Nat.le_of_ble_eq_true rfl⟩) rfl hl.1 rfl (Nat.le_of_ble_eq_true rfl) dC4_pick_78 ⟨Nat.le_refl _, Nat.le_refl _⟩ ?_
  refine lv_if_ne (tgt := 90) hx hb dC4_pick_81 (by decide) (fun c9 => ?_) (fun c9 => ?_)
  · have h := (if_neg c9).symm.trans h
    exact wC4_pick_b90 C hK hP hend hk9 _ _ _ _ _ (lv_sub hl [0, 1, 2, 3, 4] rfl) h
  · have h := (if_pos c9).symm.trans h
    refine lv_iload hx hb dC4_pick_84 (lv_at hl 5 rfl) ?_
    refine lv_istore_n (lv' := [(2, .int (x5)), (0, .ref (ad 4)), (1, .int (x1)), (3, .int (x3)), (4, .int (x4)), (5, .int (x5))]) hx hb dC4_pick_86 rfl hl (by decide) rfl (fun ls hl => ?_)
    refine lv_iinc (v := x3 + (1 : Int32)) (lv' := [(3, .int (x3 + (1 : Int32))), (2, .int (x5)), (0, .ref (ad 4)), (1, .int (x1)), (4, .int (x4)), (5, .int (x5))]) hx hb dC4_pick_87 hl (k := 3) rfl rfl (by decide) rfl (fun ls hl => ?_)
    exact wC4_pick_b90 C hK hP hend hk9 _ _ _ _ _ (lv_sub hl [2, 3, 1, 0, 4] rfl) h
def fC4_pick_b9 (σ : xSt) : Nat → Int32 → Int32 → Int32 → Int32 → Option Int32
  | 0, _, _, _, _ => none
  | n + 1, x1, x2, x3, x4 =>
    if (σ.1 4 7) ≤ x4 then
      if x1 = (-1 : Int32) then
        some (-6 : Int32)
      else
        if x3 ≤ (1 : Int32) then
          if x3 = (1 : Int32) then
            some x2
          else
            some x1
        else
          some (-6 : Int32)
    else
      if x4 < 0 ∨ 60 ≤ x4.toNatClampNeg then none else
      nm (σ.1 22 x4.toNatClampNeg) fun y5 =>
      if y5 < 0 ∨ 60 ≤ y5.toNatClampNeg then none else
      if (lg_cmp (σ.2 23 y5.toNatClampNeg) (σ.2 4 8)) = 0 then
        if x1 = (-1 : Int32) then
          fC4_pick_b72 (fC4_pick_b9 σ n) σ y5 x2 x3 x4 y5
        else
          (fC2_sameParameters σ x1 y5).bind fun v7 =>
          if v7 = 0 then
            some (-6 : Int32)
          else
            fC4_pick_b72 (fC4_pick_b9 σ n) σ x1 x2 x3 x4 y5
      else
        fC4_pick_b90 (fC4_pick_b9 σ n) σ x1 x2 x3 x4
set_option maxHeartbeats 4000000 in
set_option maxRecDepth 100000 in
theorem wC4_pick_b9 {p : Program} {l : Launch} {e : Env} {s : State} {m : MethodId} {args : Array Value} {below : List Frame} {meth : Method} {c : Code} {Q : State → Prop} {dC : Nat → ClassId} {dI : Nat → Nat → Nat} {ad : Nat → Nat} {cA : Nat → ClassId} {r : Int32} {H : Heap} {locs : List Loc} {σ : xSt} (C : CallFix p m c cC4_pick 6 s args wAll RC4) (hK : va_K (dC, dI) vwC (xT cA) s) (hP : va_P (dC, dI) vwC (xW ad cA σ) H) (hend : ∀ (v : Int32) (pc : Nat) (ls : Array Slot), v = r → decode cC4_pick pc = .ok (.ireturn, 1) → W p l e rm_C4_pick s m args below meth c H locs 0 0 Q (F0 m pc ls [.int v])) :
    ∀ (n : Nat) (x1 : Int32) (x2 : Int32) (x3 : Int32) (x4 : Int32) (ls : Array Slot), lv_has ls 6 [(0, .ref (ad 4)), (1, .int (x1)), (2, .int (x2)), (3, .int (x3)), (4, .int (x4))] → fC4_pick_b9 σ n x1 x2 x3 x4 = some r → W p l e rm_C4_pick s m args below meth c H locs 0 0 Q (F0 m 9 ls []) := by
  obtain ⟨hx, hb, hml, hown, hts⟩ := id C
  intro n
  induction n with
  | zero =>
    intro x1 x2 x3 x4 ls hl h
    rw [fC4_pick_b9] at h
    cases h
  | succ n ih =>
    intro x1 x2 x3 x4 ls hl h
    rw [fC4_pick_b9] at h
    refine lv_iload hx hb dC4_pick_9 (lv_at hl 4 rfl) ?_
    refine lv_aload_n hx hb dC4_pick_11 rfl (lv_at hl 0 rfl) ?_
    refine va_get (D := (dC, dI)) (ci := 4) (v := .int (σ.1 4 7)) (C := RC4) (T := TC4) (N := 10) hx hb hts inC4 hown hK hP 4 rfl rfl 7 (by decide) (hts _ mw_199) (fun _ h9 => h9) rfl dC4_pick_12 ?_
    refine lv_icmp_ge (tgt := 96) hx hb dC4_pick_15 (by decide) (fun c13 => ?_) (fun c13 => ?_)
    · have h := (if_pos c13).symm.trans h
      refine lv_iload_n hx hb dC4_pick_96 rfl (lv_at hl 1 rfl) ?_
      refine lv_iconst (v := (-1 : Int32)) hx hb dC4_pick_97 (by decide) ?_
      refine lv_icmp_eq (tgt := 106) hx hb dC4_pick_98 (by decide) (fun c3 => ?_) (fun c3 => ?_)
      · have h := (if_pos c3).symm.trans h
        refine lv_bipush (v := (-6 : Int32)) hx hb dC4_pick_106 (by decide) ?_
        exact hend _ _ _ (Option.some.inj h) dC4_pick_108
      · have h := (if_neg c3).symm.trans h
        refine lv_iload_n hx hb dC4_pick_101 rfl (lv_at hl 3 rfl) ?_
        refine lv_iconst (v := (1 : Int32)) hx hb dC4_pick_102 (by decide) ?_
        refine lv_icmp_le (tgt := 109) hx hb dC4_pick_103 (by decide) (fun c2 => ?_) (fun c2 => ?_)
        · have h := (if_pos c2).symm.trans h
          refine lv_iload_n hx hb dC4_pick_109 rfl (lv_at hl 3 rfl) ?_
          refine lv_iconst (v := (1 : Int32)) hx hb dC4_pick_110 (by decide) ?_
          refine lv_icmp_ne (tgt := 118) hx hb dC4_pick_111 (by decide) (fun c1 => ?_) (fun c1 => ?_)
          · have h := (if_neg c1).symm.trans h
            refine lv_iload_n hx hb dC4_pick_118 rfl (lv_at hl 1 rfl) ?_
            exact hend _ _ _ (Option.some.inj h) dC4_pick_119
          · have h := (if_pos c1).symm.trans h
            refine lv_iload_n hx hb dC4_pick_114 rfl (lv_at hl 2 rfl) ?_
            refine lv_goto (tgt := 119) hx hb dC4_pick_115 (by decide) ?_
            exact hend _ _ _ (Option.some.inj h) dC4_pick_119
        · have h := (if_neg c2).symm.trans h
          refine lv_bipush (v := (-6 : Int32)) hx hb dC4_pick_106 (by decide) ?_
          exact hend _ _ _ (Option.some.inj h) dC4_pick_108
    · have h := (if_neg c13).symm.trans h
      refine lv_aload_n hx hb dC4_pick_18 rfl (lv_at hl 0 rfl) ?_
      refine va_get (D := (dC, dI)) (ci := 4) (v := .ref (ad 22)) (C := RC4) (T := TC4) (N := 10) hx hb hts inC4 hown hK hP 4 rfl rfl 4 (by decide) (hts _ mw_258) (fun _ h9 => h9) rfl dC4_pick_19 ?_
      refine lv_iload hx hb dC4_pick_22 (lv_at hl 4 rfl) ?_
      obtain ⟨b4, h⟩ := gx_nb h
      refine va_iald hx hb hK hP 22 17 rfl rfl b4 dC4_pick_24 ?_
      refine lv_topi (fun y5 ey5 => ?_)
      have h := nm_at ey5 h
      refine lv_istore (lv' := [(5, .int (y5)), (0, .ref (ad 4)), (1, .int (x1)), (2, .int (x2)), (3, .int (x3)), (4, .int (x4))]) hx hb dC4_pick_25 hl (by decide) rfl (fun ls hl => ?_)
      refine lv_aload_n hx hb dC4_pick_27 rfl (lv_at hl 1 rfl) ?_
      refine va_get (D := (dC, dI)) (ci := 4) (v := .ref (ad 23)) (C := RC4) (T := TC4) (N := 10) hx hb hts inC4 hown hK hP 4 rfl rfl 5 (by decide) (hts _ mw_259) (fun _ h9 => h9) rfl dC4_pick_28 ?_
      refine lv_iload hx hb dC4_pick_31 (lv_at hl 0 rfl) ?_
      obtain ⟨b6, h⟩ := gx_nb h
      refine va_lald hx hb hK hP 23 18 rfl rfl b6 dC4_pick_33 ?_
      refine lv_aload_n hx hb dC4_pick_34 rfl (lv_at hl 1 rfl) ?_
      refine va_get (D := (dC, dI)) (ci := 4) (v := .long (σ.2 4 8)) (C := RC4) (T := TC4) (N := 10) hx hb hts inC4 hown hK hP 4 rfl rfl 8 (by decide) (hts _ mw_200) (fun _ h9 => h9) rfl dC4_pick_35 ?_
      refine W.lcmp hx hb dC4_pick_38 ?_
      refine lv_if_eq (tgt := 45) hx hb dC4_pick_39 (by decide) (fun c12 => ?_) (fun c12 => ?_)
      · have h := (if_pos c12).symm.trans h
        refine lv_iload_n hx hb dC4_pick_45 rfl (lv_at hl 2 rfl) ?_
        refine lv_iconst (v := (-1 : Int32)) hx hb dC4_pick_46 (by decide) ?_
        refine lv_icmp_ne (tgt := 56) hx hb dC4_pick_47 (by decide) (fun c11 => ?_) (fun c11 => ?_)
        · have h := (if_neg c11).symm.trans h
          refine lv_aload_n hx hb dC4_pick_56 rfl (lv_at hl 1 rfl) ?_
          refine va_get (D := (dC, dI)) (ci := 4) (v := .ref (ad 2)) (C := RC4) (T := TC4) (N := 10) hx hb hts inC4 hown hK hP 4 rfl rfl 1 (by decide) (hts _ mw_206) (fun _ h9 => h9) rfl dC4_pick_57 ?_
          refine lv_iload_n hx hb dC4_pick_60 rfl (lv_at hl 2 rfl) ?_
          refine lv_iload hx hb dC4_pick_61 (lv_at hl 0 rfl) ?_
          obtain ⟨v7, ev7, h⟩ := Option.bind_eq_some_iff.mp h
          refine gcall_r (b := ad 2) (As := [.int (x1), .int (y5)]) (rest := []) C hK hP (ci := 2) (q0 := 2) rfl rfl (kC2_sameParameters l dC dI ad cA σ x1 y5 v7 ev7) (cwV 2 hts (gw mw_271 mw_111 mw_112 mw_40 mw_113) rfl rfl rfl hdC2_sameParameters ⟨Nat.le_of_ble_eq_true rfl, Nat.le_of_ble_eq_true rfl⟩) rfl hl.1 rfl (Nat.le_of_ble_eq_true rfl) dC4_pick_63 ⟨Nat.le_refl _, Nat.le_refl _⟩ ?_
          refine lv_if_ne (tgt := 72) hx hb dC4_pick_66 (by decide) (fun c10 => ?_) (fun c10 => ?_)
          · have h := (if_neg c10).symm.trans h
            exact wC4_pick_b72 C hK hP hend ih _ _ _ _ _ _ (lv_sub hl [1, 2, 3, 4, 5, 0] rfl) h
          · have h := (if_pos c10).symm.trans h
            refine lv_bipush (v := (-6 : Int32)) hx hb dC4_pick_69 (by decide) ?_
            exact hend _ _ _ (Option.some.inj h) dC4_pick_71
        · have h := (if_pos c11).symm.trans h
          refine lv_iload hx hb dC4_pick_50 (lv_at hl 0 rfl) ?_
          refine lv_istore_n (lv' := [(1, .int (y5)), (5, .int (y5)), (0, .ref (ad 4)), (2, .int (x2)), (3, .int (x3)), (4, .int (x4))]) hx hb dC4_pick_52 rfl hl (by decide) rfl (fun ls hl => ?_)
          refine lv_goto (tgt := 72) hx hb dC4_pick_53 (by decide) ?_
          exact wC4_pick_b72 C hK hP hend ih _ _ _ _ _ _ (lv_sub hl [2, 0, 3, 4, 5, 1] rfl) h
      · have h := (if_neg c12).symm.trans h
        refine lv_goto (tgt := 90) hx hb dC4_pick_42 (by decide) ?_
        exact wC4_pick_b90 C hK hP hend ih _ _ _ _ _ (lv_sub hl [1, 2, 3, 4, 5] rfl) h
def fC4_pick (σ : xSt) : Option Int32 :=
  fC4_pick_b9 σ gF (-1 : Int32) (-1 : Int32) (0 : Int32) (0 : Int32)
set_option maxHeartbeats 4000000 in
set_option maxRecDepth 100000 in
theorem wC4_pick {p : Program} {l : Launch} {e : Env} {s : State} {m : MethodId} {args : Array Value} {below : List Frame} {meth : Method} {c : Code} {Q : State → Prop} {dC : Nat → ClassId} {dI : Nat → Nat → Nat} {ad : Nat → Nat} {cA : Nat → ClassId} {r : Int32} {H : Heap} {locs : List Loc} {σ : xSt} (C : CallFix p m c cC4_pick 6 s args wAll RC4) (hK : va_K (dC, dI) vwC (xT cA) s) (hP : va_P (dC, dI) vwC (xW ad cA σ) H) (hend : ∀ (v : Int32) (pc : Nat) (ls : Array Slot), v = r → decode cC4_pick pc = .ok (.ireturn, 1) → W p l e rm_C4_pick s m args below meth c H locs 0 0 Q (F0 m pc ls [.int v])) (ls : Array Slot) (hl : lv_has ls 6 [(0, .ref (ad 4))]) (h : fC4_pick σ = some r) : W p l e rm_C4_pick s m args below meth c H locs 0 0 Q (F0 m 0 ls []) := by
  obtain ⟨hx, hb, hml, hown, hts⟩ := id C
  unfold fC4_pick at h
  refine lv_iconst (v := (-1 : Int32)) hx hb dC4_pick_0 (by decide) ?_
  refine lv_istore_n (lv' := [(1, .int ((-1 : Int32))), (0, .ref (ad 4))]) hx hb dC4_pick_1 rfl hl (by decide) rfl (fun ls hl => ?_)
  refine lv_iconst (v := (-1 : Int32)) hx hb dC4_pick_2 (by decide) ?_
  refine lv_istore_n (lv' := [(2, .int ((-1 : Int32))), (1, .int ((-1 : Int32))), (0, .ref (ad 4))]) hx hb dC4_pick_3 rfl hl (by decide) rfl (fun ls hl => ?_)
  refine lv_iconst (v := (0 : Int32)) hx hb dC4_pick_4 (by decide) ?_
  refine lv_istore_n (lv' := [(3, .int ((0 : Int32))), (2, .int ((-1 : Int32))), (1, .int ((-1 : Int32))), (0, .ref (ad 4))]) hx hb dC4_pick_5 rfl hl (by decide) rfl (fun ls hl => ?_)
  refine lv_iconst (v := (0 : Int32)) hx hb dC4_pick_6 (by decide) ?_
  refine lv_istore (lv' := [(4, .int ((0 : Int32))), (3, .int ((0 : Int32))), (2, .int ((-1 : Int32))), (1, .int ((-1 : Int32))), (0, .ref (ad 4))]) hx hb dC4_pick_7 hl (by decide) rfl (fun ls hl => ?_)
  exact wC4_pick_b9 C hK hP hend _ _ _ _ _ _ (lv_sub hl [4, 3, 2, 1, 0] rfl) h
set_option maxHeartbeats 4000000 in
set_option maxRecDepth 100000 in
theorem kC4_pick (l : Launch) (dC : Nat → ClassId) (dI : Nat → Nat → Nat) (ad : Nat → Nat) (cA : Nat → ClassId) (σ : xSt) (r : Int32) (h : fC4_pick σ = some r) : Met l yC4_pick wsC4_pick rm_C4_pick (va_Pc [.ref (ad 4)] (fun U => va_P (dC, dI) vwC (xW ad cA σ) U.heap ∧ va_K (dC, dI) vwC (xT cA) U)) (vp_Si (fun v => v = r)) 0 0 (fun _ => False) := by
  refine Met.ofW (cc := cC4_pick) (maxL := 6) (ret := (some .int)) (by decide) rfl ?_
  intro p e s m args below meth c s₁ B hml hv
  obtain ⟨rfl, hP, hK⟩ := hv
  have hr := B.returns
  have hlocks := B.notSynchronized
  have hl := lv_entry ([.ref (ad 4)]) (n := 6) (Nat.le_of_ble_eq_true rfl)
  rw [lg_entry_eq]
  exact wC4_pick ⟨B.exec, B.bytes, hml, findClass_of_methodNamed B.named, fun w h => atoms_spec (ws := wsC4_pick) B.pre w (List.mem_cons_of_mem _ h)⟩ hK hP (fun v pc ls hv hd => W.iret (v := v) B.exec B.bytes hr (fun t ht hW => ⟨v, rfl, hv, ht⟩) (fun q hq => absurd hq List.not_mem_nil) hd) _ hl h
