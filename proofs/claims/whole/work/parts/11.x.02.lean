abbrev rm_C2_draftParameters : Room := { frames := 0, cells := 0, slots := 0, locals := 0 }
def fC2_draftParameters (σ : xSt) (x1 : Int32) (x2 : Int32) (x3 : Int32) (x4 : Int32) (x5 : Int32) : Option xSt :=
  nm ((σ.1 2 9) * (4 : Int32)) fun y1 =>
  if (σ.1 2 9) < 0 ∨ 61 ≤ (σ.1 2 9).toNatClampNeg then none else
  nm (sI σ 13 (σ.1 2 9).toNatClampNeg x1) fun σ3 =>
  if y1 < 0 ∨ 244 ≤ y1.toNatClampNeg then none else
  nm (sI σ3 14 y1.toNatClampNeg x2) fun σ5 =>
  if (y1 + (1 : Int32)) < 0 ∨ 244 ≤ (y1 + (1 : Int32)).toNatClampNeg then none else
  nm (sI σ5 14 (y1 + (1 : Int32)).toNatClampNeg x3) fun σ7 =>
  if (y1 + (2 : Int32)) < 0 ∨ 244 ≤ (y1 + (2 : Int32)).toNatClampNeg then none else
  nm (sI σ7 14 (y1 + (2 : Int32)).toNatClampNeg x4) fun σ9 =>
  if (y1 + (3 : Int32)) < 0 ∨ 244 ≤ (y1 + (3 : Int32)).toNatClampNeg then none else
  nm (sI σ9 14 (y1 + (3 : Int32)).toNatClampNeg x5) fun σ11 =>
  some σ11
set_option maxHeartbeats 4000000 in
set_option maxRecDepth 100000 in
theorem wC2_draftParameters {p : Program} {l : Launch} {e : Env} {s : State} {m : MethodId} {args : Array Value} {below : List Frame} {meth : Method} {c : Code} {Q : State → Prop} {dC : Nat → ClassId} {dI : Nat → Nat → Nat} {ad : Nat → Nat} {cA : Nat → ClassId} {r : xSt} (C : CallFix p m c cC2_draftParameters 7 s args wAll RC2) (hK : va_K (dC, dI) vwC (xT cA) s) (hend : ∀ (σ : xSt) (H : Heap) (locs : List Loc) (pc : Nat) (ls : Array Slot), σ = r → va_P (dC, dI) vwC (xW ad cA σ) H → va_S (xA ad) s.heap H locs → decode cC2_draftParameters pc = .ok (.return_, 1) → W p l e rm_C2_draftParameters s m args below meth c H locs 0 0 Q (F0 m pc ls [])) {H : Heap} {locs : List Loc} {σ : xSt} (hP : va_P (dC, dI) vwC (xW ad cA σ) H) (hD : va_D (xA ad) (xW ad cA σ)) (hS : va_S (xA ad) s.heap H locs) {x1 : Int32} {x2 : Int32} {x3 : Int32} {x4 : Int32} {x5 : Int32} (ls : Array Slot) (hl : lv_has ls 7 [(0, .ref (ad 2)), (1, .int (x1)), (2, .int (x2)), (3, .int (x3)), (4, .int (x4)), (5, .int (x5))]) (h : fC2_draftParameters σ x1 x2 x3 x4 x5 = some r) : W p l e rm_C2_draftParameters s m args below meth c H locs 0 0 Q (F0 m 0 ls []) := by
  obtain ⟨hx, hb, hml, hown, hts⟩ := id C
  unfold fC2_draftParameters at h
  refine lv_aload_n hx hb dC2_draftParameters_0 rfl (lv_at hl 0 rfl) ?_
  refine va_get (D := (dC, dI)) (ci := 2) (v := .int (σ.1 2 9)) (C := RC2) (T := TC2) (N := 10) hx hb hts inC2 hown hK hP 2 rfl rfl 9 (by decide) (hts _ mw_43) (fun _ h9 => h9) rfl dC2_draftParameters_1 ?_
  refine lv_iconst (v := (4 : Int32)) hx hb dC2_draftParameters_4 (by decide) ?_
  refine lv_imul hx hb dC2_draftParameters_5 ?_
  refine lv_topi (fun y1 ey1 => ?_)
  have h := nm_at ey1 h
  refine lv_istore (lv' := [(6, .int (y1)), (0, .ref (ad 2)), (1, .int (x1)), (2, .int (x2)), (3, .int (x3)), (4, .int (x4)), (5, .int (x5))]) hx hb dC2_draftParameters_6 hl (by decide) rfl (fun ls hl => ?_)
  refine lv_aload_n hx hb dC2_draftParameters_8 rfl (lv_at hl 1 rfl) ?_
  refine va_get (D := (dC, dI)) (ci := 2) (v := .ref (ad 13)) (C := RC2) (T := TC2) (N := 10) hx hb hts inC2 hown hK hP 2 rfl rfl 5 (by decide) (hts _ mw_51) (fun _ h9 => h9) rfl dC2_draftParameters_9 ?_
  refine lv_aload_n hx hb dC2_draftParameters_12 rfl (lv_at hl 1 rfl) ?_
  refine va_get (D := (dC, dI)) (ci := 2) (v := .int (σ.1 2 9)) (C := RC2) (T := TC2) (N := 10) hx hb hts inC2 hown hK hP 2 rfl rfl 9 (by decide) (hts _ mw_43) (fun _ h9 => h9) rfl dC2_draftParameters_13 ?_
  refine lv_iload_n hx hb dC2_draftParameters_16 rfl (lv_at hl 2 rfl) ?_
  obtain ⟨b2, h⟩ := gx_nb h
  refine va_iast hx hb hK hP hD hS 13 8 rfl rfl b2 dC2_draftParameters_17 (fun H locs hP hD hS => ?_)
  obtain ⟨σ3, eσ3⟩ : ∃ z, z = sI σ 13 (σ.1 2 9).toNatClampNeg x1 := ⟨_, rfl⟩
  have hP : va_P (dC, dI) vwC (xW ad cA σ3) H := by rw [eσ3]; exact hP
  have hD : va_D (xA ad) (xW ad cA σ3) := by rw [eσ3]; exact hD
  have h := nm_at eσ3 h
  refine lv_aload_n hx hb dC2_draftParameters_18 rfl (lv_at hl 1 rfl) ?_
  refine va_get (D := (dC, dI)) (ci := 2) (v := .ref (ad 14)) (C := RC2) (T := TC2) (N := 10) hx hb hts inC2 hown hK hP 2 rfl rfl 6 (by decide) (hts _ mw_52) (fun _ h9 => h9) rfl dC2_draftParameters_19 ?_
  refine lv_iload hx hb dC2_draftParameters_22 (lv_at hl 0 rfl) ?_
  refine lv_iload_n hx hb dC2_draftParameters_24 rfl (lv_at hl 3 rfl) ?_
  obtain ⟨b4, h⟩ := gx_nb h
  refine va_iast hx hb hK hP hD hS 14 9 rfl rfl b4 dC2_draftParameters_25 (fun H locs hP hD hS => ?_)
  obtain ⟨σ5, eσ5⟩ : ∃ z, z = sI σ3 14 y1.toNatClampNeg x2 := ⟨_, rfl⟩
  have hP : va_P (dC, dI) vwC (xW ad cA σ5) H := by rw [eσ5]; exact hP
  have hD : va_D (xA ad) (xW ad cA σ5) := by rw [eσ5]; exact hD
  have h := nm_at eσ5 h
  refine lv_aload_n hx hb dC2_draftParameters_26 rfl (lv_at hl 1 rfl) ?_
  refine va_get (D := (dC, dI)) (ci := 2) (v := .ref (ad 14)) (C := RC2) (T := TC2) (N := 10) hx hb hts inC2 hown hK hP 2 rfl rfl 6 (by decide) (hts _ mw_52) (fun _ h9 => h9) rfl dC2_draftParameters_27 ?_
  refine lv_iload hx hb dC2_draftParameters_30 (lv_at hl 0 rfl) ?_
  refine lv_iconst (v := (1 : Int32)) hx hb dC2_draftParameters_32 (by decide) ?_
  refine lv_iadd hx hb dC2_draftParameters_33 ?_
  refine lv_iload_n hx hb dC2_draftParameters_34 rfl (lv_at hl 4 rfl) ?_
  obtain ⟨b6, h⟩ := gx_nb h
  refine va_iast hx hb hK hP hD hS 14 9 rfl rfl b6 dC2_draftParameters_35 (fun H locs hP hD hS => ?_)
  obtain ⟨σ7, eσ7⟩ : ∃ z, z = sI σ5 14 (y1 + (1 : Int32)).toNatClampNeg x3 := ⟨_, rfl⟩
  have hP : va_P (dC, dI) vwC (xW ad cA σ7) H := by rw [eσ7]; exact hP
  have hD : va_D (xA ad) (xW ad cA σ7) := by rw [eσ7]; exact hD
  have h := nm_at eσ7 h
  refine lv_aload_n hx hb dC2_draftParameters_36 rfl (lv_at hl 1 rfl) ?_
  refine va_get (D := (dC, dI)) (ci := 2) (v := .ref (ad 14)) (C := RC2) (T := TC2) (N := 10) hx hb hts inC2 hown hK hP 2 rfl rfl 6 (by decide) (hts _ mw_52) (fun _ h9 => h9) rfl dC2_draftParameters_37 ?_
  refine lv_iload hx hb dC2_draftParameters_40 (lv_at hl 0 rfl) ?_
  refine lv_iconst (v := (2 : Int32)) hx hb dC2_draftParameters_42 (by decide) ?_
  refine lv_iadd hx hb dC2_draftParameters_43 ?_
  refine lv_iload hx hb dC2_draftParameters_44 (lv_at hl 5 rfl) ?_
  obtain ⟨b8, h⟩ := gx_nb h
  refine va_iast hx hb hK hP hD hS 14 9 rfl rfl b8 dC2_draftParameters_46 (fun H locs hP hD hS => ?_)
  obtain ⟨σ9, eσ9⟩ : ∃ z, z = sI σ7 14 (y1 + (2 : Int32)).toNatClampNeg x4 := ⟨_, rfl⟩
  have hP : va_P (dC, dI) vwC (xW ad cA σ9) H := by rw [eσ9]; exact hP
  have hD : va_D (xA ad) (xW ad cA σ9) := by rw [eσ9]; exact hD
  have h := nm_at eσ9 h
  refine lv_aload_n hx hb dC2_draftParameters_47 rfl (lv_at hl 1 rfl) ?_
  refine va_get (D := (dC, dI)) (ci := 2) (v := .ref (ad 14)) (C := RC2) (T := TC2) (N := 10) hx hb hts inC2 hown hK hP 2 rfl rfl 6 (by decide) (hts _ mw_52) (fun _ h9 => h9) rfl dC2_draftParameters_48 ?_
  refine lv_iload hx hb dC2_draftParameters_51 (lv_at hl 0 rfl) ?_
  refine lv_iconst (v := (3 : Int32)) hx hb dC2_draftParameters_53 (by decide) ?_
  refine lv_iadd hx hb dC2_draftParameters_54 ?_
  refine lv_iload hx hb dC2_draftParameters_55 (lv_at hl 6 rfl) ?_
  obtain ⟨b10, h⟩ := gx_nb h
  refine va_iast hx hb hK hP hD hS 14 9 rfl rfl b10 dC2_draftParameters_57 (fun H locs hP hD hS => ?_)
  obtain ⟨σ11, eσ11⟩ : ∃ z, z = sI σ9 14 (y1 + (3 : Int32)).toNatClampNeg x5 := ⟨_, rfl⟩
  have hP : va_P (dC, dI) vwC (xW ad cA σ11) H := by rw [eσ11]; exact hP
  have hD : va_D (xA ad) (xW ad cA σ11) := by rw [eσ11]; exact hD
  have h := nm_at eσ11 h
  exact hend _ _ _ _ _ (Option.some.inj h) hP hS dC2_draftParameters_58
set_option maxHeartbeats 4000000 in
set_option maxRecDepth 100000 in
theorem kC2_draftParameters (l : Launch) (dC : Nat → ClassId) (dI : Nat → Nat → Nat) (ad : Nat → Nat) (cA : Nat → ClassId) (σ : xSt) (x1 : Int32) (x2 : Int32) (x3 : Int32) (x4 : Int32) (x5 : Int32) (r : xSt) (h : fC2_draftParameters σ x1 x2 x3 x4 x5 = some r) : Met l yC2_draftParameters wsC2_draftParameters rm_C2_draftParameters (va_Pc [.ref (ad 2), .int (x1), .int (x2), .int (x3), .int (x4), .int (x5)] (fun U => va_P (dC, dI) vwC (xW ad cA σ) U.heap ∧ va_K (dC, dI) vwC (xT cA) U ∧ va_D (xA ad) (xW ad cA σ))) (va_Qv (fun u : xSt => u = r) (fun u t => va_P (dC, dI) vwC (xW ad cA u) t.heap) (xA ad)) 0 0 (xA ad) := by
  refine Met.ofW (cc := cC2_draftParameters) (maxL := 7) (ret := none) (by decide) rfl ?_
  intro p e s m args below meth c s₁ B hml hv
  obtain ⟨rfl, hP, hK, hD⟩ := hv
  have hr := B.returns
  have hlocks := B.notSynchronized
  have hl := lv_entry ([.ref (ad 2), .int (x1), .int (x2), .int (x3), .int (x4), .int (x5)]) (n := 7) (Nat.le_of_ble_eq_true rfl)
  rw [lg_entry_eq]
  exact wC2_draftParameters ⟨B.exec, B.bytes, hml, findClass_of_methodNamed B.named, fun w h => atoms_spec (ws := wsC2_draftParameters) B.pre w (List.mem_cons_of_mem _ h)⟩ hK (fun σ H locs pc ls hv hP hS hd => W.vret B.exec B.bytes hr (fun t ht hW => ⟨⟨σ, rfl, hv, by show va_P _ _ _ t.heap; rw [ht]; exact hP⟩, hS.F ht⟩) hS.2.2 hd) hP hD va_S.rf _ hl h
abbrev rm_C2_isAbstract : Room := { frames := 0, cells := 0, slots := 0, locals := 0 }
def fC2_isAbstract (σ : xSt) (x1 : Int32) : Option Int32 :=
  if x1 < 0 ∨ 61 ≤ x1.toNatClampNeg then none else
  if ((σ.1 11 x1.toNatClampNeg) &&& (4 : Int32)) = 0 then
    some (0 : Int32)
  else
    some (1 : Int32)
set_option maxHeartbeats 4000000 in
set_option maxRecDepth 100000 in
theorem wC2_isAbstract {p : Program} {l : Launch} {e : Env} {s : State} {m : MethodId} {args : Array Value} {below : List Frame} {meth : Method} {c : Code} {Q : State → Prop} {dC : Nat → ClassId} {dI : Nat → Nat → Nat} {ad : Nat → Nat} {cA : Nat → ClassId} {r : Int32} {H : Heap} {locs : List Loc} {σ : xSt} (C : CallFix p m c cC2_isAbstract 2 s args wAll RC2) (hK : va_K (dC, dI) vwC (xT cA) s) (hP : va_P (dC, dI) vwC (xW ad cA σ) H) (hend : ∀ (v : Int32) (pc : Nat) (ls : Array Slot), v = r → narrow .boolean (.int v) = .int v → decode cC2_isAbstract pc = .ok (.ireturn, 1) → W p l e rm_C2_isAbstract s m args below meth c H locs 0 0 Q (F0 m pc ls [.int v])) {x1 : Int32} (ls : Array Slot) (hl : lv_has ls 2 [(0, .ref (ad 2)), (1, .int (x1))]) (h : fC2_isAbstract σ x1 = some r) : W p l e rm_C2_isAbstract s m args below meth c H locs 0 0 Q (F0 m 0 ls []) := by
  obtain ⟨hx, hb, hml, hown, hts⟩ := id C
  unfold fC2_isAbstract at h
  refine lv_aload_n hx hb dC2_isAbstract_0 rfl (lv_at hl 0 rfl) ?_
  refine va_get (D := (dC, dI)) (ci := 2) (v := .ref (ad 11)) (C := RC2) (T := TC2) (N := 10) hx hb hts inC2 hown hK hP 2 rfl rfl 3 (by decide) (hts _ mw_45) (fun _ h9 => h9) rfl dC2_isAbstract_1 ?_
  refine lv_iload_n hx hb dC2_isAbstract_4 rfl (lv_at hl 1 rfl) ?_
  obtain ⟨b1, h⟩ := gx_nb h
  refine va_iald hx hb hK hP 11 6 rfl rfl b1 dC2_isAbstract_5 ?_
  refine lv_iconst (v := (4 : Int32)) hx hb dC2_isAbstract_6 (by decide) ?_
  refine lv_iand hx hb dC2_isAbstract_7 ?_
  refine lv_if_eq (tgt := 15) hx hb dC2_isAbstract_8 (by decide) (fun c2 => ?_) (fun c2 => ?_)
  · have h := (if_pos c2).symm.trans h
    refine lv_iconst (v := (0 : Int32)) hx hb dC2_isAbstract_15 (by decide) ?_
    exact hend _ _ _ (Option.some.inj h) rfl dC2_isAbstract_16
  · have h := (if_neg c2).symm.trans h
    refine lv_iconst (v := (1 : Int32)) hx hb dC2_isAbstract_11 (by decide) ?_
    refine lv_goto (tgt := 16) hx hb dC2_isAbstract_12 (by decide) ?_
    exact hend _ _ _ (Option.some.inj h) rfl dC2_isAbstract_16
set_option maxHeartbeats 4000000 in
set_option maxRecDepth 100000 in
theorem kC2_isAbstract (l : Launch) (dC : Nat → ClassId) (dI : Nat → Nat → Nat) (ad : Nat → Nat) (cA : Nat → ClassId) (σ : xSt) (x1 : Int32) (r : Int32) (h : fC2_isAbstract σ x1 = some r) : Met l yC2_isAbstract wsC2_isAbstract rm_C2_isAbstract (va_Pc [.ref (ad 2), .int (x1)] (fun U => va_P (dC, dI) vwC (xW ad cA σ) U.heap ∧ va_K (dC, dI) vwC (xT cA) U)) (vp_Si (fun v => v = r)) 0 0 (fun _ => False) := by
  refine Met.ofW (cc := cC2_isAbstract) (maxL := 2) (ret := (some .boolean)) (by decide) rfl ?_
  intro p e s m args below meth c s₁ B hml hv
  obtain ⟨rfl, hP, hK⟩ := hv
  have hr := B.returns
  have hlocks := B.notSynchronized
  have hl := lv_entry ([.ref (ad 2), .int (x1)]) (n := 2) (Nat.le_of_ble_eq_true rfl)
  rw [lg_entry_eq]
  exact wC2_isAbstract ⟨B.exec, B.bytes, hml, findClass_of_methodNamed B.named, fun w h => atoms_spec (ws := wsC2_isAbstract) B.pre w (List.mem_cons_of_mem _ h)⟩ hK hP (fun v pc ls hv hn hd => W.zret (v := v) B.exec B.bytes hr hn (fun t ht hW => ⟨v, rfl, hv, ht⟩) (fun q hq => absurd hq List.not_mem_nil) hd) _ hl h
abbrev rm_C2_isStatic : Room := { frames := 0, cells := 0, slots := 0, locals := 0 }
def fC2_isStatic (σ : xSt) (x1 : Int32) : Option Int32 :=
  if x1 < 0 ∨ 61 ≤ x1.toNatClampNeg then none else
  if ((σ.1 11 x1.toNatClampNeg) &&& (1 : Int32)) = 0 then
    some (0 : Int32)
  else
    some (1 : Int32)
set_option maxHeartbeats 4000000 in
set_option maxRecDepth 100000 in
theorem wC2_isStatic {p : Program} {l : Launch} {e : Env} {s : State} {m : MethodId} {args : Array Value} {below : List Frame} {meth : Method} {c : Code} {Q : State → Prop} {dC : Nat → ClassId} {dI : Nat → Nat → Nat} {ad : Nat → Nat} {cA : Nat → ClassId} {r : Int32} {H : Heap} {locs : List Loc} {σ : xSt} (C : CallFix p m c cC2_isStatic 2 s args wAll RC2) (hK : va_K (dC, dI) vwC (xT cA) s) (hP : va_P (dC, dI) vwC (xW ad cA σ) H) (hend : ∀ (v : Int32) (pc : Nat) (ls : Array Slot), v = r → narrow .boolean (.int v) = .int v → decode cC2_isStatic pc = .ok (.ireturn, 1) → W p l e rm_C2_isStatic s m args below meth c H locs 0 0 Q (F0 m pc ls [.int v])) {x1 : Int32} (ls : Array Slot) (hl : lv_has ls 2 [(0, .ref (ad 2)), (1, .int (x1))]) (h : fC2_isStatic σ x1 = some r) : W p l e rm_C2_isStatic s m args below meth c H locs 0 0 Q (F0 m 0 ls []) := by
  obtain ⟨hx, hb, hml, hown, hts⟩ := id C
  unfold fC2_isStatic at h
  refine lv_aload_n hx hb dC2_isStatic_0 rfl (lv_at hl 0 rfl) ?_
  refine va_get (D := (dC, dI)) (ci := 2) (v := .ref (ad 11)) (C := RC2) (T := TC2) (N := 10) hx hb hts inC2 hown hK hP 2 rfl rfl 3 (by decide) (hts _ mw_45) (fun _ h9 => h9) rfl dC2_isStatic_1 ?_
  refine lv_iload_n hx hb dC2_isStatic_4 rfl (lv_at hl 1 rfl) ?_
  obtain ⟨b1, h⟩ := gx_nb h
  refine va_iald hx hb hK hP 11 6 rfl rfl b1 dC2_isStatic_5 ?_
  refine lv_iconst (v := (1 : Int32)) hx hb dC2_isStatic_6 (by decide) ?_
  refine lv_iand hx hb dC2_isStatic_7 ?_
  refine lv_if_eq (tgt := 15) hx hb dC2_isStatic_8 (by decide) (fun c2 => ?_) (fun c2 => ?_)
  · have h := (if_pos c2).symm.trans h
    refine lv_iconst (v := (0 : Int32)) hx hb dC2_isStatic_15 (by decide) ?_
    exact hend _ _ _ (Option.some.inj h) rfl dC2_isStatic_16
  · have h := (if_neg c2).symm.trans h
    refine lv_iconst (v := (1 : Int32)) hx hb dC2_isStatic_11 (by decide) ?_
    refine lv_goto (tgt := 16) hx hb dC2_isStatic_12 (by decide) ?_
    exact hend _ _ _ (Option.some.inj h) rfl dC2_isStatic_16
set_option maxHeartbeats 4000000 in
set_option maxRecDepth 100000 in
theorem kC2_isStatic (l : Launch) (dC : Nat → ClassId) (dI : Nat → Nat → Nat) (ad : Nat → Nat) (cA : Nat → ClassId) (σ : xSt) (x1 : Int32) (r : Int32) (h : fC2_isStatic σ x1 = some r) : Met l yC2_isStatic wsC2_isStatic rm_C2_isStatic (va_Pc [.ref (ad 2), .int (x1)] (fun U => va_P (dC, dI) vwC (xW ad cA σ) U.heap ∧ va_K (dC, dI) vwC (xT cA) U)) (vp_Si (fun v => v = r)) 0 0 (fun _ => False) := by
  refine Met.ofW (cc := cC2_isStatic) (maxL := 2) (ret := (some .boolean)) (by decide) rfl ?_
  intro p e s m args below meth c s₁ B hml hv
  obtain ⟨rfl, hP, hK⟩ := hv
  have hr := B.returns
  have hlocks := B.notSynchronized
  have hl := lv_entry ([.ref (ad 2), .int (x1)]) (n := 2) (Nat.le_of_ble_eq_true rfl)
  rw [lg_entry_eq]
  exact wC2_isStatic ⟨B.exec, B.bytes, hml, findClass_of_methodNamed B.named, fun w h => atoms_spec (ws := wsC2_isStatic) B.pre w (List.mem_cons_of_mem _ h)⟩ hK hP (fun v pc ls hv hn hd => W.zret (v := v) B.exec B.bytes hr hn (fun t ht hW => ⟨v, rfl, hv, ht⟩) (fun q hq => absurd hq List.not_mem_nil) hd) _ hl h
abbrev rm_C2_isPrivate : Room := { frames := 0, cells := 0, slots := 0, locals := 0 }
def fC2_isPrivate (σ : xSt) (x1 : Int32) : Option Int32 :=
  if x1 < 0 ∨ 61 ≤ x1.toNatClampNeg then none else
  if ((σ.1 11 x1.toNatClampNeg) &&& (2 : Int32)) = 0 then
    some (0 : Int32)
  else
    some (1 : Int32)
set_option maxHeartbeats 4000000 in
set_option maxRecDepth 100000 in
theorem wC2_isPrivate {p : Program} {l : Launch} {e : Env} {s : State} {m : MethodId} {args : Array Value} {below : List Frame} {meth : Method} {c : Code} {Q : State → Prop} {dC : Nat → ClassId} {dI : Nat → Nat → Nat} {ad : Nat → Nat} {cA : Nat → ClassId} {r : Int32} {H : Heap} {locs : List Loc} {σ : xSt} (C : CallFix p m c cC2_isPrivate 2 s args wAll RC2) (hK : va_K (dC, dI) vwC (xT cA) s) (hP : va_P (dC, dI) vwC (xW ad cA σ) H) (hend : ∀ (v : Int32) (pc : Nat) (ls : Array Slot), v = r → narrow .boolean (.int v) = .int v → decode cC2_isPrivate pc = .ok (.ireturn, 1) → W p l e rm_C2_isPrivate s m args below meth c H locs 0 0 Q (F0 m pc ls [.int v])) {x1 : Int32} (ls : Array Slot) (hl : lv_has ls 2 [(0, .ref (ad 2)), (1, .int (x1))]) (h : fC2_isPrivate σ x1 = some r) : W p l e rm_C2_isPrivate s m args below meth c H locs 0 0 Q (F0 m 0 ls []) := by
  obtain ⟨hx, hb, hml, hown, hts⟩ := id C
  unfold fC2_isPrivate at h
  refine lv_aload_n hx hb dC2_isPrivate_0 rfl (lv_at hl 0 rfl) ?_
  refine va_get (D := (dC, dI)) (ci := 2) (v := .ref (ad 11)) (C := RC2) (T := TC2) (N := 10) hx hb hts inC2 hown hK hP 2 rfl rfl 3 (by decide) (hts _ mw_45) (fun _ h9 => h9) rfl dC2_isPrivate_1 ?_
  refine lv_iload_n hx hb dC2_isPrivate_4 rfl (lv_at hl 1 rfl) ?_
  obtain ⟨b1, h⟩ := gx_nb h
  refine va_iald hx hb hK hP 11 6 rfl rfl b1 dC2_isPrivate_5 ?_
  refine lv_iconst (v := (2 : Int32)) hx hb dC2_isPrivate_6 (by decide) ?_
  refine lv_iand hx hb dC2_isPrivate_7 ?_
  refine lv_if_eq (tgt := 15) hx hb dC2_isPrivate_8 (by decide) (fun c2 => ?_) (fun c2 => ?_)
  · have h := (if_pos c2).symm.trans h
    refine lv_iconst (v := (0 : Int32)) hx hb dC2_isPrivate_15 (by decide) ?_
    exact hend _ _ _ (Option.some.inj h) rfl dC2_isPrivate_16
  · have h := (if_neg c2).symm.trans h
    refine lv_iconst (v := (1 : Int32)) hx hb dC2_isPrivate_11 (by decide) ?_
    refine lv_goto (tgt := 16) hx hb dC2_isPrivate_12 (by decide) ?_
    exact hend _ _ _ (Option.some.inj h) rfl dC2_isPrivate_16
set_option maxHeartbeats 4000000 in
set_option maxRecDepth 100000 in
theorem kC2_isPrivate (l : Launch) (dC : Nat → ClassId) (dI : Nat → Nat → Nat) (ad : Nat → Nat) (cA : Nat → ClassId) (σ : xSt) (x1 : Int32) (r : Int32) (h : fC2_isPrivate σ x1 = some r) : Met l yC2_isPrivate wsC2_isPrivate rm_C2_isPrivate (va_Pc [.ref (ad 2), .int (x1)] (fun U => va_P (dC, dI) vwC (xW ad cA σ) U.heap ∧ va_K (dC, dI) vwC (xT cA) U)) (vp_Si (fun v => v = r)) 0 0 (fun _ => False) := by
  refine Met.ofW (cc := cC2_isPrivate) (maxL := 2) (ret := (some .boolean)) (by decide) rfl ?_
  intro p e s m args below meth c s₁ B hml hv
  obtain ⟨rfl, hP, hK⟩ := hv
  have hr := B.returns
  have hlocks := B.notSynchronized
  have hl := lv_entry ([.ref (ad 2), .int (x1)]) (n := 2) (Nat.le_of_ble_eq_true rfl)
  rw [lg_entry_eq]
  exact wC2_isPrivate ⟨B.exec, B.bytes, hml, findClass_of_methodNamed B.named, fun w h => atoms_spec (ws := wsC2_isPrivate) B.pre w (List.mem_cons_of_mem _ h)⟩ hK hP (fun v pc ls hv hn hd => W.zret (v := v) B.exec B.bytes hr hn (fun t ht hW => ⟨v, rfl, hv, ht⟩) (fun q hq => absurd hq List.not_mem_nil) hd) _ hl h
abbrev rm_C2_hasGoodMarks : Room := { frames := 2, cells := 0, slots := 0, locals := 42 }
def fC2_hasGoodMarks_b51 (σ : xSt) (x1 : Int32) (s0 : Int32) : Option Int32 :=
  (fC2_isAbstract σ x1).bind fun v5 =>
  if v5 = 0 then
    some (1 : Int32)
  else
    (fC2_isStatic σ x1).bind fun v6 =>
    if v6 = 0 then
      if s0 = 0 then
        some (1 : Int32)
      else
        some (0 : Int32)
    else
      some (0 : Int32)
set_option maxHeartbeats 4000000 in
set_option maxRecDepth 100000 in
theorem wC2_hasGoodMarks_b51 {p : Program} {l : Launch} {e : Env} {s : State} {m : MethodId} {args : Array Value} {below : List Frame} {meth : Method} {c : Code} {Q : State → Prop} {dC : Nat → ClassId} {dI : Nat → Nat → Nat} {ad : Nat → Nat} {cA : Nat → ClassId} {r : Int32} {H : Heap} {locs : List Loc} {σ : xSt} (C : CallFix p m c cC2_hasGoodMarks 3 s args wAll RC2) (hK : va_K (dC, dI) vwC (xT cA) s) (hP : va_P (dC, dI) vwC (xW ad cA σ) H) (hend : ∀ (v : Int32) (pc : Nat) (ls : Array Slot), v = r → narrow .boolean (.int v) = .int v → decode cC2_hasGoodMarks pc = .ok (.ireturn, 1) → W p l e rm_C2_hasGoodMarks s m args below meth c H locs 0 0 Q (F0 m pc ls [.int v])) :
    ∀ (x1 : Int32) (s0 : Int32) (ls : Array Slot), lv_has ls 3 [(0, .ref (ad 2)), (1, .int (x1))] → fC2_hasGoodMarks_b51 σ x1 s0 = some r → W p l e rm_C2_hasGoodMarks s m args below meth c H locs 0 0 Q (F0 m 51 ls [.int (s0)]) := by
  obtain ⟨hx, hb, hml, hown, hts⟩ := id C
  intro x1 s0 ls hl h
  unfold fC2_hasGoodMarks_b51 at h
  refine lv_istore_n (lv' := [(2, .int (s0)), (0, .ref (ad 2)), (1, .int (x1))]) hx hb dC2_hasGoodMarks_51 rfl hl (by decide) rfl (fun ls hl => ?_)
  refine lv_aload_n hx hb dC2_hasGoodMarks_52 rfl (lv_at hl 1 rfl) ?_
  refine lv_iload_n hx hb dC2_hasGoodMarks_53 rfl (lv_at hl 2 rfl) ?_
  obtain ⟨v5, ev5, h⟩ := Option.bind_eq_some_iff.mp h
  refine gcall_r (b := ad 2) (As := [.int (x1)]) (rest := []) C hK hP (ci := 2) (q0 := 2) rfl rfl (kC2_isAbstract l dC dI ad cA σ x1 v5 ev5) (cwV 1 hts (gw mw_60 mw_61 mw_62 mw_40 mw_63) rfl rfl rfl hdC2_isAbstract ⟨Nat.le_of_ble_eq_true rfl, Nat.le_of_ble_eq_true rfl⟩) rfl hl.1 rfl (Nat.le_of_ble_eq_true rfl) dC2_hasGoodMarks_54 ⟨Nat.le_refl _, Nat.le_refl _⟩ ?_
  refine lv_if_eq (tgt := 72) hx hb dC2_hasGoodMarks_57 (by decide) (fun c9 => ?_) (fun c9 => ?_)
  · have h := (if_pos c9).symm.trans h
    refine lv_iconst (v := (1 : Int32)) hx hb dC2_hasGoodMarks_72 (by decide) ?_
    refine lv_goto (tgt := 77) hx hb dC2_hasGoodMarks_73 (by decide) ?_
    exact hend _ _ _ (Option.some.inj h) rfl dC2_hasGoodMarks_77
  · have h := (if_neg c9).symm.trans h
    refine lv_aload_n hx hb dC2_hasGoodMarks_60 rfl (lv_at hl 1 rfl) ?_
    refine lv_iload_n hx hb dC2_hasGoodMarks_61 rfl (lv_at hl 2 rfl) ?_
    obtain ⟨v6, ev6, h⟩ := Option.bind_eq_some_iff.mp h
    refine gcall_r (b := ad 2) (As := [.int (x1)]) (rest := []) C hK hP (ci := 2) (q0 := 2) rfl rfl (kC2_isStatic l dC dI ad cA σ x1 v6 ev6) (cwV 1 hts (gw mw_64 mw_65 mw_66 mw_40 mw_67) rfl rfl rfl hdC2_isStatic ⟨Nat.le_of_ble_eq_true rfl, Nat.le_of_ble_eq_true rfl⟩) rfl hl.1 rfl (Nat.le_of_ble_eq_true rfl) dC2_hasGoodMarks_62 ⟨Nat.le_refl _, Nat.le_refl _⟩ ?_
    refine lv_if_ne (tgt := 76) hx hb dC2_hasGoodMarks_65 (by decide) (fun c8 => ?_) (fun c8 => ?_)
    · have h := (if_neg c8).symm.trans h
      refine lv_iconst (v := (0 : Int32)) hx hb dC2_hasGoodMarks_76 (by decide) ?_
      exact hend _ _ _ (Option.some.inj h) rfl dC2_hasGoodMarks_77
    · have h := (if_pos c8).symm.trans h
      refine lv_iload_n hx hb dC2_hasGoodMarks_68 rfl (lv_at hl 0 rfl) ?_
      refine lv_if_ne (tgt := 76) hx hb dC2_hasGoodMarks_69 (by decide) (fun c7 => ?_) (fun c7 => ?_)
      · have h := (if_neg c7).symm.trans h
        refine lv_iconst (v := (0 : Int32)) hx hb dC2_hasGoodMarks_76 (by decide) ?_
        exact hend _ _ _ (Option.some.inj h) rfl dC2_hasGoodMarks_77
      · have h := (if_pos c7).symm.trans h
        refine lv_iconst (v := (1 : Int32)) hx hb dC2_hasGoodMarks_72 (by decide) ?_
        refine lv_goto (tgt := 77) hx hb dC2_hasGoodMarks_73 (by decide) ?_
        exact hend _ _ _ (Option.some.inj h) rfl dC2_hasGoodMarks_77
def fC2_hasGoodMarks_b50 (σ : xSt) (x1 : Int32) : Option Int32 :=
  fC2_hasGoodMarks_b51 σ x1 (0 : Int32)
set_option maxHeartbeats 4000000 in
set_option maxRecDepth 100000 in
theorem wC2_hasGoodMarks_b50 {p : Program} {l : Launch} {e : Env} {s : State} {m : MethodId} {args : Array Value} {below : List Frame} {meth : Method} {c : Code} {Q : State → Prop} {dC : Nat → ClassId} {dI : Nat → Nat → Nat} {ad : Nat → Nat} {cA : Nat → ClassId} {r : Int32} {H : Heap} {locs : List Loc} {σ : xSt} (C : CallFix p m c cC2_hasGoodMarks 3 s args wAll RC2) (hK : va_K (dC, dI) vwC (xT cA) s) (hP : va_P (dC, dI) vwC (xW ad cA σ) H) (hend : ∀ (v : Int32) (pc : Nat) (ls : Array Slot), v = r → narrow .boolean (.int v) = .int v → decode cC2_hasGoodMarks pc = .ok (.ireturn, 1) → W p l e rm_C2_hasGoodMarks s m args below meth c H locs 0 0 Q (F0 m pc ls [.int v])) :
    ∀ (x1 : Int32) (ls : Array Slot), lv_has ls 3 [(0, .ref (ad 2)), (1, .int (x1))] → fC2_hasGoodMarks_b50 σ x1 = some r → W p l e rm_C2_hasGoodMarks s m args below meth c H locs 0 0 Q (F0 m 50 ls []) := by
  obtain ⟨hx, hb, hml, hown, hts⟩ := id C
  intro x1 ls hl h
  unfold fC2_hasGoodMarks_b50 at h
  refine lv_iconst (v := (0 : Int32)) hx hb dC2_hasGoodMarks_50 (by decide) ?_
  exact wC2_hasGoodMarks_b51 C hK hP hend _ _ _ (lv_sub hl [0, 1] rfl) h
def fC2_hasGoodMarks (σ : xSt) (x1 : Int32) : Option Int32 :=
  if x1 < 0 ∨ 61 ≤ x1.toNatClampNeg then none else
  if (σ.1 11 x1.toNatClampNeg) < 0 then
    some (0 : Int32)
  else
    if x1 < 0 ∨ 61 ≤ x1.toNatClampNeg then none else
    if (σ.1 11 x1.toNatClampNeg) ≤ (15 : Int32) then
      if x1 < 0 ∨ 61 ≤ x1.toNatClampNeg then none else
      (fC1_isInterface σ (σ.1 9 x1.toNatClampNeg)).bind fun v4 =>
      if v4 = 0 then
        fC2_hasGoodMarks_b50 σ x1
      else
        (fC2_isPrivate σ x1).bind fun v10 =>
        if v10 = 0 then
          fC2_hasGoodMarks_b50 σ x1
        else
          fC2_hasGoodMarks_b51 σ x1 (1 : Int32)
    else
      some (0 : Int32)
set_option maxHeartbeats 4000000 in
set_option maxRecDepth 100000 in
theorem wC2_hasGoodMarks {p : Program} {l : Launch} {e : Env} {s : State} {m : MethodId} {args : Array Value} {below : List Frame} {meth : Method} {c : Code} {Q : State → Prop} {dC : Nat → ClassId} {dI : Nat → Nat → Nat} {ad : Nat → Nat} {cA : Nat → ClassId} {r : Int32} {H : Heap} {locs : List Loc} {σ : xSt} (C : CallFix p m c cC2_hasGoodMarks 3 s args wAll RC2) (hK : va_K (dC, dI) vwC (xT cA) s) (hP : va_P (dC, dI) vwC (xW ad cA σ) H) (hend : ∀ (v : Int32) (pc : Nat) (ls : Array Slot), v = r → narrow .boolean (.int v) = .int v → decode cC2_hasGoodMarks pc = .ok (.ireturn, 1) → W p l e rm_C2_hasGoodMarks s m args below meth c H locs 0 0 Q (F0 m pc ls [.int v])) {x1 : Int32} (ls : Array Slot) (hl : lv_has ls 3 [(0, .ref (ad 2)), (1, .int (x1))]) (h : fC2_hasGoodMarks σ x1 = some r) : W p l e rm_C2_hasGoodMarks s m args below meth c H locs 0 0 Q (F0 m 0 ls []) := by
  obtain ⟨hx, hb, hml, hown, hts⟩ := id C
  unfold fC2_hasGoodMarks at h
  refine lv_aload_n hx hb dC2_hasGoodMarks_0 rfl (lv_at hl 0 rfl) ?_
  refine va_get (D := (dC, dI)) (ci := 2) (v := .ref (ad 11)) (C := RC2) (T := TC2) (N := 10) hx hb hts inC2 hown hK hP 2 rfl rfl 3 (by decide) (hts _ mw_45) (fun _ h9 => h9) rfl dC2_hasGoodMarks_1 ?_
  refine lv_iload_n hx hb dC2_hasGoodMarks_4 rfl (lv_at hl 1 rfl) ?_
  obtain ⟨b1, h⟩ := gx_nb h
  refine va_iald hx hb hK hP 11 6 rfl rfl b1 dC2_hasGoodMarks_5 ?_
  refine lv_if_lt (tgt := 20) hx hb dC2_hasGoodMarks_6 (by decide) (fun c14 => ?_) (fun c14 => ?_)
  · have h := (if_pos c14).symm.trans h
    refine lv_iconst (v := (0 : Int32)) hx hb dC2_hasGoodMarks_20 (by decide) ?_
    exact hend _ _ _ (Option.some.inj h) rfl dC2_hasGoodMarks_21
  · have h := (if_neg c14).symm.trans h
    refine lv_aload_n hx hb dC2_hasGoodMarks_9 rfl (lv_at hl 0 rfl) ?_
    refine va_get (D := (dC, dI)) (ci := 2) (v := .ref (ad 11)) (C := RC2) (T := TC2) (N := 10) hx hb hts inC2 hown hK hP 2 rfl rfl 3 (by decide) (hts _ mw_45) (fun _ h9 => h9) rfl dC2_hasGoodMarks_10 ?_
    refine lv_iload_n hx hb dC2_hasGoodMarks_13 rfl (lv_at hl 1 rfl) ?_
    obtain ⟨b2, h⟩ := gx_nb h
    refine va_iald hx hb hK hP 11 6 rfl rfl b2 dC2_hasGoodMarks_14 ?_
    refine lv_bipush (v := (15 : Int32)) hx hb dC2_hasGoodMarks_15 (by decide) ?_
    refine lv_icmp_le (tgt := 22) hx hb dC2_hasGoodMarks_17 (by decide) (fun c13 => ?_) (fun c13 => ?_)
    · have h := (if_pos c13).symm.trans h
      refine lv_aload_n hx hb dC2_hasGoodMarks_22 rfl (lv_at hl 0 rfl) ?_
      refine va_get (D := (dC, dI)) (ci := 2) (v := .ref (ad 1)) (C := RC2) (T := TC2) (N := 10) hx hb hts inC2 hown hK hP 2 rfl rfl 0 (by decide) (hts _ mw_57) (fun _ h9 => h9) rfl dC2_hasGoodMarks_23 ?_
      refine lv_aload_n hx hb dC2_hasGoodMarks_26 rfl (lv_at hl 0 rfl) ?_
      refine va_get (D := (dC, dI)) (ci := 2) (v := .ref (ad 9)) (C := RC2) (T := TC2) (N := 10) hx hb hts inC2 hown hK hP 2 rfl rfl 1 (by decide) (hts _ mw_42) (fun _ h9 => h9) rfl dC2_hasGoodMarks_27 ?_
      refine lv_iload_n hx hb dC2_hasGoodMarks_30 rfl (lv_at hl 1 rfl) ?_
      obtain ⟨b3, h⟩ := gx_nb h
      refine va_iald hx hb hK hP 9 4 rfl rfl b3 dC2_hasGoodMarks_31 ?_
      obtain ⟨v4, ev4, h⟩ := Option.bind_eq_some_iff.mp h
      refine gcall_r (b := ad 1) (As := [.int (σ.1 9 x1.toNatClampNeg)]) (rest := []) C hK hP (ci := 1) (q0 := 1) rfl rfl (kC1_isInterface l dC dI ad cA σ (σ.1 9 x1.toNatClampNeg) v4 ev4) (cwV 1 hts (gw mw_59 mw_15 mw_16 mw_7 mw_17) rfl rfl rfl hdC1_isInterface ⟨Nat.le_of_ble_eq_true rfl, Nat.le_of_ble_eq_true rfl⟩) rfl hl.1 rfl (Nat.le_of_ble_eq_true rfl) dC2_hasGoodMarks_32 ⟨Nat.le_refl _, Nat.le_refl _⟩ ?_
      refine lv_if_eq (tgt := 50) hx hb dC2_hasGoodMarks_35 (by decide) (fun c12 => ?_) (fun c12 => ?_)
      · have h := (if_pos c12).symm.trans h
        exact wC2_hasGoodMarks_b50 C hK hP hend _ _ (lv_sub hl [0, 1] rfl) h
      · have h := (if_neg c12).symm.trans h
        refine lv_aload_n hx hb dC2_hasGoodMarks_38 rfl (lv_at hl 0 rfl) ?_
        refine lv_iload_n hx hb dC2_hasGoodMarks_39 rfl (lv_at hl 1 rfl) ?_
        obtain ⟨v10, ev10, h⟩ := Option.bind_eq_some_iff.mp h
        refine gcall_r (b := ad 2) (As := [.int (x1)]) (rest := []) C hK hP (ci := 2) (q0 := 2) rfl rfl (kC2_isPrivate l dC dI ad cA σ x1 v10 ev10) (cwV 1 hts (gw mw_68 mw_69 mw_70 mw_40 mw_71) rfl rfl rfl hdC2_isPrivate ⟨Nat.le_of_ble_eq_true rfl, Nat.le_of_ble_eq_true rfl⟩) rfl hl.1 rfl (Nat.le_of_ble_eq_true rfl) dC2_hasGoodMarks_40 ⟨Nat.le_refl _, Nat.le_refl _⟩ ?_
        refine lv_if_eq (tgt := 50) hx hb dC2_hasGoodMarks_43 (by decide) (fun c11 => ?_) (fun c11 => ?_)
        · have h := (if_pos c11).symm.trans h
          exact wC2_hasGoodMarks_b50 C hK hP hend _ _ (lv_sub hl [0, 1] rfl) h
        · have h := (if_neg c11).symm.trans h
          refine lv_iconst (v := (1 : Int32)) hx hb dC2_hasGoodMarks_46 (by decide) ?_
          refine lv_goto (tgt := 51) hx hb dC2_hasGoodMarks_47 (by decide) ?_
          exact wC2_hasGoodMarks_b51 C hK hP hend _ _ _ (lv_sub hl [0, 1] rfl) h
    · have h := (if_neg c13).symm.trans h
      refine lv_iconst (v := (0 : Int32)) hx hb dC2_hasGoodMarks_20 (by decide) ?_
      exact hend _ _ _ (Option.some.inj h) rfl dC2_hasGoodMarks_21
set_option maxHeartbeats 4000000 in
set_option maxRecDepth 100000 in
theorem kC2_hasGoodMarks (l : Launch) (dC : Nat → ClassId) (dI : Nat → Nat → Nat) (ad : Nat → Nat) (cA : Nat → ClassId) (σ : xSt) (x1 : Int32) (r : Int32) (h : fC2_hasGoodMarks σ x1 = some r) : Met l yC2_hasGoodMarks wsC2_hasGoodMarks rm_C2_hasGoodMarks (va_Pc [.ref (ad 2), .int (x1)] (fun U => va_P (dC, dI) vwC (xW ad cA σ) U.heap ∧ va_K (dC, dI) vwC (xT cA) U)) (vp_Si (fun v => v = r)) 0 0 (fun _ => False) := by
  refine Met.ofW (cc := cC2_hasGoodMarks) (maxL := 3) (ret := (some .boolean)) (by decide) rfl ?_
  intro p e s m args below meth c s₁ B hml hv
  obtain ⟨rfl, hP, hK⟩ := hv
  have hr := B.returns
  have hlocks := B.notSynchronized
  have hl := lv_entry ([.ref (ad 2), .int (x1)]) (n := 3) (Nat.le_of_ble_eq_true rfl)
  rw [lg_entry_eq]
  exact wC2_hasGoodMarks ⟨B.exec, B.bytes, hml, findClass_of_methodNamed B.named, fun w h => atoms_spec (ws := wsC2_hasGoodMarks) B.pre w (List.mem_cons_of_mem _ h)⟩ hK hP (fun v pc ls hv hn hd => W.zret (v := v) B.exec B.bytes hr hn (fun t ht hW => ⟨v, rfl, hv, ht⟩) (fun q hq => absurd hq List.not_mem_nil) hd) _ hl h
abbrev rm_C1_isElement : Room := { frames := 1, cells := 0, slots := 0, locals := 21 }
def fC1_isElement_b10 (σ : xSt) (x1 : Int32) : Option Int32 :=
  (fC1_isTold σ x1).bind fun v1 =>
  if v1 = 0 then
    some (0 : Int32)
  else
    some (1 : Int32)
set_option maxHeartbeats 4000000 in
set_option maxRecDepth 100000 in
theorem wC1_isElement_b10 {p : Program} {l : Launch} {e : Env} {s : State} {m : MethodId} {args : Array Value} {below : List Frame} {meth : Method} {c : Code} {Q : State → Prop} {dC : Nat → ClassId} {dI : Nat → Nat → Nat} {ad : Nat → Nat} {cA : Nat → ClassId} {r : Int32} {H : Heap} {locs : List Loc} {σ : xSt} (C : CallFix p m c cC1_isElement 2 s args wAll RC1) (hK : va_K (dC, dI) vwC (xT cA) s) (hP : va_P (dC, dI) vwC (xW ad cA σ) H) (hend : ∀ (v : Int32) (pc : Nat) (ls : Array Slot), v = r → narrow .boolean (.int v) = .int v → decode cC1_isElement pc = .ok (.ireturn, 1) → W p l e rm_C1_isElement s m args below meth c H locs 0 0 Q (F0 m pc ls [.int v])) :
    ∀ (x1 : Int32) (ls : Array Slot), lv_has ls 2 [(0, .ref (ad 1)), (1, .int (x1))] → fC1_isElement_b10 σ x1 = some r → W p l e rm_C1_isElement s m args below meth c H locs 0 0 Q (F0 m 10 ls []) := by
  obtain ⟨hx, hb, hml, hown, hts⟩ := id C
  intro x1 ls hl h
  unfold fC1_isElement_b10 at h
  refine lv_aload_n hx hb dC1_isElement_10 rfl (lv_at hl 0 rfl) ?_
  refine lv_iload_n hx hb dC1_isElement_11 rfl (lv_at hl 1 rfl) ?_
  obtain ⟨v1, ev1, h⟩ := Option.bind_eq_some_iff.mp h
  refine gcall_r (b := ad 1) (As := [.int (x1)]) (rest := []) C hK hP (ci := 1) (q0 := 1) rfl rfl (kC1_isTold l dC dI ad cA σ x1 v1 ev1) (cwV 1 hts (gw mw_13 mw_10 mw_11 mw_7 mw_12) rfl rfl rfl hdC1_isTold ⟨Nat.le_of_ble_eq_true rfl, Nat.le_of_ble_eq_true rfl⟩) rfl hl.1 rfl (Nat.le_of_ble_eq_true rfl) dC1_isElement_12 ⟨Nat.le_refl _, Nat.le_refl _⟩ ?_
  refine lv_if_eq (tgt := 22) hx hb dC1_isElement_15 (by decide) (fun c2 => ?_) (fun c2 => ?_)
  · have h := (if_pos c2).symm.trans h
    refine lv_iconst (v := (0 : Int32)) hx hb dC1_isElement_22 (by decide) ?_
    exact hend _ _ _ (Option.some.inj h) rfl dC1_isElement_23
  · have h := (if_neg c2).symm.trans h
    refine lv_iconst (v := (1 : Int32)) hx hb dC1_isElement_18 (by decide) ?_
    refine lv_goto (tgt := 23) hx hb dC1_isElement_19 (by decide) ?_
    exact hend _ _ _ (Option.some.inj h) rfl dC1_isElement_23
def fC1_isElement (σ : xSt) (x1 : Int32) : Option Int32 :=
  if x1 < 0 then
    fC1_isElement_b10 σ x1
  else
    if x1 ≤ (9 : Int32) then
      some (1 : Int32)
    else
      fC1_isElement_b10 σ x1
set_option maxHeartbeats 4000000 in
set_option maxRecDepth 100000 in
theorem wC1_isElement {p : Program} {l : Launch} {e : Env} {s : State} {m : MethodId} {args : Array Value} {below : List Frame} {meth : Method} {c : Code} {Q : State → Prop} {dC : Nat → ClassId} {dI : Nat → Nat → Nat} {ad : Nat → Nat} {cA : Nat → ClassId} {r : Int32} {H : Heap} {locs : List Loc} {σ : xSt} (C : CallFix p m c cC1_isElement 2 s args wAll RC1) (hK : va_K (dC, dI) vwC (xT cA) s) (hP : va_P (dC, dI) vwC (xW ad cA σ) H) (hend : ∀ (v : Int32) (pc : Nat) (ls : Array Slot), v = r → narrow .boolean (.int v) = .int v → decode cC1_isElement pc = .ok (.ireturn, 1) → W p l e rm_C1_isElement s m args below meth c H locs 0 0 Q (F0 m pc ls [.int v])) {x1 : Int32} (ls : Array Slot) (hl : lv_has ls 2 [(0, .ref (ad 1)), (1, .int (x1))]) (h : fC1_isElement σ x1 = some r) : W p l e rm_C1_isElement s m args below meth c H locs 0 0 Q (F0 m 0 ls []) := by
  obtain ⟨hx, hb, hml, hown, hts⟩ := id C
  unfold fC1_isElement at h
  refine lv_iload_n hx hb dC1_isElement_0 rfl (lv_at hl 1 rfl) ?_
  refine lv_if_lt (tgt := 10) hx hb dC1_isElement_1 (by decide) (fun c4 => ?_) (fun c4 => ?_)
  · have h := (if_pos c4).symm.trans h
    exact wC1_isElement_b10 C hK hP hend _ _ (lv_sub hl [0, 1] rfl) h
  · have h := (if_neg c4).symm.trans h
    refine lv_iload_n hx hb dC1_isElement_4 rfl (lv_at hl 1 rfl) ?_
    refine lv_bipush (v := (9 : Int32)) hx hb dC1_isElement_5 (by decide) ?_
    refine lv_icmp_le (tgt := 18) hx hb dC1_isElement_7 (by decide) (fun c3 => ?_) (fun c3 => ?_)
    · have h := (if_pos c3).symm.trans h
      refine lv_iconst (v := (1 : Int32)) hx hb dC1_isElement_18 (by decide) ?_
      refine lv_goto (tgt := 23) hx hb dC1_isElement_19 (by decide) ?_
      exact hend _ _ _ (Option.some.inj h) rfl dC1_isElement_23
    · have h := (if_neg c3).symm.trans h
      exact wC1_isElement_b10 C hK hP hend _ _ (lv_sub hl [0, 1] rfl) h
set_option maxHeartbeats 4000000 in
set_option maxRecDepth 100000 in
theorem kC1_isElement (l : Launch) (dC : Nat → ClassId) (dI : Nat → Nat → Nat) (ad : Nat → Nat) (cA : Nat → ClassId) (σ : xSt) (x1 : Int32) (r : Int32) (h : fC1_isElement σ x1 = some r) : Met l yC1_isElement wsC1_isElement rm_C1_isElement (va_Pc [.ref (ad 1), .int (x1)] (fun U => va_P (dC, dI) vwC (xW ad cA σ) U.heap ∧ va_K (dC, dI) vwC (xT cA) U)) (vp_Si (fun v => v = r)) 0 0 (fun _ => False) := by
  refine Met.ofW (cc := cC1_isElement) (maxL := 2) (ret := (some .boolean)) (by decide) rfl ?_
  intro p e s m args below meth c s₁ B hml hv
  obtain ⟨rfl, hP, hK⟩ := hv
  have hr := B.returns
  have hlocks := B.notSynchronized
  have hl := lv_entry ([.ref (ad 1), .int (x1)]) (n := 2) (Nat.le_of_ble_eq_true rfl)
  rw [lg_entry_eq]
  exact wC1_isElement ⟨B.exec, B.bytes, hml, findClass_of_methodNamed B.named, fun w h => atoms_spec (ws := wsC1_isElement) B.pre w (List.mem_cons_of_mem _ h)⟩ hK hP (fun v pc ls hv hn hd => W.zret (v := v) B.exec B.bytes hr hn (fun t ht hW => ⟨v, rfl, hv, ht⟩) (fun q hq => absurd hq List.not_mem_nil) hd) _ hl h
abbrev rm_C1_isArray : Room := { frames := 2, cells := 0, slots := 0, locals := 42 }
def fC1_isArray (σ : xSt) (x1 : Int32) : Option Int32 :=
  if x1 < (64 : Int32) then
    some (0 : Int32)
  else
    (fC1_isElement σ (x1 - (64 : Int32))).bind fun v1 =>
    if v1 = 0 then
      some (0 : Int32)
    else
      some (1 : Int32)
set_option maxHeartbeats 4000000 in
set_option maxRecDepth 100000 in
theorem wC1_isArray {p : Program} {l : Launch} {e : Env} {s : State} {m : MethodId} {args : Array Value} {below : List Frame} {meth : Method} {c : Code} {Q : State → Prop} {dC : Nat → ClassId} {dI : Nat → Nat → Nat} {ad : Nat → Nat} {cA : Nat → ClassId} {r : Int32} {H : Heap} {locs : List Loc} {σ : xSt} (C : CallFix p m c cC1_isArray 2 s args wAll RC1) (hK : va_K (dC, dI) vwC (xT cA) s) (hP : va_P (dC, dI) vwC (xW ad cA σ) H) (hend : ∀ (v : Int32) (pc : Nat) (ls : Array Slot), v = r → narrow .boolean (.int v) = .int v → decode cC1_isArray pc = .ok (.ireturn, 1) → W p l e rm_C1_isArray s m args below meth c H locs 0 0 Q (F0 m pc ls [.int v])) {x1 : Int32} (ls : Array Slot) (hl : lv_has ls 2 [(0, .ref (ad 1)), (1, .int (x1))]) (h : fC1_isArray σ x1 = some r) : W p l e rm_C1_isArray s m args below meth c H locs 0 0 Q (F0 m 0 ls []) := by
  obtain ⟨hx, hb, hml, hown, hts⟩ := id C
  unfold fC1_isArray at h
  refine lv_iload_n hx hb dC1_isArray_0 rfl (lv_at hl 1 rfl) ?_
  refine lv_bipush (v := (64 : Int32)) hx hb dC1_isArray_1 (by decide) ?_
  refine lv_icmp_lt (tgt := 21) hx hb dC1_isArray_3 (by decide) (fun c3 => ?_) (fun c3 => ?_)
  · have h := (if_pos c3).symm.trans h
    refine lv_iconst (v := (0 : Int32)) hx hb dC1_isArray_21 (by decide) ?_
    exact hend _ _ _ (Option.some.inj h) rfl dC1_isArray_22
  · have h := (if_neg c3).symm.trans h
    refine lv_aload_n hx hb dC1_isArray_6 rfl (lv_at hl 0 rfl) ?_
    refine lv_iload_n hx hb dC1_isArray_7 rfl (lv_at hl 1 rfl) ?_
    refine lv_bipush (v := (64 : Int32)) hx hb dC1_isArray_8 (by decide) ?_
    refine lv_isub hx hb dC1_isArray_10 ?_
    obtain ⟨v1, ev1, h⟩ := Option.bind_eq_some_iff.mp h
    refine gcall_r (b := ad 1) (As := [.int (x1 - (64 : Int32))]) (rest := []) C hK hP (ci := 1) (q0 := 1) rfl rfl (kC1_isElement l dC dI ad cA σ (x1 - (64 : Int32)) v1 ev1) (cwV 1 hts (gw mw_76 mw_77 mw_78 mw_7 mw_79) rfl rfl rfl hdC1_isElement ⟨Nat.le_of_ble_eq_true rfl, Nat.le_of_ble_eq_true rfl⟩) rfl hl.1 rfl (Nat.le_of_ble_eq_true rfl) dC1_isArray_11 ⟨Nat.le_refl _, Nat.le_refl _⟩ ?_
    refine lv_if_eq (tgt := 21) hx hb dC1_isArray_14 (by decide) (fun c2 => ?_) (fun c2 => ?_)
    · have h := (if_pos c2).symm.trans h
      refine lv_iconst (v := (0 : Int32)) hx hb dC1_isArray_21 (by decide) ?_
      exact hend _ _ _ (Option.some.inj h) rfl dC1_isArray_22
    · have h := (if_neg c2).symm.trans h
      refine lv_iconst (v := (1 : Int32)) hx hb dC1_isArray_17 (by decide) ?_
      refine lv_goto (tgt := 22) hx hb dC1_isArray_18 (by decide) ?_
      exact hend _ _ _ (Option.some.inj h) rfl dC1_isArray_22
set_option maxHeartbeats 4000000 in
set_option maxRecDepth 100000 in
theorem kC1_isArray (l : Launch) (dC : Nat → ClassId) (dI : Nat → Nat → Nat) (ad : Nat → Nat) (cA : Nat → ClassId) (σ : xSt) (x1 : Int32) (r : Int32) (h : fC1_isArray σ x1 = some r) : Met l yC1_isArray wsC1_isArray rm_C1_isArray (va_Pc [.ref (ad 1), .int (x1)] (fun U => va_P (dC, dI) vwC (xW ad cA σ) U.heap ∧ va_K (dC, dI) vwC (xT cA) U)) (vp_Si (fun v => v = r)) 0 0 (fun _ => False) := by
  refine Met.ofW (cc := cC1_isArray) (maxL := 2) (ret := (some .boolean)) (by decide) rfl ?_
  intro p e s m args below meth c s₁ B hml hv
  obtain ⟨rfl, hP, hK⟩ := hv
  have hr := B.returns
  have hlocks := B.notSynchronized
  have hl := lv_entry ([.ref (ad 1), .int (x1)]) (n := 2) (Nat.le_of_ble_eq_true rfl)
  rw [lg_entry_eq]
  exact wC1_isArray ⟨B.exec, B.bytes, hml, findClass_of_methodNamed B.named, fun w h => atoms_spec (ws := wsC1_isArray) B.pre w (List.mem_cons_of_mem _ h)⟩ hK hP (fun v pc ls hv hn hd => W.zret (v := v) B.exec B.bytes hr hn (fun t ht hW => ⟨v, rfl, hv, ht⟩) (fun q hq => absurd hq List.not_mem_nil) hd) _ hl h
abbrev rm_C1_canBeDeclared : Room := { frames := 3, cells := 0, slots := 0, locals := 63 }
def fC1_canBeDeclared (σ : xSt) (x1 : Int32) : Option Int32 :=
  (fC1_isElement σ x1).bind fun v1 =>
  if v1 = 0 then
    (fC1_isArray σ x1).bind fun v2 =>
    if v2 = 0 then
      some (0 : Int32)
    else
      some (1 : Int32)
  else
    some (1 : Int32)
set_option maxHeartbeats 4000000 in
set_option maxRecDepth 100000 in
theorem wC1_canBeDeclared {p : Program} {l : Launch} {e : Env} {s : State} {m : MethodId} {args : Array Value} {below : List Frame} {meth : Method} {c : Code} {Q : State → Prop} {dC : Nat → ClassId} {dI : Nat → Nat → Nat} {ad : Nat → Nat} {cA : Nat → ClassId} {r : Int32} {H : Heap} {locs : List Loc} {σ : xSt} (C : CallFix p m c cC1_canBeDeclared 2 s args wAll RC1) (hK : va_K (dC, dI) vwC (xT cA) s) (hP : va_P (dC, dI) vwC (xW ad cA σ) H) (hend : ∀ (v : Int32) (pc : Nat) (ls : Array Slot), v = r → narrow .boolean (.int v) = .int v → decode cC1_canBeDeclared pc = .ok (.ireturn, 1) → W p l e rm_C1_canBeDeclared s m args below meth c H locs 0 0 Q (F0 m pc ls [.int v])) {x1 : Int32} (ls : Array Slot) (hl : lv_has ls 2 [(0, .ref (ad 1)), (1, .int (x1))]) (h : fC1_canBeDeclared σ x1 = some r) : W p l e rm_C1_canBeDeclared s m args below meth c H locs 0 0 Q (F0 m 0 ls []) := by
  obtain ⟨hx, hb, hml, hown, hts⟩ := id C
  unfold fC1_canBeDeclared at h
  refine lv_aload_n hx hb dC1_canBeDeclared_0 rfl (lv_at hl 0 rfl) ?_
  refine lv_iload_n hx hb dC1_canBeDeclared_1 rfl (lv_at hl 1 rfl) ?_
  obtain ⟨v1, ev1, h⟩ := Option.bind_eq_some_iff.mp h
  refine gcall_r (b := ad 1) (As := [.int (x1)]) (rest := []) C hK hP (ci := 1) (q0 := 1) rfl rfl (kC1_isElement l dC dI ad cA σ x1 v1 ev1) (cwV 1 hts (gw mw_76 mw_77 mw_78 mw_7 mw_79) rfl rfl rfl hdC1_isElement ⟨Nat.le_of_ble_eq_true rfl, Nat.le_of_ble_eq_true rfl⟩) rfl hl.1 rfl (Nat.le_of_ble_eq_true rfl) dC1_canBeDeclared_2 ⟨Nat.le_refl _, Nat.le_refl _⟩ ?_
  refine lv_if_ne (tgt := 16) hx hb dC1_canBeDeclared_5 (by decide) (fun c4 => ?_) (fun c4 => ?_)
  · have h := (if_neg c4).symm.trans h
    refine lv_iconst (v := (1 : Int32)) hx hb dC1_canBeDeclared_16 (by decide) ?_
    refine lv_goto (tgt := 21) hx hb dC1_canBeDeclared_17 (by decide) ?_
    exact hend _ _ _ (Option.some.inj h) rfl dC1_canBeDeclared_21
  · have h := (if_pos c4).symm.trans h
    refine lv_aload_n hx hb dC1_canBeDeclared_8 rfl (lv_at hl 0 rfl) ?_
    refine lv_iload_n hx hb dC1_canBeDeclared_9 rfl (lv_at hl 1 rfl) ?_
    obtain ⟨v2, ev2, h⟩ := Option.bind_eq_some_iff.mp h
    refine gcall_r (b := ad 1) (As := [.int (x1)]) (rest := []) C hK hP (ci := 1) (q0 := 1) rfl rfl (kC1_isArray l dC dI ad cA σ x1 v2 ev2) (cwV 1 hts (gw mw_80 mw_81 mw_82 mw_7 mw_83) rfl rfl rfl hdC1_isArray ⟨Nat.le_of_ble_eq_true rfl, Nat.le_of_ble_eq_true rfl⟩) rfl hl.1 rfl (Nat.le_of_ble_eq_true rfl) dC1_canBeDeclared_10 ⟨Nat.le_refl _, Nat.le_refl _⟩ ?_
    refine lv_if_eq (tgt := 20) hx hb dC1_canBeDeclared_13 (by decide) (fun c3 => ?_) (fun c3 => ?_)
    · have h := (if_pos c3).symm.trans h
      refine lv_iconst (v := (0 : Int32)) hx hb dC1_canBeDeclared_20 (by decide) ?_
      exact hend _ _ _ (Option.some.inj h) rfl dC1_canBeDeclared_21
    · have h := (if_neg c3).symm.trans h
      refine lv_iconst (v := (1 : Int32)) hx hb dC1_canBeDeclared_16 (by decide) ?_
      refine lv_goto (tgt := 21) hx hb dC1_canBeDeclared_17 (by decide) ?_
      exact hend _ _ _ (Option.some.inj h) rfl dC1_canBeDeclared_21
set_option maxHeartbeats 4000000 in
set_option maxRecDepth 100000 in
theorem kC1_canBeDeclared (l : Launch) (dC : Nat → ClassId) (dI : Nat → Nat → Nat) (ad : Nat → Nat) (cA : Nat → ClassId) (σ : xSt) (x1 : Int32) (r : Int32) (h : fC1_canBeDeclared σ x1 = some r) : Met l yC1_canBeDeclared wsC1_canBeDeclared rm_C1_canBeDeclared (va_Pc [.ref (ad 1), .int (x1)] (fun U => va_P (dC, dI) vwC (xW ad cA σ) U.heap ∧ va_K (dC, dI) vwC (xT cA) U)) (vp_Si (fun v => v = r)) 0 0 (fun _ => False) := by
  refine Met.ofW (cc := cC1_canBeDeclared) (maxL := 2) (ret := (some .boolean)) (by decide) rfl ?_
  intro p e s m args below meth c s₁ B hml hv
  obtain ⟨rfl, hP, hK⟩ := hv
  have hr := B.returns
  have hlocks := B.notSynchronized
  have hl := lv_entry ([.ref (ad 1), .int (x1)]) (n := 2) (Nat.le_of_ble_eq_true rfl)
  rw [lg_entry_eq]
  exact wC1_canBeDeclared ⟨B.exec, B.bytes, hml, findClass_of_methodNamed B.named, fun w h => atoms_spec (ws := wsC1_canBeDeclared) B.pre w (List.mem_cons_of_mem _ h)⟩ hK hP (fun v pc ls hv hn hd => W.zret (v := v) B.exec B.bytes hr hn (fun t ht hW => ⟨v, rfl, hv, ht⟩) (fun q hq => absurd hq List.not_mem_nil) hd) _ hl h
abbrev rm_C1_canBeResult : Room := { frames := 4, cells := 0, slots := 0, locals := 84 }
def fC1_canBeResult (σ : xSt) (x1 : Int32) : Option Int32 :=
  if x1 = (-1 : Int32) then
    some (1 : Int32)
  else
    (fC1_canBeDeclared σ x1).bind fun v1 =>
    if v1 = 0 then
      some (0 : Int32)
    else
      some (1 : Int32)
set_option maxHeartbeats 4000000 in
set_option maxRecDepth 100000 in
theorem wC1_canBeResult {p : Program} {l : Launch} {e : Env} {s : State} {m : MethodId} {args : Array Value} {below : List Frame} {meth : Method} {c : Code} {Q : State → Prop} {dC : Nat → ClassId} {dI : Nat → Nat → Nat} {ad : Nat → Nat} {cA : Nat → ClassId} {r : Int32} {H : Heap} {locs : List Loc} {σ : xSt} (C : CallFix p m c cC1_canBeResult 2 s args wAll RC1) (hK : va_K (dC, dI) vwC (xT cA) s) (hP : va_P (dC, dI) vwC (xW ad cA σ) H) (hend : ∀ (v : Int32) (pc : Nat) (ls : Array Slot), v = r → narrow .boolean (.int v) = .int v → decode cC1_canBeResult pc = .ok (.ireturn, 1) → W p l e rm_C1_canBeResult s m args below meth c H locs 0 0 Q (F0 m pc ls [.int v])) {x1 : Int32} (ls : Array Slot) (hl : lv_has ls 2 [(0, .ref (ad 1)), (1, .int (x1))]) (h : fC1_canBeResult σ x1 = some r) : W p l e rm_C1_canBeResult s m args below meth c H locs 0 0 Q (F0 m 0 ls []) := by
  obtain ⟨hx, hb, hml, hown, hts⟩ := id C
  unfold fC1_canBeResult at h
  refine lv_iload_n hx hb dC1_canBeResult_0 rfl (lv_at hl 1 rfl) ?_
  refine lv_iconst (v := (-1 : Int32)) hx hb dC1_canBeResult_1 (by decide) ?_
  refine lv_icmp_eq (tgt := 13) hx hb dC1_canBeResult_2 (by decide) (fun c3 => ?_) (fun c3 => ?_)
  · have h := (if_pos c3).symm.trans h
    refine lv_iconst (v := (1 : Int32)) hx hb dC1_canBeResult_13 (by decide) ?_
    refine lv_goto (tgt := 18) hx hb dC1_canBeResult_14 (by decide) ?_
    exact hend _ _ _ (Option.some.inj h) rfl dC1_canBeResult_18
  · have h := (if_neg c3).symm.trans h
    refine lv_aload_n hx hb dC1_canBeResult_5 rfl (lv_at hl 0 rfl) ?_
    refine lv_iload_n hx hb dC1_canBeResult_6 rfl (lv_at hl 1 rfl) ?_
    obtain ⟨v1, ev1, h⟩ := Option.bind_eq_some_iff.mp h
    refine gcall_r (b := ad 1) (As := [.int (x1)]) (rest := []) C hK hP (ci := 1) (q0 := 1) rfl rfl (kC1_canBeDeclared l dC dI ad cA σ x1 v1 ev1) (cwV 1 hts (gw mw_84 mw_85 mw_86 mw_7 mw_87) rfl rfl rfl hdC1_canBeDeclared ⟨Nat.le_of_ble_eq_true rfl, Nat.le_of_ble_eq_true rfl⟩) rfl hl.1 rfl (Nat.le_of_ble_eq_true rfl) dC1_canBeResult_7 ⟨Nat.le_refl _, Nat.le_refl _⟩ ?_
    refine lv_if_eq (tgt := 17) hx hb dC1_canBeResult_10 (by decide) (fun c2 => ?_) (fun c2 => ?_)
    · have h := (if_pos c2).symm.trans h
      refine lv_iconst (v := (0 : Int32)) hx hb dC1_canBeResult_17 (by decide) ?_
      exact hend _ _ _ (Option.some.inj h) rfl dC1_canBeResult_18
    · have h := (if_neg c2).symm.trans h
      refine lv_iconst (v := (1 : Int32)) hx hb dC1_canBeResult_13 (by decide) ?_
      refine lv_goto (tgt := 18) hx hb dC1_canBeResult_14 (by decide) ?_
      exact hend _ _ _ (Option.some.inj h) rfl dC1_canBeResult_18
set_option maxHeartbeats 4000000 in
set_option maxRecDepth 100000 in
theorem kC1_canBeResult (l : Launch) (dC : Nat → ClassId) (dI : Nat → Nat → Nat) (ad : Nat → Nat) (cA : Nat → ClassId) (σ : xSt) (x1 : Int32) (r : Int32) (h : fC1_canBeResult σ x1 = some r) : Met l yC1_canBeResult wsC1_canBeResult rm_C1_canBeResult (va_Pc [.ref (ad 1), .int (x1)] (fun U => va_P (dC, dI) vwC (xW ad cA σ) U.heap ∧ va_K (dC, dI) vwC (xT cA) U)) (vp_Si (fun v => v = r)) 0 0 (fun _ => False) := by
  refine Met.ofW (cc := cC1_canBeResult) (maxL := 2) (ret := (some .boolean)) (by decide) rfl ?_
  intro p e s m args below meth c s₁ B hml hv
  obtain ⟨rfl, hP, hK⟩ := hv
  have hr := B.returns
  have hlocks := B.notSynchronized
  have hl := lv_entry ([.ref (ad 1), .int (x1)]) (n := 2) (Nat.le_of_ble_eq_true rfl)
  rw [lg_entry_eq]
  exact wC1_canBeResult ⟨B.exec, B.bytes, hml, findClass_of_methodNamed B.named, fun w h => atoms_spec (ws := wsC1_canBeResult) B.pre w (List.mem_cons_of_mem _ h)⟩ hK hP (fun v pc ls hv hn hd => W.zret (v := v) B.exec B.bytes hr hn (fun t ht hW => ⟨v, rfl, hv, ht⟩) (fun q hq => absurd hq List.not_mem_nil) hd) _ hl h
abbrev rm_C2_hasGoodHead : Room := { frames := 5, cells := 0, slots := 0, locals := 105 }
def fC2_hasGoodHead_b41 (σ : xSt) (x1 : Int32) (s0 : Int32) : Option Int32 :=
  if s0 = 0 then
    some (0 : Int32)
  else
    (fC2_hasGoodMarks σ x1).bind fun v3 =>
    if v3 = 0 then
      some (0 : Int32)
    else
      if x1 < 0 ∨ 61 ≤ x1.toNatClampNeg then none else
      (fC1_canBeResult σ (σ.1 12 x1.toNatClampNeg)).bind fun v5 =>
      if v5 = 0 then
        some (0 : Int32)
      else
        some (1 : Int32)
set_option maxHeartbeats 4000000 in
set_option maxRecDepth 100000 in
theorem wC2_hasGoodHead_b41 {p : Program} {l : Launch} {e : Env} {s : State} {m : MethodId} {args : Array Value} {below : List Frame} {meth : Method} {c : Code} {Q : State → Prop} {dC : Nat → ClassId} {dI : Nat → Nat → Nat} {ad : Nat → Nat} {cA : Nat → ClassId} {r : Int32} {H : Heap} {locs : List Loc} {σ : xSt} (C : CallFix p m c cC2_hasGoodHead 3 s args wAll RC2) (hK : va_K (dC, dI) vwC (xT cA) s) (hP : va_P (dC, dI) vwC (xW ad cA σ) H) (hend : ∀ (v : Int32) (pc : Nat) (ls : Array Slot), v = r → narrow .boolean (.int v) = .int v → decode cC2_hasGoodHead pc = .ok (.ireturn, 1) → W p l e rm_C2_hasGoodHead s m args below meth c H locs 0 0 Q (F0 m pc ls [.int v])) :
    ∀ (x1 : Int32) (s0 : Int32) (ls : Array Slot), lv_has ls 3 [(0, .ref (ad 2)), (1, .int (x1))] → fC2_hasGoodHead_b41 σ x1 s0 = some r → W p l e rm_C2_hasGoodHead s m args below meth c H locs 0 0 Q (F0 m 41 ls [.int (s0)]) := by
  obtain ⟨hx, hb, hml, hown, hts⟩ := id C
  intro x1 s0 ls hl h
  unfold fC2_hasGoodHead_b41 at h
  refine lv_istore_n (lv' := [(2, .int (s0)), (0, .ref (ad 2)), (1, .int (x1))]) hx hb dC2_hasGoodHead_41 rfl hl (by decide) rfl (fun ls hl => ?_)
  refine lv_iload_n hx hb dC2_hasGoodHead_42 rfl (lv_at hl 0 rfl) ?_
  refine lv_if_eq (tgt := 74) hx hb dC2_hasGoodHead_43 (by decide) (fun c8 => ?_) (fun c8 => ?_)
  · have h := (if_pos c8).symm.trans h
    refine lv_iconst (v := (0 : Int32)) hx hb dC2_hasGoodHead_74 (by decide) ?_
    exact hend _ _ _ (Option.some.inj h) rfl dC2_hasGoodHead_75
  · have h := (if_neg c8).symm.trans h
    refine lv_aload_n hx hb dC2_hasGoodHead_46 rfl (lv_at hl 1 rfl) ?_
    refine lv_iload_n hx hb dC2_hasGoodHead_47 rfl (lv_at hl 2 rfl) ?_
    obtain ⟨v3, ev3, h⟩ := Option.bind_eq_some_iff.mp h
    refine gcall_r (b := ad 2) (As := [.int (x1)]) (rest := []) C hK hP (ci := 2) (q0 := 2) rfl rfl (kC2_hasGoodMarks l dC dI ad cA σ x1 v3 ev3) (cwV 1 hts (gw mw_72 mw_73 mw_74 mw_40 mw_75) rfl rfl rfl hdC2_hasGoodMarks ⟨Nat.le_of_ble_eq_true rfl, Nat.le_of_ble_eq_true rfl⟩) rfl hl.1 rfl (Nat.le_of_ble_eq_true rfl) dC2_hasGoodHead_48 ⟨Nat.le_refl _, Nat.le_refl _⟩ ?_
    refine lv_if_eq (tgt := 74) hx hb dC2_hasGoodHead_51 (by decide) (fun c7 => ?_) (fun c7 => ?_)
    · have h := (if_pos c7).symm.trans h
      refine lv_iconst (v := (0 : Int32)) hx hb dC2_hasGoodHead_74 (by decide) ?_
      exact hend _ _ _ (Option.some.inj h) rfl dC2_hasGoodHead_75
    · have h := (if_neg c7).symm.trans h
      refine lv_aload_n hx hb dC2_hasGoodHead_54 rfl (lv_at hl 1 rfl) ?_
      refine va_get (D := (dC, dI)) (ci := 2) (v := .ref (ad 1)) (C := RC2) (T := TC2) (N := 10) hx hb hts inC2 hown hK hP 2 rfl rfl 0 (by decide) (hts _ mw_57) (fun _ h9 => h9) rfl dC2_hasGoodHead_55 ?_
      refine lv_aload_n hx hb dC2_hasGoodHead_58 rfl (lv_at hl 1 rfl) ?_
      refine va_get (D := (dC, dI)) (ci := 2) (v := .ref (ad 12)) (C := RC2) (T := TC2) (N := 10) hx hb hts inC2 hown hK hP 2 rfl rfl 4 (by decide) (hts _ mw_46) (fun _ h9 => h9) rfl dC2_hasGoodHead_59 ?_
      refine lv_iload_n hx hb dC2_hasGoodHead_62 rfl (lv_at hl 2 rfl) ?_
      obtain ⟨b4, h⟩ := gx_nb h
      refine va_iald hx hb hK hP 12 7 rfl rfl b4 dC2_hasGoodHead_63 ?_
      obtain ⟨v5, ev5, h⟩ := Option.bind_eq_some_iff.mp h
      refine gcall_r (b := ad 1) (As := [.int (σ.1 12 x1.toNatClampNeg)]) (rest := []) C hK hP (ci := 1) (q0 := 1) rfl rfl (kC1_canBeResult l dC dI ad cA σ (σ.1 12 x1.toNatClampNeg) v5 ev5) (cwV 1 hts (gw mw_88 mw_89 mw_90 mw_7 mw_91) rfl rfl rfl hdC1_canBeResult ⟨Nat.le_of_ble_eq_true rfl, Nat.le_of_ble_eq_true rfl⟩) rfl hl.1 rfl (Nat.le_of_ble_eq_true rfl) dC2_hasGoodHead_64 ⟨Nat.le_refl _, Nat.le_refl _⟩ ?_
      refine lv_if_eq (tgt := 74) hx hb dC2_hasGoodHead_67 (by decide) (fun c6 => ?_) (fun c6 => ?_)
      · have h := (if_pos c6).symm.trans h
        refine lv_iconst (v := (0 : Int32)) hx hb dC2_hasGoodHead_74 (by decide) ?_
        exact hend _ _ _ (Option.some.inj h) rfl dC2_hasGoodHead_75
      · have h := (if_neg c6).symm.trans h
        refine lv_iconst (v := (1 : Int32)) hx hb dC2_hasGoodHead_70 (by decide) ?_
        refine lv_goto (tgt := 75) hx hb dC2_hasGoodHead_71 (by decide) ?_
        exact hend _ _ _ (Option.some.inj h) rfl dC2_hasGoodHead_75
def fC2_hasGoodHead_b40 (σ : xSt) (x1 : Int32) : Option Int32 :=
  fC2_hasGoodHead_b41 σ x1 (0 : Int32)
set_option maxHeartbeats 4000000 in
set_option maxRecDepth 100000 in
theorem wC2_hasGoodHead_b40 {p : Program} {l : Launch} {e : Env} {s : State} {m : MethodId} {args : Array Value} {below : List Frame} {meth : Method} {c : Code} {Q : State → Prop} {dC : Nat → ClassId} {dI : Nat → Nat → Nat} {ad : Nat → Nat} {cA : Nat → ClassId} {r : Int32} {H : Heap} {locs : List Loc} {σ : xSt} (C : CallFix p m c cC2_hasGoodHead 3 s args wAll RC2) (hK : va_K (dC, dI) vwC (xT cA) s) (hP : va_P (dC, dI) vwC (xW ad cA σ) H) (hend : ∀ (v : Int32) (pc : Nat) (ls : Array Slot), v = r → narrow .boolean (.int v) = .int v → decode cC2_hasGoodHead pc = .ok (.ireturn, 1) → W p l e rm_C2_hasGoodHead s m args below meth c H locs 0 0 Q (F0 m pc ls [.int v])) :
    ∀ (x1 : Int32) (ls : Array Slot), lv_has ls 3 [(0, .ref (ad 2)), (1, .int (x1))] → fC2_hasGoodHead_b40 σ x1 = some r → W p l e rm_C2_hasGoodHead s m args below meth c H locs 0 0 Q (F0 m 40 ls []) := by
  obtain ⟨hx, hb, hml, hown, hts⟩ := id C
  intro x1 ls hl h
  unfold fC2_hasGoodHead_b40 at h
  refine lv_iconst (v := (0 : Int32)) hx hb dC2_hasGoodHead_40 (by decide) ?_
  exact wC2_hasGoodHead_b41 C hK hP hend _ _ _ (lv_sub hl [0, 1] rfl) h
def fC2_hasGoodHead (σ : xSt) (x1 : Int32) : Option Int32 :=
  if x1 < 0 ∨ 61 ≤ x1.toNatClampNeg then none else
  (fC1_isTold σ (σ.1 9 x1.toNatClampNeg)).bind fun v2 =>
  if v2 = 0 then
    fC2_hasGoodHead_b40 σ x1
  else
    if x1 < 0 ∨ 61 ≤ x1.toNatClampNeg then none else
    if (σ.1 10 x1.toNatClampNeg) < 0 then
      fC2_hasGoodHead_b40 σ x1
    else
      if x1 < 0 ∨ 61 ≤ x1.toNatClampNeg then none else
      if (16 : Int32) ≤ (σ.1 10 x1.toNatClampNeg) then
        fC2_hasGoodHead_b40 σ x1
      else
        fC2_hasGoodHead_b41 σ x1 (1 : Int32)
set_option maxHeartbeats 4000000 in
set_option maxRecDepth 100000 in
theorem wC2_hasGoodHead {p : Program} {l : Launch} {e : Env} {s : State} {m : MethodId} {args : Array Value} {below : List Frame} {meth : Method} {c : Code} {Q : State → Prop} {dC : Nat → ClassId} {dI : Nat → Nat → Nat} {ad : Nat → Nat} {cA : Nat → ClassId} {r : Int32} {H : Heap} {locs : List Loc} {σ : xSt} (C : CallFix p m c cC2_hasGoodHead 3 s args wAll RC2) (hK : va_K (dC, dI) vwC (xT cA) s) (hP : va_P (dC, dI) vwC (xW ad cA σ) H) (hend : ∀ (v : Int32) (pc : Nat) (ls : Array Slot), v = r → narrow .boolean (.int v) = .int v → decode cC2_hasGoodHead pc = .ok (.ireturn, 1) → W p l e rm_C2_hasGoodHead s m args below meth c H locs 0 0 Q (F0 m pc ls [.int v])) {x1 : Int32} (ls : Array Slot) (hl : lv_has ls 3 [(0, .ref (ad 2)), (1, .int (x1))]) (h : fC2_hasGoodHead σ x1 = some r) : W p l e rm_C2_hasGoodHead s m args below meth c H locs 0 0 Q (F0 m 0 ls []) := by
  obtain ⟨hx, hb, hml, hown, hts⟩ := id C
  unfold fC2_hasGoodHead at h
  refine lv_aload_n hx hb dC2_hasGoodHead_0 rfl (lv_at hl 0 rfl) ?_
  refine va_get (D := (dC, dI)) (ci := 2) (v := .ref (ad 1)) (C := RC2) (T := TC2) (N := 10) hx hb hts inC2 hown hK hP 2 rfl rfl 0 (by decide) (hts _ mw_57) (fun _ h9 => h9) rfl dC2_hasGoodHead_1 ?_
  refine lv_aload_n hx hb dC2_hasGoodHead_4 rfl (lv_at hl 0 rfl) ?_
  refine va_get (D := (dC, dI)) (ci := 2) (v := .ref (ad 9)) (C := RC2) (T := TC2) (N := 10) hx hb hts inC2 hown hK hP 2 rfl rfl 1 (by decide) (hts _ mw_42) (fun _ h9 => h9) rfl dC2_hasGoodHead_5 ?_
  refine lv_iload_n hx hb dC2_hasGoodHead_8 rfl (lv_at hl 1 rfl) ?_
  obtain ⟨b1, h⟩ := gx_nb h
  refine va_iald hx hb hK hP 9 4 rfl rfl b1 dC2_hasGoodHead_9 ?_
  obtain ⟨v2, ev2, h⟩ := Option.bind_eq_some_iff.mp h
  refine gcall_r (b := ad 1) (As := [.int (σ.1 9 x1.toNatClampNeg)]) (rest := []) C hK hP (ci := 1) (q0 := 1) rfl rfl (kC1_isTold l dC dI ad cA σ (σ.1 9 x1.toNatClampNeg) v2 ev2) (cwV 1 hts (gw mw_58 mw_10 mw_11 mw_7 mw_12) rfl rfl rfl hdC1_isTold ⟨Nat.le_of_ble_eq_true rfl, Nat.le_of_ble_eq_true rfl⟩) rfl hl.1 rfl (Nat.le_of_ble_eq_true rfl) dC2_hasGoodHead_10 ⟨Nat.le_refl _, Nat.le_refl _⟩ ?_
  refine lv_if_eq (tgt := 40) hx hb dC2_hasGoodHead_13 (by decide) (fun c13 => ?_) (fun c13 => ?_)
  · have h := (if_pos c13).symm.trans h
    exact wC2_hasGoodHead_b40 C hK hP hend _ _ (lv_sub hl [0, 1] rfl) h
  · have h := (if_neg c13).symm.trans h
    refine lv_aload_n hx hb dC2_hasGoodHead_16 rfl (lv_at hl 0 rfl) ?_
    refine va_get (D := (dC, dI)) (ci := 2) (v := .ref (ad 10)) (C := RC2) (T := TC2) (N := 10) hx hb hts inC2 hown hK hP 2 rfl rfl 2 (by decide) (hts _ mw_44) (fun _ h9 => h9) rfl dC2_hasGoodHead_17 ?_
    refine lv_iload_n hx hb dC2_hasGoodHead_20 rfl (lv_at hl 1 rfl) ?_
    obtain ⟨b9, h⟩ := gx_nb h
    refine va_iald hx hb hK hP 10 5 rfl rfl b9 dC2_hasGoodHead_21 ?_
    refine lv_if_lt (tgt := 40) hx hb dC2_hasGoodHead_22 (by decide) (fun c12 => ?_) (fun c12 => ?_)
    · have h := (if_pos c12).symm.trans h
      exact wC2_hasGoodHead_b40 C hK hP hend _ _ (lv_sub hl [0, 1] rfl) h
    · have h := (if_neg c12).symm.trans h
      refine lv_aload_n hx hb dC2_hasGoodHead_25 rfl (lv_at hl 0 rfl) ?_
      refine va_get (D := (dC, dI)) (ci := 2) (v := .ref (ad 10)) (C := RC2) (T := TC2) (N := 10) hx hb hts inC2 hown hK hP 2 rfl rfl 2 (by decide) (hts _ mw_44) (fun _ h9 => h9) rfl dC2_hasGoodHead_26 ?_
      refine lv_iload_n hx hb dC2_hasGoodHead_29 rfl (lv_at hl 1 rfl) ?_
      obtain ⟨b10, h⟩ := gx_nb h
      refine va_iald hx hb hK hP 10 5 rfl rfl b10 dC2_hasGoodHead_30 ?_
      refine lv_bipush (v := (16 : Int32)) hx hb dC2_hasGoodHead_31 (by decide) ?_
      refine lv_icmp_ge (tgt := 40) hx hb dC2_hasGoodHead_33 (by decide) (fun c11 => ?_) (fun c11 => ?_)
      · have h := (if_pos c11).symm.trans h
        exact wC2_hasGoodHead_b40 C hK hP hend _ _ (lv_sub hl [0, 1] rfl) h
      · have h := (if_neg c11).symm.trans h
        refine lv_iconst (v := (1 : Int32)) hx hb dC2_hasGoodHead_36 (by decide) ?_
        refine lv_goto (tgt := 41) hx hb dC2_hasGoodHead_37 (by decide) ?_
        exact wC2_hasGoodHead_b41 C hK hP hend _ _ _ (lv_sub hl [0, 1] rfl) h
set_option maxHeartbeats 4000000 in
set_option maxRecDepth 100000 in
theorem kC2_hasGoodHead (l : Launch) (dC : Nat → ClassId) (dI : Nat → Nat → Nat) (ad : Nat → Nat) (cA : Nat → ClassId) (σ : xSt) (x1 : Int32) (r : Int32) (h : fC2_hasGoodHead σ x1 = some r) : Met l yC2_hasGoodHead wsC2_hasGoodHead rm_C2_hasGoodHead (va_Pc [.ref (ad 2), .int (x1)] (fun U => va_P (dC, dI) vwC (xW ad cA σ) U.heap ∧ va_K (dC, dI) vwC (xT cA) U)) (vp_Si (fun v => v = r)) 0 0 (fun _ => False) := by
  refine Met.ofW (cc := cC2_hasGoodHead) (maxL := 3) (ret := (some .boolean)) (by decide) rfl ?_
  intro p e s m args below meth c s₁ B hml hv
  obtain ⟨rfl, hP, hK⟩ := hv
  have hr := B.returns
  have hlocks := B.notSynchronized
  have hl := lv_entry ([.ref (ad 2), .int (x1)]) (n := 3) (Nat.le_of_ble_eq_true rfl)
  rw [lg_entry_eq]
  exact wC2_hasGoodHead ⟨B.exec, B.bytes, hml, findClass_of_methodNamed B.named, fun w h => atoms_spec (ws := wsC2_hasGoodHead) B.pre w (List.mem_cons_of_mem _ h)⟩ hK hP (fun v pc ls hv hn hd => W.zret (v := v) B.exec B.bytes hr hn (fun t ht hW => ⟨v, rfl, hv, ht⟩) (fun q hq => absurd hq List.not_mem_nil) hd) _ hl h
abbrev rm_C2_isVaried : Room := { frames := 0, cells := 0, slots := 0, locals := 0 }
def fC2_isVaried (σ : xSt) (x1 : Int32) : Option Int32 :=
  if x1 < 0 ∨ 61 ≤ x1.toNatClampNeg then none else
  if ((σ.1 11 x1.toNatClampNeg) &&& (8 : Int32)) = 0 then
    some (0 : Int32)
  else
    some (1 : Int32)
set_option maxHeartbeats 4000000 in
set_option maxRecDepth 100000 in
theorem wC2_isVaried {p : Program} {l : Launch} {e : Env} {s : State} {m : MethodId} {args : Array Value} {below : List Frame} {meth : Method} {c : Code} {Q : State → Prop} {dC : Nat → ClassId} {dI : Nat → Nat → Nat} {ad : Nat → Nat} {cA : Nat → ClassId} {r : Int32} {H : Heap} {locs : List Loc} {σ : xSt} (C : CallFix p m c cC2_isVaried 2 s args wAll RC2) (hK : va_K (dC, dI) vwC (xT cA) s) (hP : va_P (dC, dI) vwC (xW ad cA σ) H) (hend : ∀ (v : Int32) (pc : Nat) (ls : Array Slot), v = r → narrow .boolean (.int v) = .int v → decode cC2_isVaried pc = .ok (.ireturn, 1) → W p l e rm_C2_isVaried s m args below meth c H locs 0 0 Q (F0 m pc ls [.int v])) {x1 : Int32} (ls : Array Slot) (hl : lv_has ls 2 [(0, .ref (ad 2)), (1, .int (x1))]) (h : fC2_isVaried σ x1 = some r) : W p l e rm_C2_isVaried s m args below meth c H locs 0 0 Q (F0 m 0 ls []) := by
  obtain ⟨hx, hb, hml, hown, hts⟩ := id C
  unfold fC2_isVaried at h
  refine lv_aload_n hx hb dC2_isVaried_0 rfl (lv_at hl 0 rfl) ?_
  refine va_get (D := (dC, dI)) (ci := 2) (v := .ref (ad 11)) (C := RC2) (T := TC2) (N := 10) hx hb hts inC2 hown hK hP 2 rfl rfl 3 (by decide) (hts _ mw_45) (fun _ h9 => h9) rfl dC2_isVaried_1 ?_
  refine lv_iload_n hx hb dC2_isVaried_4 rfl (lv_at hl 1 rfl) ?_
  obtain ⟨b1, h⟩ := gx_nb h
  refine va_iald hx hb hK hP 11 6 rfl rfl b1 dC2_isVaried_5 ?_
  refine lv_bipush (v := (8 : Int32)) hx hb dC2_isVaried_6 (by decide) ?_
  refine lv_iand hx hb dC2_isVaried_8 ?_
  refine lv_if_eq (tgt := 16) hx hb dC2_isVaried_9 (by decide) (fun c2 => ?_) (fun c2 => ?_)
  · have h := (if_pos c2).symm.trans h
    refine lv_iconst (v := (0 : Int32)) hx hb dC2_isVaried_16 (by decide) ?_
    exact hend _ _ _ (Option.some.inj h) rfl dC2_isVaried_17
  · have h := (if_neg c2).symm.trans h
    refine lv_iconst (v := (1 : Int32)) hx hb dC2_isVaried_12 (by decide) ?_
    refine lv_goto (tgt := 17) hx hb dC2_isVaried_13 (by decide) ?_
    exact hend _ _ _ (Option.some.inj h) rfl dC2_isVaried_17
set_option maxHeartbeats 4000000 in
set_option maxRecDepth 100000 in
theorem kC2_isVaried (l : Launch) (dC : Nat → ClassId) (dI : Nat → Nat → Nat) (ad : Nat → Nat) (cA : Nat → ClassId) (σ : xSt) (x1 : Int32) (r : Int32) (h : fC2_isVaried σ x1 = some r) : Met l yC2_isVaried wsC2_isVaried rm_C2_isVaried (va_Pc [.ref (ad 2), .int (x1)] (fun U => va_P (dC, dI) vwC (xW ad cA σ) U.heap ∧ va_K (dC, dI) vwC (xT cA) U)) (vp_Si (fun v => v = r)) 0 0 (fun _ => False) := by
  refine Met.ofW (cc := cC2_isVaried) (maxL := 2) (ret := (some .boolean)) (by decide) rfl ?_
  intro p e s m args below meth c s₁ B hml hv
  obtain ⟨rfl, hP, hK⟩ := hv
  have hr := B.returns
  have hlocks := B.notSynchronized
  have hl := lv_entry ([.ref (ad 2), .int (x1)]) (n := 2) (Nat.le_of_ble_eq_true rfl)
  rw [lg_entry_eq]
  exact wC2_isVaried ⟨B.exec, B.bytes, hml, findClass_of_methodNamed B.named, fun w h => atoms_spec (ws := wsC2_isVaried) B.pre w (List.mem_cons_of_mem _ h)⟩ hK hP (fun v pc ls hv hn hd => W.zret (v := v) B.exec B.bytes hr hn (fun t ht hW => ⟨v, rfl, hv, ht⟩) (fun q hq => absurd hq List.not_mem_nil) hd) _ hl h
abbrev rm_C2_parameterAt : Room := { frames := 0, cells := 0, slots := 0, locals := 0 }
def fC2_parameterAt (σ : xSt) (x1 : Int32) (x2 : Int32) : Option Int32 :=
  if x2 < 0 then
    some (-1 : Int32)
  else
    if x1 < 0 ∨ 61 ≤ x1.toNatClampNeg then none else
    if (σ.1 13 x1.toNatClampNeg) ≤ x2 then
      some (-1 : Int32)
    else
      if ((x1 * (4 : Int32)) + x2) < 0 ∨ 244 ≤ ((x1 * (4 : Int32)) + x2).toNatClampNeg then none else
      some (σ.1 14 ((x1 * (4 : Int32)) + x2).toNatClampNeg)
set_option maxHeartbeats 4000000 in
set_option maxRecDepth 100000 in
theorem wC2_parameterAt {p : Program} {l : Launch} {e : Env} {s : State} {m : MethodId} {args : Array Value} {below : List Frame} {meth : Method} {c : Code} {Q : State → Prop} {dC : Nat → ClassId} {dI : Nat → Nat → Nat} {ad : Nat → Nat} {cA : Nat → ClassId} {r : Int32} {H : Heap} {locs : List Loc} {σ : xSt} (C : CallFix p m c cC2_parameterAt 3 s args wAll RC2) (hK : va_K (dC, dI) vwC (xT cA) s) (hP : va_P (dC, dI) vwC (xW ad cA σ) H) (hend : ∀ (v : Int32) (pc : Nat) (ls : Array Slot), v = r → decode cC2_parameterAt pc = .ok (.ireturn, 1) → W p l e rm_C2_parameterAt s m args below meth c H locs 0 0 Q (F0 m pc ls [.int v])) {x1 : Int32} {x2 : Int32} (ls : Array Slot) (hl : lv_has ls 3 [(0, .ref (ad 2)), (1, .int (x1)), (2, .int (x2))]) (h : fC2_parameterAt σ x1 x2 = some r) : W p l e rm_C2_parameterAt s m args below meth c H locs 0 0 Q (F0 m 0 ls []) := by
  obtain ⟨hx, hb, hml, hown, hts⟩ := id C
  unfold fC2_parameterAt at h
  refine lv_iload_n hx hb dC2_parameterAt_0 rfl (lv_at hl 2 rfl) ?_
  refine lv_if_lt (tgt := 27) hx hb dC2_parameterAt_1 (by decide) (fun c4 => ?_) (fun c4 => ?_)
  · have h := (if_pos c4).symm.trans h
    refine lv_iconst (v := (-1 : Int32)) hx hb dC2_parameterAt_27 (by decide) ?_
    exact hend _ _ _ (Option.some.inj h) dC2_parameterAt_28
  · have h := (if_neg c4).symm.trans h
    refine lv_iload_n hx hb dC2_parameterAt_4 rfl (lv_at hl 2 rfl) ?_
    refine lv_aload_n hx hb dC2_parameterAt_5 rfl (lv_at hl 0 rfl) ?_
    refine va_get (D := (dC, dI)) (ci := 2) (v := .ref (ad 13)) (C := RC2) (T := TC2) (N := 10) hx hb hts inC2 hown hK hP 2 rfl rfl 5 (by decide) (hts _ mw_51) (fun _ h9 => h9) rfl dC2_parameterAt_6 ?_
    refine lv_iload_n hx hb dC2_parameterAt_9 rfl (lv_at hl 1 rfl) ?_
    obtain ⟨b1, h⟩ := gx_nb h
    refine va_iald hx hb hK hP 13 8 rfl rfl b1 dC2_parameterAt_10 ?_
    refine lv_icmp_ge (tgt := 27) hx hb dC2_parameterAt_11 (by decide) (fun c3 => ?_) (fun c3 => ?_)
    · have h := (if_pos c3).symm.trans h
      refine lv_iconst (v := (-1 : Int32)) hx hb dC2_parameterAt_27 (by decide) ?_
      exact hend _ _ _ (Option.some.inj h) dC2_parameterAt_28
    · have h := (if_neg c3).symm.trans h
      refine lv_aload_n hx hb dC2_parameterAt_14 rfl (lv_at hl 0 rfl) ?_
      refine va_get (D := (dC, dI)) (ci := 2) (v := .ref (ad 14)) (C := RC2) (T := TC2) (N := 10) hx hb hts inC2 hown hK hP 2 rfl rfl 6 (by decide) (hts _ mw_52) (fun _ h9 => h9) rfl dC2_parameterAt_15 ?_
      refine lv_iload_n hx hb dC2_parameterAt_18 rfl (lv_at hl 1 rfl) ?_
      refine lv_iconst (v := (4 : Int32)) hx hb dC2_parameterAt_19 (by decide) ?_
      refine lv_imul hx hb dC2_parameterAt_20 ?_
      refine lv_iload_n hx hb dC2_parameterAt_21 rfl (lv_at hl 2 rfl) ?_
      refine lv_iadd hx hb dC2_parameterAt_22 ?_
      obtain ⟨b2, h⟩ := gx_nb h
      refine va_iald hx hb hK hP 14 9 rfl rfl b2 dC2_parameterAt_23 ?_
      refine lv_goto (tgt := 28) hx hb dC2_parameterAt_24 (by decide) ?_
      exact hend _ _ _ (Option.some.inj h) dC2_parameterAt_28
set_option maxHeartbeats 4000000 in
set_option maxRecDepth 100000 in
theorem kC2_parameterAt (l : Launch) (dC : Nat → ClassId) (dI : Nat → Nat → Nat) (ad : Nat → Nat) (cA : Nat → ClassId) (σ : xSt) (x1 : Int32) (x2 : Int32) (r : Int32) (h : fC2_parameterAt σ x1 x2 = some r) : Met l yC2_parameterAt wsC2_parameterAt rm_C2_parameterAt (va_Pc [.ref (ad 2), .int (x1), .int (x2)] (fun U => va_P (dC, dI) vwC (xW ad cA σ) U.heap ∧ va_K (dC, dI) vwC (xT cA) U)) (vp_Si (fun v => v = r)) 0 0 (fun _ => False) := by
  refine Met.ofW (cc := cC2_parameterAt) (maxL := 3) (ret := (some .int)) (by decide) rfl ?_
  intro p e s m args below meth c s₁ B hml hv
  obtain ⟨rfl, hP, hK⟩ := hv
  have hr := B.returns
  have hlocks := B.notSynchronized
  have hl := lv_entry ([.ref (ad 2), .int (x1), .int (x2)]) (n := 3) (Nat.le_of_ble_eq_true rfl)
  rw [lg_entry_eq]
  exact wC2_parameterAt ⟨B.exec, B.bytes, hml, findClass_of_methodNamed B.named, fun w h => atoms_spec (ws := wsC2_parameterAt) B.pre w (List.mem_cons_of_mem _ h)⟩ hK hP (fun v pc ls hv hd => W.iret (v := v) B.exec B.bytes hr (fun t ht hW => ⟨v, rfl, hv, ht⟩) (fun q hq => absurd hq List.not_mem_nil) hd) _ hl h
abbrev rm_C2_hasGoodParameters : Room := { frames := 4, cells := 0, slots := 0, locals := 84 }
def fC2_hasGoodParameters_b23 (σ : xSt) : Nat → Int32 → Int32 → Option Int32
  | 0, _, _ => none
  | n + 1, x1, x2 =>
    if x1 < 0 ∨ 61 ≤ x1.toNatClampNeg then none else
    if (σ.1 13 x1.toNatClampNeg) ≤ x2 then
      (fC2_isVaried σ x1).bind fun v4 =>
      if v4 = 0 then
        some (1 : Int32)
      else
        if x1 < 0 ∨ 61 ≤ x1.toNatClampNeg then none else
        (fC2_parameterAt σ x1 ((σ.1 13 x1.toNatClampNeg) - (1 : Int32))).bind fun v6 =>
        (fC1_isArray σ v6).bind fun v7 =>
        if v7 = 0 then
          some (0 : Int32)
        else
          some (1 : Int32)
    else
      (fC2_parameterAt σ x1 x2).bind fun v10 =>
      (fC1_canBeDeclared σ v10).bind fun v11 =>
      if v11 = 0 then
        some (0 : Int32)
      else
        fC2_hasGoodParameters_b23 σ n x1 (x2 + (1 : Int32))
set_option maxHeartbeats 4000000 in
set_option maxRecDepth 100000 in
theorem wC2_hasGoodParameters_b23 {p : Program} {l : Launch} {e : Env} {s : State} {m : MethodId} {args : Array Value} {below : List Frame} {meth : Method} {c : Code} {Q : State → Prop} {dC : Nat → ClassId} {dI : Nat → Nat → Nat} {ad : Nat → Nat} {cA : Nat → ClassId} {r : Int32} {H : Heap} {locs : List Loc} {σ : xSt} (C : CallFix p m c cC2_hasGoodParameters 3 s args wAll RC2) (hK : va_K (dC, dI) vwC (xT cA) s) (hP : va_P (dC, dI) vwC (xW ad cA σ) H) (hend : ∀ (v : Int32) (pc : Nat) (ls : Array Slot), v = r → narrow .boolean (.int v) = .int v → decode cC2_hasGoodParameters pc = .ok (.ireturn, 1) → W p l e rm_C2_hasGoodParameters s m args below meth c H locs 0 0 Q (F0 m pc ls [.int v])) :
    ∀ (n : Nat) (x1 : Int32) (x2 : Int32) (ls : Array Slot), lv_has ls 3 [(0, .ref (ad 2)), (1, .int (x1)), (2, .int (x2))] → fC2_hasGoodParameters_b23 σ n x1 x2 = some r → W p l e rm_C2_hasGoodParameters s m args below meth c H locs 0 0 Q (F0 m 23 ls []) := by
  obtain ⟨hx, hb, hml, hown, hts⟩ := id C
  intro n
  induction n with
  | zero =>
    intro x1 x2 ls hl h
    rw [fC2_hasGoodParameters_b23] at h
    cases h
  | succ n ih =>
    intro x1 x2 ls hl h
    rw [fC2_hasGoodParameters_b23] at h
    refine lv_iload_n hx hb dC2_hasGoodParameters_23 rfl (lv_at hl 2 rfl) ?_
    refine lv_aload_n hx hb dC2_hasGoodParameters_24 rfl (lv_at hl 0 rfl) ?_
    refine va_get (D := (dC, dI)) (ci := 2) (v := .ref (ad 13)) (C := RC2) (T := TC2) (N := 10) hx hb hts inC2 hown hK hP 2 rfl rfl 5 (by decide) (hts _ mw_51) (fun _ h9 => h9) rfl dC2_hasGoodParameters_25 ?_
    refine lv_iload_n hx hb dC2_hasGoodParameters_28 rfl (lv_at hl 1 rfl) ?_
    obtain ⟨b3, h⟩ := gx_nb h
    refine va_iald hx hb hK hP 13 8 rfl rfl b3 dC2_hasGoodParameters_29 ?_
    refine lv_icmp_ge (tgt := 57) hx hb dC2_hasGoodParameters_30 (by decide) (fun c13 => ?_) (fun c13 => ?_)
    · have h := (if_pos c13).symm.trans h
      refine lv_aload_n hx hb dC2_hasGoodParameters_57 rfl (lv_at hl 0 rfl) ?_
      refine lv_iload_n hx hb dC2_hasGoodParameters_58 rfl (lv_at hl 1 rfl) ?_
      obtain ⟨v4, ev4, h⟩ := Option.bind_eq_some_iff.mp h
      refine gcall_r (b := ad 2) (As := [.int (x1)]) (rest := []) C hK hP (ci := 2) (q0 := 2) rfl rfl (kC2_isVaried l dC dI ad cA σ x1 v4 ev4) (cwV 1 hts (gw mw_96 mw_97 mw_98 mw_40 mw_99) rfl rfl rfl hdC2_isVaried ⟨Nat.le_of_ble_eq_true rfl, Nat.le_of_ble_eq_true rfl⟩) rfl hl.1 rfl (Nat.le_of_ble_eq_true rfl) dC2_hasGoodParameters_59 ⟨Nat.le_refl _, Nat.le_refl _⟩ ?_
      refine lv_if_eq (tgt := 88) hx hb dC2_hasGoodParameters_62 (by decide) (fun c9 => ?_) (fun c9 => ?_)
      · have h := (if_pos c9).symm.trans h
        refine lv_iconst (v := (1 : Int32)) hx hb dC2_hasGoodParameters_88 (by decide) ?_
        refine lv_goto (tgt := 93) hx hb dC2_hasGoodParameters_89 (by decide) ?_
        exact hend _ _ _ (Option.some.inj h) rfl dC2_hasGoodParameters_93
      · have h := (if_neg c9).symm.trans h
        refine lv_aload_n hx hb dC2_hasGoodParameters_65 rfl (lv_at hl 0 rfl) ?_
        refine va_get (D := (dC, dI)) (ci := 2) (v := .ref (ad 1)) (C := RC2) (T := TC2) (N := 10) hx hb hts inC2 hown hK hP 2 rfl rfl 0 (by decide) (hts _ mw_57) (fun _ h9 => h9) rfl dC2_hasGoodParameters_66 ?_
        refine lv_aload_n hx hb dC2_hasGoodParameters_69 rfl (lv_at hl 0 rfl) ?_
        refine lv_iload_n hx hb dC2_hasGoodParameters_70 rfl (lv_at hl 1 rfl) ?_
        refine lv_aload_n hx hb dC2_hasGoodParameters_71 rfl (lv_at hl 0 rfl) ?_
        refine va_get (D := (dC, dI)) (ci := 2) (v := .ref (ad 13)) (C := RC2) (T := TC2) (N := 10) hx hb hts inC2 hown hK hP 2 rfl rfl 5 (by decide) (hts _ mw_51) (fun _ h9 => h9) rfl dC2_hasGoodParameters_72 ?_
        refine lv_iload_n hx hb dC2_hasGoodParameters_75 rfl (lv_at hl 1 rfl) ?_
        obtain ⟨b5, h⟩ := gx_nb h
        refine va_iald hx hb hK hP 13 8 rfl rfl b5 dC2_hasGoodParameters_76 ?_
        refine lv_iconst (v := (1 : Int32)) hx hb dC2_hasGoodParameters_77 (by decide) ?_
        refine lv_isub hx hb dC2_hasGoodParameters_78 ?_
        obtain ⟨v6, ev6, h⟩ := Option.bind_eq_some_iff.mp h
        refine gcall_r (b := ad 2) (As := [.int (x1), .int ((σ.1 13 x1.toNatClampNeg) - (1 : Int32))]) (rest := [.ref (ad 1)]) C hK hP (ci := 2) (q0 := 2) rfl rfl (kC2_parameterAt l dC dI ad cA σ x1 ((σ.1 13 x1.toNatClampNeg) - (1 : Int32)) v6 ev6) (cwV 2 hts (gw mw_100 mw_101 mw_102 mw_40 mw_103) rfl rfl rfl hdC2_parameterAt ⟨Nat.le_of_ble_eq_true rfl, Nat.le_of_ble_eq_true rfl⟩) rfl hl.1 rfl (Nat.le_of_ble_eq_true rfl) dC2_hasGoodParameters_79 ⟨Nat.le_refl _, Nat.le_refl _⟩ ?_
        obtain ⟨v7, ev7, h⟩ := Option.bind_eq_some_iff.mp h
        refine gcall_r (b := ad 1) (As := [.int (v6)]) (rest := []) C hK hP (ci := 1) (q0 := 1) rfl rfl (kC1_isArray l dC dI ad cA σ v6 v7 ev7) (cwV 1 hts (gw mw_104 mw_81 mw_82 mw_7 mw_83) rfl rfl rfl hdC1_isArray ⟨Nat.le_of_ble_eq_true rfl, Nat.le_of_ble_eq_true rfl⟩) rfl hl.1 rfl (Nat.le_of_ble_eq_true rfl) dC2_hasGoodParameters_82 ⟨Nat.le_refl _, Nat.le_refl _⟩ ?_
        refine lv_if_eq (tgt := 92) hx hb dC2_hasGoodParameters_85 (by decide) (fun c8 => ?_) (fun c8 => ?_)
        · have h := (if_pos c8).symm.trans h
          refine lv_iconst (v := (0 : Int32)) hx hb dC2_hasGoodParameters_92 (by decide) ?_
          exact hend _ _ _ (Option.some.inj h) rfl dC2_hasGoodParameters_93
        · have h := (if_neg c8).symm.trans h
          refine lv_iconst (v := (1 : Int32)) hx hb dC2_hasGoodParameters_88 (by decide) ?_
          refine lv_goto (tgt := 93) hx hb dC2_hasGoodParameters_89 (by decide) ?_
          exact hend _ _ _ (Option.some.inj h) rfl dC2_hasGoodParameters_93
    · have h := (if_neg c13).symm.trans h
      refine lv_aload_n hx hb dC2_hasGoodParameters_33 rfl (lv_at hl 0 rfl) ?_
      refine va_get (D := (dC, dI)) (ci := 2) (v := .ref (ad 1)) (C := RC2) (T := TC2) (N := 10) hx hb hts inC2 hown hK hP 2 rfl rfl 0 (by decide) (hts _ mw_57) (fun _ h9 => h9) rfl dC2_hasGoodParameters_34 ?_
      refine lv_aload_n hx hb dC2_hasGoodParameters_37 rfl (lv_at hl 0 rfl) ?_
      refine lv_iload_n hx hb dC2_hasGoodParameters_38 rfl (lv_at hl 1 rfl) ?_
      refine lv_iload_n hx hb dC2_hasGoodParameters_39 rfl (lv_at hl 2 rfl) ?_
      obtain ⟨v10, ev10, h⟩ := Option.bind_eq_some_iff.mp h
      refine gcall_r (b := ad 2) (As := [.int (x1), .int (x2)]) (rest := [.ref (ad 1)]) C hK hP (ci := 2) (q0 := 2) rfl rfl (kC2_parameterAt l dC dI ad cA σ x1 x2 v10 ev10) (cwV 2 hts (gw mw_100 mw_101 mw_102 mw_40 mw_103) rfl rfl rfl hdC2_parameterAt ⟨Nat.le_of_ble_eq_true rfl, Nat.le_of_ble_eq_true rfl⟩) rfl hl.1 rfl (Nat.le_of_ble_eq_true rfl) dC2_hasGoodParameters_40 ⟨Nat.le_refl _, Nat.le_refl _⟩ ?_
      obtain ⟨v11, ev11, h⟩ := Option.bind_eq_some_iff.mp h
      refine gcall_r (b := ad 1) (As := [.int (v10)]) (rest := []) C hK hP (ci := 1) (q0 := 1) rfl rfl (kC1_canBeDeclared l dC dI ad cA σ v10 v11 ev11) (cwV 1 hts (gw mw_105 mw_85 mw_86 mw_7 mw_87) rfl rfl rfl hdC1_canBeDeclared ⟨Nat.le_of_ble_eq_true rfl, Nat.le_of_ble_eq_true rfl⟩) rfl hl.1 rfl (Nat.le_of_ble_eq_true rfl) dC2_hasGoodParameters_43 ⟨Nat.le_refl _, Nat.le_refl _⟩ ?_
      refine lv_if_ne (tgt := 51) hx hb dC2_hasGoodParameters_46 (by decide) (fun c12 => ?_) (fun c12 => ?_)
      · have h := (if_neg c12).symm.trans h
        refine lv_iinc (v := x2 + (1 : Int32)) (lv' := [(2, .int (x2 + (1 : Int32))), (0, .ref (ad 2)), (1, .int (x1))]) hx hb dC2_hasGoodParameters_51 hl (k := 2) rfl rfl (by decide) rfl (fun ls hl => ?_)
        refine lv_goto (tgt := 23) hx hb dC2_hasGoodParameters_54 (by decide) ?_
        exact ih _ _ _ (lv_sub hl [1, 2, 0] rfl) h
      · have h := (if_pos c12).symm.trans h
        refine lv_iconst (v := (0 : Int32)) hx hb dC2_hasGoodParameters_49 (by decide) ?_
        exact hend _ _ _ (Option.some.inj h) rfl dC2_hasGoodParameters_50
def fC2_hasGoodParameters (σ : xSt) (x1 : Int32) : Option Int32 :=
  if x1 < 0 ∨ 61 ≤ x1.toNatClampNeg then none else
  if (σ.1 13 x1.toNatClampNeg) < 0 then
    some (0 : Int32)
  else
    if x1 < 0 ∨ 61 ≤ x1.toNatClampNeg then none else
    if (σ.1 13 x1.toNatClampNeg) ≤ (4 : Int32) then
      fC2_hasGoodParameters_b23 σ gF x1 (0 : Int32)
    else
      some (0 : Int32)
set_option maxHeartbeats 4000000 in
set_option maxRecDepth 100000 in
theorem wC2_hasGoodParameters {p : Program} {l : Launch} {e : Env} {s : State} {m : MethodId} {args : Array Value} {below : List Frame} {meth : Method} {c : Code} {Q : State → Prop} {dC : Nat → ClassId} {dI : Nat → Nat → Nat} {ad : Nat → Nat} {cA : Nat → ClassId} {r : Int32} {H : Heap} {locs : List Loc} {σ : xSt} (C : CallFix p m c cC2_hasGoodParameters 3 s args wAll RC2) (hK : va_K (dC, dI) vwC (xT cA) s) (hP : va_P (dC, dI) vwC (xW ad cA σ) H) (hend : ∀ (v : Int32) (pc : Nat) (ls : Array Slot), v = r → narrow .boolean (.int v) = .int v → decode cC2_hasGoodParameters pc = .ok (.ireturn, 1) → W p l e rm_C2_hasGoodParameters s m args below meth c H locs 0 0 Q (F0 m pc ls [.int v])) {x1 : Int32} (ls : Array Slot) (hl : lv_has ls 3 [(0, .ref (ad 2)), (1, .int (x1))]) (h : fC2_hasGoodParameters σ x1 = some r) : W p l e rm_C2_hasGoodParameters s m args below meth c H locs 0 0 Q (F0 m 0 ls []) := by
  obtain ⟨hx, hb, hml, hown, hts⟩ := id C
  unfold fC2_hasGoodParameters at h
  refine lv_aload_n hx hb dC2_hasGoodParameters_0 rfl (lv_at hl 0 rfl) ?_
  refine va_get (D := (dC, dI)) (ci := 2) (v := .ref (ad 13)) (C := RC2) (T := TC2) (N := 10) hx hb hts inC2 hown hK hP 2 rfl rfl 5 (by decide) (hts _ mw_51) (fun _ h9 => h9) rfl dC2_hasGoodParameters_1 ?_
  refine lv_iload_n hx hb dC2_hasGoodParameters_4 rfl (lv_at hl 1 rfl) ?_
  obtain ⟨b1, h⟩ := gx_nb h
  refine va_iald hx hb hK hP 13 8 rfl rfl b1 dC2_hasGoodParameters_5 ?_
  refine lv_if_lt (tgt := 19) hx hb dC2_hasGoodParameters_6 (by decide) (fun c15 => ?_) (fun c15 => ?_)
  · have h := (if_pos c15).symm.trans h
    refine lv_iconst (v := (0 : Int32)) hx hb dC2_hasGoodParameters_19 (by decide) ?_
    exact hend _ _ _ (Option.some.inj h) rfl dC2_hasGoodParameters_20
  · have h := (if_neg c15).symm.trans h
    refine lv_aload_n hx hb dC2_hasGoodParameters_9 rfl (lv_at hl 0 rfl) ?_
    refine va_get (D := (dC, dI)) (ci := 2) (v := .ref (ad 13)) (C := RC2) (T := TC2) (N := 10) hx hb hts inC2 hown hK hP 2 rfl rfl 5 (by decide) (hts _ mw_51) (fun _ h9 => h9) rfl dC2_hasGoodParameters_10 ?_
    refine lv_iload_n hx hb dC2_hasGoodParameters_13 rfl (lv_at hl 1 rfl) ?_
    obtain ⟨b2, h⟩ := gx_nb h
    refine va_iald hx hb hK hP 13 8 rfl rfl b2 dC2_hasGoodParameters_14 ?_
    refine lv_iconst (v := (4 : Int32)) hx hb dC2_hasGoodParameters_15 (by decide) ?_
    refine lv_icmp_le (tgt := 21) hx hb dC2_hasGoodParameters_16 (by decide) (fun c14 => ?_) (fun c14 => ?_)
    · have h := (if_pos c14).symm.trans h
      refine lv_iconst (v := (0 : Int32)) hx hb dC2_hasGoodParameters_21 (by decide) ?_
      refine lv_istore_n (lv' := [(2, .int ((0 : Int32))), (0, .ref (ad 2)), (1, .int (x1))]) hx hb dC2_hasGoodParameters_22 rfl hl (by decide) rfl (fun ls hl => ?_)
      exact wC2_hasGoodParameters_b23 C hK hP hend _ _ _ _ (lv_sub hl [1, 2, 0] rfl) h
    · have h := (if_neg c14).symm.trans h
      refine lv_iconst (v := (0 : Int32)) hx hb dC2_hasGoodParameters_19 (by decide) ?_
      exact hend _ _ _ (Option.some.inj h) rfl dC2_hasGoodParameters_20
set_option maxHeartbeats 4000000 in
set_option maxRecDepth 100000 in
theorem kC2_hasGoodParameters (l : Launch) (dC : Nat → ClassId) (dI : Nat → Nat → Nat) (ad : Nat → Nat) (cA : Nat → ClassId) (σ : xSt) (x1 : Int32) (r : Int32) (h : fC2_hasGoodParameters σ x1 = some r) : Met l yC2_hasGoodParameters wsC2_hasGoodParameters rm_C2_hasGoodParameters (va_Pc [.ref (ad 2), .int (x1)] (fun U => va_P (dC, dI) vwC (xW ad cA σ) U.heap ∧ va_K (dC, dI) vwC (xT cA) U)) (vp_Si (fun v => v = r)) 0 0 (fun _ => False) := by
  refine Met.ofW (cc := cC2_hasGoodParameters) (maxL := 3) (ret := (some .boolean)) (by decide) rfl ?_
  intro p e s m args below meth c s₁ B hml hv
  obtain ⟨rfl, hP, hK⟩ := hv
  have hr := B.returns
  have hlocks := B.notSynchronized
  have hl := lv_entry ([.ref (ad 2), .int (x1)]) (n := 3) (Nat.le_of_ble_eq_true rfl)
  rw [lg_entry_eq]
  exact wC2_hasGoodParameters ⟨B.exec, B.bytes, hml, findClass_of_methodNamed B.named, fun w h => atoms_spec (ws := wsC2_hasGoodParameters) B.pre w (List.mem_cons_of_mem _ h)⟩ hK hP (fun v pc ls hv hn hd => W.zret (v := v) B.exec B.bytes hr hn (fun t ht hW => ⟨v, rfl, hv, ht⟩) (fun q hq => absurd hq List.not_mem_nil) hd) _ hl h
abbrev rm_C2_sameParameters : Room := { frames := 0, cells := 0, slots := 0, locals := 0 }
def fC2_sameParameters_b19 (σ : xSt) : Nat → Int32 → Int32 → Int32 → Option Int32
  | 0, _, _, _ => none
  | n + 1, x1, x2, x3 =>
    if x1 < 0 ∨ 61 ≤ x1.toNatClampNeg then none else
    if (σ.1 13 x1.toNatClampNeg) ≤ x3 then
      some (1 : Int32)
    else
      if ((x1 * (4 : Int32)) + x3) < 0 ∨ 244 ≤ ((x1 * (4 : Int32)) + x3).toNatClampNeg then none else
      if ((x2 * (4 : Int32)) + x3) < 0 ∨ 244 ≤ ((x2 * (4 : Int32)) + x3).toNatClampNeg then none else
      if (σ.1 14 ((x1 * (4 : Int32)) + x3).toNatClampNeg) = (σ.1 14 ((x2 * (4 : Int32)) + x3).toNatClampNeg) then
        fC2_sameParameters_b19 σ n x1 x2 (x3 + (1 : Int32))
      else
        some (0 : Int32)
set_option maxHeartbeats 4000000 in
set_option maxRecDepth 100000 in
theorem wC2_sameParameters_b19 {p : Program} {l : Launch} {e : Env} {s : State} {m : MethodId} {args : Array Value} {below : List Frame} {meth : Method} {c : Code} {Q : State → Prop} {dC : Nat → ClassId} {dI : Nat → Nat → Nat} {ad : Nat → Nat} {cA : Nat → ClassId} {r : Int32} {H : Heap} {locs : List Loc} {σ : xSt} (C : CallFix p m c cC2_sameParameters 4 s args wAll RC2) (hK : va_K (dC, dI) vwC (xT cA) s) (hP : va_P (dC, dI) vwC (xW ad cA σ) H) (hend : ∀ (v : Int32) (pc : Nat) (ls : Array Slot), v = r → narrow .boolean (.int v) = .int v → decode cC2_sameParameters pc = .ok (.ireturn, 1) → W p l e rm_C2_sameParameters s m args below meth c H locs 0 0 Q (F0 m pc ls [.int v])) :
    ∀ (n : Nat) (x1 : Int32) (x2 : Int32) (x3 : Int32) (ls : Array Slot), lv_has ls 4 [(0, .ref (ad 2)), (1, .int (x1)), (2, .int (x2)), (3, .int (x3))] → fC2_sameParameters_b19 σ n x1 x2 x3 = some r → W p l e rm_C2_sameParameters s m args below meth c H locs 0 0 Q (F0 m 19 ls []) := by
  obtain ⟨hx, hb, hml, hown, hts⟩ := id C
  intro n
  induction n with
  | zero =>
    intro x1 x2 x3 ls hl h
    rw [fC2_sameParameters_b19] at h
    cases h
  | succ n ih =>
    intro x1 x2 x3 ls hl h
    rw [fC2_sameParameters_b19] at h
    refine lv_iload_n hx hb dC2_sameParameters_19 rfl (lv_at hl 3 rfl) ?_
    refine lv_aload_n hx hb dC2_sameParameters_20 rfl (lv_at hl 0 rfl) ?_
    refine va_get (D := (dC, dI)) (ci := 2) (v := .ref (ad 13)) (C := RC2) (T := TC2) (N := 10) hx hb hts inC2 hown hK hP 2 rfl rfl 5 (by decide) (hts _ mw_51) (fun _ h9 => h9) rfl dC2_sameParameters_21 ?_
    refine lv_iload_n hx hb dC2_sameParameters_24 rfl (lv_at hl 1 rfl) ?_
    obtain ⟨b3, h⟩ := gx_nb h
    refine va_iald hx hb hK hP 13 8 rfl rfl b3 dC2_sameParameters_25 ?_
    refine lv_icmp_ge (tgt := 60) hx hb dC2_sameParameters_26 (by decide) (fun c7 => ?_) (fun c7 => ?_)
    · have h := (if_pos c7).symm.trans h
      refine lv_iconst (v := (1 : Int32)) hx hb dC2_sameParameters_60 (by decide) ?_
      exact hend _ _ _ (Option.some.inj h) rfl dC2_sameParameters_61
    · have h := (if_neg c7).symm.trans h
      refine lv_aload_n hx hb dC2_sameParameters_29 rfl (lv_at hl 0 rfl) ?_
      refine va_get (D := (dC, dI)) (ci := 2) (v := .ref (ad 14)) (C := RC2) (T := TC2) (N := 10) hx hb hts inC2 hown hK hP 2 rfl rfl 6 (by decide) (hts _ mw_52) (fun _ h9 => h9) rfl dC2_sameParameters_30 ?_
      refine lv_iload_n hx hb dC2_sameParameters_33 rfl (lv_at hl 1 rfl) ?_
      refine lv_iconst (v := (4 : Int32)) hx hb dC2_sameParameters_34 (by decide) ?_
      refine lv_imul hx hb dC2_sameParameters_35 ?_
      refine lv_iload_n hx hb dC2_sameParameters_36 rfl (lv_at hl 3 rfl) ?_
      refine lv_iadd hx hb dC2_sameParameters_37 ?_
      obtain ⟨b4, h⟩ := gx_nb h
      refine va_iald hx hb hK hP 14 9 rfl rfl b4 dC2_sameParameters_38 ?_
      refine lv_aload_n hx hb dC2_sameParameters_39 rfl (lv_at hl 0 rfl) ?_
      refine va_get (D := (dC, dI)) (ci := 2) (v := .ref (ad 14)) (C := RC2) (T := TC2) (N := 10) hx hb hts inC2 hown hK hP 2 rfl rfl 6 (by decide) (hts _ mw_52) (fun _ h9 => h9) rfl dC2_sameParameters_40 ?_
      refine lv_iload_n hx hb dC2_sameParameters_43 rfl (lv_at hl 2 rfl) ?_
      refine lv_iconst (v := (4 : Int32)) hx hb dC2_sameParameters_44 (by decide) ?_
      refine lv_imul hx hb dC2_sameParameters_45 ?_
      refine lv_iload_n hx hb dC2_sameParameters_46 rfl (lv_at hl 3 rfl) ?_
      refine lv_iadd hx hb dC2_sameParameters_47 ?_
      obtain ⟨b5, h⟩ := gx_nb h
      refine va_iald hx hb hK hP 14 9 rfl rfl b5 dC2_sameParameters_48 ?_
      refine lv_icmp_eq (tgt := 54) hx hb dC2_sameParameters_49 (by decide) (fun c6 => ?_) (fun c6 => ?_)
      · have h := (if_pos c6).symm.trans h
        refine lv_iinc (v := x3 + (1 : Int32)) (lv' := [(3, .int (x3 + (1 : Int32))), (0, .ref (ad 2)), (1, .int (x1)), (2, .int (x2))]) hx hb dC2_sameParameters_54 hl (k := 3) rfl rfl (by decide) rfl (fun ls hl => ?_)
        refine lv_goto (tgt := 19) hx hb dC2_sameParameters_57 (by decide) ?_
        exact ih _ _ _ _ (lv_sub hl [1, 2, 3, 0] rfl) h
      · have h := (if_neg c6).symm.trans h
        refine lv_iconst (v := (0 : Int32)) hx hb dC2_sameParameters_52 (by decide) ?_
        exact hend _ _ _ (Option.some.inj h) rfl dC2_sameParameters_53
def fC2_sameParameters (σ : xSt) (x1 : Int32) (x2 : Int32) : Option Int32 :=
  if x1 < 0 ∨ 61 ≤ x1.toNatClampNeg then none else
  if x2 < 0 ∨ 61 ≤ x2.toNatClampNeg then none else
  if (σ.1 13 x1.toNatClampNeg) = (σ.1 13 x2.toNatClampNeg) then
    fC2_sameParameters_b19 σ gF x1 x2 (0 : Int32)
  else
    some (0 : Int32)
set_option maxHeartbeats 4000000 in
set_option maxRecDepth 100000 in
theorem wC2_sameParameters {p : Program} {l : Launch} {e : Env} {s : State} {m : MethodId} {args : Array Value} {below : List Frame} {meth : Method} {c : Code} {Q : State → Prop} {dC : Nat → ClassId} {dI : Nat → Nat → Nat} {ad : Nat → Nat} {cA : Nat → ClassId} {r : Int32} {H : Heap} {locs : List Loc} {σ : xSt} (C : CallFix p m c cC2_sameParameters 4 s args wAll RC2) (hK : va_K (dC, dI) vwC (xT cA) s) (hP : va_P (dC, dI) vwC (xW ad cA σ) H) (hend : ∀ (v : Int32) (pc : Nat) (ls : Array Slot), v = r → narrow .boolean (.int v) = .int v → decode cC2_sameParameters pc = .ok (.ireturn, 1) → W p l e rm_C2_sameParameters s m args below meth c H locs 0 0 Q (F0 m pc ls [.int v])) {x1 : Int32} {x2 : Int32} (ls : Array Slot) (hl : lv_has ls 4 [(0, .ref (ad 2)), (1, .int (x1)), (2, .int (x2))]) (h : fC2_sameParameters σ x1 x2 = some r) : W p l e rm_C2_sameParameters s m args below meth c H locs 0 0 Q (F0 m 0 ls []) := by
  obtain ⟨hx, hb, hml, hown, hts⟩ := id C
  unfold fC2_sameParameters at h
  refine lv_aload_n hx hb dC2_sameParameters_0 rfl (lv_at hl 0 rfl) ?_
  refine va_get (D := (dC, dI)) (ci := 2) (v := .ref (ad 13)) (C := RC2) (T := TC2) (N := 10) hx hb hts inC2 hown hK hP 2 rfl rfl 5 (by decide) (hts _ mw_51) (fun _ h9 => h9) rfl dC2_sameParameters_1 ?_
  refine lv_iload_n hx hb dC2_sameParameters_4 rfl (lv_at hl 1 rfl) ?_
  obtain ⟨b1, h⟩ := gx_nb h
  refine va_iald hx hb hK hP 13 8 rfl rfl b1 dC2_sameParameters_5 ?_
  refine lv_aload_n hx hb dC2_sameParameters_6 rfl (lv_at hl 0 rfl) ?_
  refine va_get (D := (dC, dI)) (ci := 2) (v := .ref (ad 13)) (C := RC2) (T := TC2) (N := 10) hx hb hts inC2 hown hK hP 2 rfl rfl 5 (by decide) (hts _ mw_51) (fun _ h9 => h9) rfl dC2_sameParameters_7 ?_
  refine lv_iload_n hx hb dC2_sameParameters_10 rfl (lv_at hl 2 rfl) ?_
  obtain ⟨b2, h⟩ := gx_nb h
  refine va_iald hx hb hK hP 13 8 rfl rfl b2 dC2_sameParameters_11 ?_
  refine lv_icmp_eq (tgt := 17) hx hb dC2_sameParameters_12 (by decide) (fun c8 => ?_) (fun c8 => ?_)
  · have h := (if_pos c8).symm.trans h
    refine lv_iconst (v := (0 : Int32)) hx hb dC2_sameParameters_17 (by decide) ?_
    refine lv_istore_n (lv' := [(3, .int ((0 : Int32))), (0, .ref (ad 2)), (1, .int (x1)), (2, .int (x2))]) hx hb dC2_sameParameters_18 rfl hl (by decide) rfl (fun ls hl => ?_)
    exact wC2_sameParameters_b19 C hK hP hend _ _ _ _ _ (lv_sub hl [1, 2, 3, 0] rfl) h
  · have h := (if_neg c8).symm.trans h
    refine lv_iconst (v := (0 : Int32)) hx hb dC2_sameParameters_15 (by decide) ?_
    exact hend _ _ _ (Option.some.inj h) rfl dC2_sameParameters_16
set_option maxHeartbeats 4000000 in
set_option maxRecDepth 100000 in
theorem kC2_sameParameters (l : Launch) (dC : Nat → ClassId) (dI : Nat → Nat → Nat) (ad : Nat → Nat) (cA : Nat → ClassId) (σ : xSt) (x1 : Int32) (x2 : Int32) (r : Int32) (h : fC2_sameParameters σ x1 x2 = some r) : Met l yC2_sameParameters wsC2_sameParameters rm_C2_sameParameters (va_Pc [.ref (ad 2), .int (x1), .int (x2)] (fun U => va_P (dC, dI) vwC (xW ad cA σ) U.heap ∧ va_K (dC, dI) vwC (xT cA) U)) (vp_Si (fun v => v = r)) 0 0 (fun _ => False) := by
  refine Met.ofW (cc := cC2_sameParameters) (maxL := 4) (ret := (some .boolean)) (by decide) rfl ?_
  intro p e s m args below meth c s₁ B hml hv
  obtain ⟨rfl, hP, hK⟩ := hv
  have hr := B.returns
  have hlocks := B.notSynchronized
  have hl := lv_entry ([.ref (ad 2), .int (x1), .int (x2)]) (n := 4) (Nat.le_of_ble_eq_true rfl)
  rw [lg_entry_eq]
  exact wC2_sameParameters ⟨B.exec, B.bytes, hml, findClass_of_methodNamed B.named, fun w h => atoms_spec (ws := wsC2_sameParameters) B.pre w (List.mem_cons_of_mem _ h)⟩ hK hP (fun v pc ls hv hn hd => W.zret (v := v) B.exec B.bytes hr hn (fun t ht hW => ⟨v, rfl, hv, ht⟩) (fun q hq => absurd hq List.not_mem_nil) hd) _ hl h
