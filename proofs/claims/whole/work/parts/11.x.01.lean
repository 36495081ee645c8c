abbrev rm_C1_add : Room := { frames := 0, cells := 0, slots := 0, locals := 0 }
def fC1_add (σ : xSt) (x1 : Int32) (x2 : Int32) : Option (Int32 × xSt) :=
  if (24 : Int32) ≤ (σ.1 1 3) then
    some ((-2 : Int32), σ)
  else
    if x1 < 0 then
      some ((-2 : Int32), σ)
    else
      if x1 < (40 : Int32) then
        nm ((16 : Int32) + (σ.1 1 3)) fun y1 =>
        if x1 < 0 ∨ 40 ≤ x1.toNatClampNeg then none else
        if y1 < 0 ∨ 40 ≤ y1.toNatClampNeg then none else
        nm (sL σ 6 y1.toNatClampNeg ((σ.2 6 x1.toNatClampNeg) ||| (jlshl (1 : Int64) y1))) fun σ4 =>
        if (σ4.1 1 3) < 0 ∨ 24 ≤ (σ4.1 1 3).toNatClampNeg then none else
        nm (sI σ4 8 (σ4.1 1 3).toNatClampNeg (vp_nar .boolean x2)) fun σ6 =>
        nm (sI σ6 1 3 ((σ6.1 1 3) + (1 : Int32))) fun σ7 =>
        some (y1, σ7)
      else
        some ((-2 : Int32), σ)
set_option maxHeartbeats 4000000 in
set_option maxRecDepth 100000 in
theorem wC1_add {p : Program} {l : Launch} {e : Env} {s : State} {m : MethodId} {args : Array Value} {below : List Frame} {meth : Method} {c : Code} {Q : State → Prop} {dC : Nat → ClassId} {dI : Nat → Nat → Nat} {ad : Nat → Nat} {cA : Nat → ClassId} {r : (Int32 × xSt)} (C : CallFix p m c cC1_add 4 s args wAll RC1) (hK : va_K (dC, dI) vwC (xT cA) s) (hend : ∀ (v : Int32) (σ : xSt) (H : Heap) (locs : List Loc) (pc : Nat) (ls : Array Slot), (v, σ) = r → va_P (dC, dI) vwC (xW ad cA σ) H → va_S (xA ad) s.heap H locs → decode cC1_add pc = .ok (.ireturn, 1) → W p l e rm_C1_add s m args below meth c H locs 0 0 Q (F0 m pc ls [.int v])) {H : Heap} {locs : List Loc} {σ : xSt} (hP : va_P (dC, dI) vwC (xW ad cA σ) H) (hD : va_D (xA ad) (xW ad cA σ)) (hS : va_S (xA ad) s.heap H locs) {x1 : Int32} {x2 : Int32} (ls : Array Slot) (hl : lv_has ls 4 [(0, .ref (ad 1)), (1, .int (x1)), (2, .int (x2))]) (h : fC1_add σ x1 x2 = some r) : W p l e rm_C1_add s m args below meth c H locs 0 0 Q (F0 m 0 ls []) := by
  obtain ⟨hx, hb, hml, hown, hts⟩ := id C
  unfold fC1_add at h
  refine lv_aload_n hx hb dC1_add_0 rfl (lv_at hl 0 rfl) ?_
  refine va_get (D := (dC, dI)) (ci := 1) (v := .int (σ.1 1 3)) (C := RC1) (T := TC1) (N := 4) hx hb hts inC1 hown hK hP 1 rfl rfl 3 (by decide) (hts _ mw_1) (fun _ h9 => h9) rfl dC1_add_1 ?_
  refine lv_bipush (v := (24 : Int32)) hx hb dC1_add_4 (by decide) ?_
  refine lv_icmp_ge (tgt := 19) hx hb dC1_add_6 (by decide) (fun c10 => ?_) (fun c10 => ?_)
  · have h := (if_pos c10).symm.trans h
    refine lv_bipush (v := (-2 : Int32)) hx hb dC1_add_19 (by decide) ?_
    exact hend _ _ _ _ _ _ (Option.some.inj h) hP hS dC1_add_21
  · have h := (if_neg c10).symm.trans h
    refine lv_iload_n hx hb dC1_add_9 rfl (lv_at hl 1 rfl) ?_
    refine lv_if_lt (tgt := 19) hx hb dC1_add_10 (by decide) (fun c9 => ?_) (fun c9 => ?_)
    · have h := (if_pos c9).symm.trans h
      refine lv_bipush (v := (-2 : Int32)) hx hb dC1_add_19 (by decide) ?_
      exact hend _ _ _ _ _ _ (Option.some.inj h) hP hS dC1_add_21
    · have h := (if_neg c9).symm.trans h
      refine lv_iload_n hx hb dC1_add_13 rfl (lv_at hl 1 rfl) ?_
      refine lv_bipush (v := (40 : Int32)) hx hb dC1_add_14 (by decide) ?_
      refine lv_icmp_lt (tgt := 22) hx hb dC1_add_16 (by decide) (fun c8 => ?_) (fun c8 => ?_)
      · have h := (if_pos c8).symm.trans h
        refine lv_bipush (v := (16 : Int32)) hx hb dC1_add_22 (by decide) ?_
        refine lv_aload_n hx hb dC1_add_24 rfl (lv_at hl 0 rfl) ?_
        refine va_get (D := (dC, dI)) (ci := 1) (v := .int (σ.1 1 3)) (C := RC1) (T := TC1) (N := 4) hx hb hts inC1 hown hK hP 1 rfl rfl 3 (by decide) (hts _ mw_1) (fun _ h9 => h9) rfl dC1_add_25 ?_
        refine lv_iadd hx hb dC1_add_28 ?_
        refine lv_topi (fun y1 ey1 => ?_)
        have h := nm_at ey1 h
        refine lv_istore_n (lv' := [(3, .int (y1)), (0, .ref (ad 1)), (1, .int (x1)), (2, .int (x2))]) hx hb dC1_add_29 rfl hl (by decide) rfl (fun ls hl => ?_)
        refine lv_aload_n hx hb dC1_add_30 rfl (lv_at hl 1 rfl) ?_
        refine va_get (D := (dC, dI)) (ci := 1) (v := .ref (ad 6)) (C := RC1) (T := TC1) (N := 4) hx hb hts inC1 hown hK hP 1 rfl rfl 0 (by decide) (hts _ mw_2) (fun _ h9 => h9) rfl dC1_add_31 ?_
        refine lv_iload_n hx hb dC1_add_34 rfl (lv_at hl 0 rfl) ?_
        refine lv_aload_n hx hb dC1_add_35 rfl (lv_at hl 1 rfl) ?_
        refine va_get (D := (dC, dI)) (ci := 1) (v := .ref (ad 6)) (C := RC1) (T := TC1) (N := 4) hx hb hts inC1 hown hK hP 1 rfl rfl 0 (by decide) (hts _ mw_2) (fun _ h9 => h9) rfl dC1_add_36 ?_
        refine lv_iload_n hx hb dC1_add_39 rfl (lv_at hl 2 rfl) ?_
        obtain ⟨b2, h⟩ := gx_nb h
        refine va_lald hx hb hK hP 6 1 rfl rfl b2 dC1_add_40 ?_
        refine lv_lconst (v := (1 : Int64)) hx hb dC1_add_41 (by decide) ?_
        refine lv_iload_n hx hb dC1_add_42 rfl (lv_at hl 0 rfl) ?_
        refine lv_lshl (v := jlshl (1 : Int64) y1) hx hb dC1_add_43 rfl ?_
        refine lv_lor hx hb dC1_add_44 ?_
        obtain ⟨b3, h⟩ := gx_nb h
        refine va_last hx hb hK hP hD hS 6 1 rfl rfl b3 dC1_add_45 (fun H locs hP hD hS => ?_)
        obtain ⟨σ4, eσ4⟩ : ∃ z, z = sL σ 6 y1.toNatClampNeg ((σ.2 6 x1.toNatClampNeg) ||| (jlshl (1 : Int64) y1)) := ⟨_, rfl⟩
        have hP : va_P (dC, dI) vwC (xW ad cA σ4) H := by rw [eσ4]; exact hP
        have hD : va_D (xA ad) (xW ad cA σ4) := by rw [eσ4]; exact hD
        have h := nm_at eσ4 h
        refine lv_aload_n hx hb dC1_add_46 rfl (lv_at hl 1 rfl) ?_
        refine va_get (D := (dC, dI)) (ci := 1) (v := .ref (ad 8)) (C := RC1) (T := TC1) (N := 4) hx hb hts inC1 hown hK hP 1 rfl rfl 2 (by decide) (hts _ mw_3) (fun _ h9 => h9) rfl dC1_add_47 ?_
        refine lv_aload_n hx hb dC1_add_50 rfl (lv_at hl 1 rfl) ?_
        refine va_get (D := (dC, dI)) (ci := 1) (v := .int (σ4.1 1 3)) (C := RC1) (T := TC1) (N := 4) hx hb hts inC1 hown hK hP 1 rfl rfl 3 (by decide) (hts _ mw_1) (fun _ h9 => h9) rfl dC1_add_51 ?_
        refine lv_iload_n hx hb dC1_add_54 rfl (lv_at hl 3 rfl) ?_
        obtain ⟨b5, h⟩ := gx_nb h
        refine va_zast hx hb hK hP hD hS 8 3 rfl rfl b5 dC1_add_55 (fun H locs hP hD hS => ?_)
        obtain ⟨σ6, eσ6⟩ : ∃ z, z = sI σ4 8 (σ4.1 1 3).toNatClampNeg (vp_nar .boolean x2) := ⟨_, rfl⟩
        have hP : va_P (dC, dI) vwC (xW ad cA σ6) H := by rw [eσ6]; exact hP
        have hD : va_D (xA ad) (xW ad cA σ6) := by rw [eσ6]; exact hD
        have h := nm_at eσ6 h
        refine lv_aload_n hx hb dC1_add_56 rfl (lv_at hl 1 rfl) ?_
        refine lv_dup hx hb dC1_add_57 rfl ?_
        refine va_get (D := (dC, dI)) (ci := 1) (v := .int (σ6.1 1 3)) (C := RC1) (T := TC1) (N := 4) hx hb hts inC1 hown hK hP 1 rfl rfl 3 (by decide) (hts _ mw_1) (fun _ h9 => h9) rfl dC1_add_58 ?_
        refine lv_iconst (v := (1 : Int32)) hx hb dC1_add_61 (by decide) ?_
        refine lv_iadd hx hb dC1_add_62 ?_
        refine va_put (D := (dC, dI)) (ci := 1) (v := .int ((σ6.1 1 3) + (1 : Int32))) (ty := .int) (C := RC1) (T := TC1) (N := 4) hx hb hts inC1 tyC1 tyC1_ok nnC1 hown hK hP hD hS 1 rfl rfl 3 (by decide) (hts _ mw_1) (fun _ h9 => h9) rfl (by decide +kernel) rfl rfl (Nat.le_of_ble_eq_true rfl) dC1_add_63 (fun H locs hP hD hS => ?_)
        obtain ⟨σ7, eσ7⟩ : ∃ z, z = sI σ6 1 3 ((σ6.1 1 3) + (1 : Int32)) := ⟨_, rfl⟩
        have hP : va_P (dC, dI) vwC (xW ad cA σ7) H := by rw [eσ7]; exact hP
        have hD : va_D (xA ad) (xW ad cA σ7) := by rw [eσ7]; exact hD
        have h := nm_at eσ7 h
        refine lv_iload_n hx hb dC1_add_66 rfl (lv_at hl 0 rfl) ?_
        exact hend _ _ _ _ _ _ (Option.some.inj h) hP hS dC1_add_67
      · have h := (if_neg c8).symm.trans h
        refine lv_bipush (v := (-2 : Int32)) hx hb dC1_add_19 (by decide) ?_
        exact hend _ _ _ _ _ _ (Option.some.inj h) hP hS dC1_add_21
set_option maxHeartbeats 4000000 in
set_option maxRecDepth 100000 in
theorem kC1_add (l : Launch) (dC : Nat → ClassId) (dI : Nat → Nat → Nat) (ad : Nat → Nat) (cA : Nat → ClassId) (σ : xSt) (x1 : Int32) (x2 : Int32) (r : (Int32 × xSt)) (h : fC1_add σ x1 x2 = some r) : Met l yC1_add wsC1_add rm_C1_add (va_Pc [.ref (ad 1), .int (x1), .int (x2)] (fun U => va_P (dC, dI) vwC (xW ad cA σ) U.heap ∧ va_K (dC, dI) vwC (xT cA) U ∧ va_D (xA ad) (xW ad cA σ))) (va_Qi (fun (v : Int32) (u : xSt) => (v, u) = r) (fun u t => va_P (dC, dI) vwC (xW ad cA u) t.heap) (xA ad)) 0 0 (xA ad) := by
  refine Met.ofW (cc := cC1_add) (maxL := 4) (ret := (some .int)) (by decide) rfl ?_
  intro p e s m args below meth c s₁ B hml hv
  obtain ⟨rfl, hP, hK, hD⟩ := hv
  have hr := B.returns
  have hlocks := B.notSynchronized
  have hl := lv_entry ([.ref (ad 1), .int (x1), .int (x2)]) (n := 4) (Nat.le_of_ble_eq_true rfl)
  rw [lg_entry_eq]
  exact wC1_add ⟨B.exec, B.bytes, hml, findClass_of_methodNamed B.named, fun w h => atoms_spec (ws := wsC1_add) B.pre w (List.mem_cons_of_mem _ h)⟩ hK (fun v σ H locs pc ls hv hP hS hd => W.iret (v := v) B.exec B.bytes hr (fun t ht hW => ⟨⟨v, σ, rfl, hv, by show va_P _ _ _ t.heap; rw [ht]; exact hP⟩, hS.F ht⟩) hS.2.2 hd) hP hD va_S.rf _ hl h
abbrev rm_C1_isTold : Room := { frames := 0, cells := 0, slots := 0, locals := 0 }
def fC1_isTold (σ : xSt) (x1 : Int32) : Option Int32 :=
  if x1 < (16 : Int32) then
    some (0 : Int32)
  else
    if ((16 : Int32) + (σ.1 1 3)) ≤ x1 then
      some (0 : Int32)
    else
      some (1 : Int32)
set_option maxHeartbeats 4000000 in
set_option maxRecDepth 100000 in
theorem wC1_isTold {p : Program} {l : Launch} {e : Env} {s : State} {m : MethodId} {args : Array Value} {below : List Frame} {meth : Method} {c : Code} {Q : State → Prop} {dC : Nat → ClassId} {dI : Nat → Nat → Nat} {ad : Nat → Nat} {cA : Nat → ClassId} {r : Int32} {H : Heap} {locs : List Loc} {σ : xSt} (C : CallFix p m c cC1_isTold 2 s args wAll RC1) (hK : va_K (dC, dI) vwC (xT cA) s) (hP : va_P (dC, dI) vwC (xW ad cA σ) H) (hend : ∀ (v : Int32) (pc : Nat) (ls : Array Slot), v = r → narrow .boolean (.int v) = .int v → decode cC1_isTold pc = .ok (.ireturn, 1) → W p l e rm_C1_isTold s m args below meth c H locs 0 0 Q (F0 m pc ls [.int v])) {x1 : Int32} (ls : Array Slot) (hl : lv_has ls 2 [(0, .ref (ad 1)), (1, .int (x1))]) (h : fC1_isTold σ x1 = some r) : W p l e rm_C1_isTold s m args below meth c H locs 0 0 Q (F0 m 0 ls []) := by
  obtain ⟨hx, hb, hml, hown, hts⟩ := id C
  unfold fC1_isTold at h
  refine lv_iload_n hx hb dC1_isTold_0 rfl (lv_at hl 1 rfl) ?_
  refine lv_bipush (v := (16 : Int32)) hx hb dC1_isTold_1 (by decide) ?_
  refine lv_icmp_lt (tgt := 21) hx hb dC1_isTold_3 (by decide) (fun c2 => ?_) (fun c2 => ?_)
  · have h := (if_pos c2).symm.trans h
    refine lv_iconst (v := (0 : Int32)) hx hb dC1_isTold_21 (by decide) ?_
    exact hend _ _ _ (Option.some.inj h) rfl dC1_isTold_22
  · have h := (if_neg c2).symm.trans h
    refine lv_iload_n hx hb dC1_isTold_6 rfl (lv_at hl 1 rfl) ?_
    refine lv_bipush (v := (16 : Int32)) hx hb dC1_isTold_7 (by decide) ?_
    refine lv_aload_n hx hb dC1_isTold_9 rfl (lv_at hl 0 rfl) ?_
    refine va_get (D := (dC, dI)) (ci := 1) (v := .int (σ.1 1 3)) (C := RC1) (T := TC1) (N := 4) hx hb hts inC1 hown hK hP 1 rfl rfl 3 (by decide) (hts _ mw_1) (fun _ h9 => h9) rfl dC1_isTold_10 ?_
    refine lv_iadd hx hb dC1_isTold_13 ?_
    refine lv_icmp_ge (tgt := 21) hx hb dC1_isTold_14 (by decide) (fun c1 => ?_) (fun c1 => ?_)
    · have h := (if_pos c1).symm.trans h
      refine lv_iconst (v := (0 : Int32)) hx hb dC1_isTold_21 (by decide) ?_
      exact hend _ _ _ (Option.some.inj h) rfl dC1_isTold_22
    · have h := (if_neg c1).symm.trans h
      refine lv_iconst (v := (1 : Int32)) hx hb dC1_isTold_17 (by decide) ?_
      refine lv_goto (tgt := 22) hx hb dC1_isTold_18 (by decide) ?_
      exact hend _ _ _ (Option.some.inj h) rfl dC1_isTold_22
set_option maxHeartbeats 4000000 in
set_option maxRecDepth 100000 in
theorem kC1_isTold (l : Launch) (dC : Nat → ClassId) (dI : Nat → Nat → Nat) (ad : Nat → Nat) (cA : Nat → ClassId) (σ : xSt) (x1 : Int32) (r : Int32) (h : fC1_isTold σ x1 = some r) : Met l yC1_isTold wsC1_isTold rm_C1_isTold (va_Pc [.ref (ad 1), .int (x1)] (fun U => va_P (dC, dI) vwC (xW ad cA σ) U.heap ∧ va_K (dC, dI) vwC (xT cA) U)) (vp_Si (fun v => v = r)) 0 0 (fun _ => False) := by
  refine Met.ofW (cc := cC1_isTold) (maxL := 2) (ret := (some .boolean)) (by decide) rfl ?_
  intro p e s m args below meth c s₁ B hml hv
  obtain ⟨rfl, hP, hK⟩ := hv
  have hr := B.returns
  have hlocks := B.notSynchronized
  have hl := lv_entry ([.ref (ad 1), .int (x1)]) (n := 2) (Nat.le_of_ble_eq_true rfl)
  rw [lg_entry_eq]
  exact wC1_isTold ⟨B.exec, B.bytes, hml, findClass_of_methodNamed B.named, fun w h => atoms_spec (ws := wsC1_isTold) B.pre w (List.mem_cons_of_mem _ h)⟩ hK hP (fun v pc ls hv hn hd => W.zret (v := v) B.exec B.bytes hr hn (fun t ht hW => ⟨v, rfl, hv, ht⟩) (fun q hq => absurd hq List.not_mem_nil) hd) _ hl h
abbrev rm_C1_isInterface : Room := { frames := 1, cells := 0, slots := 0, locals := 21 }
def fC1_isInterface (σ : xSt) (x1 : Int32) : Option Int32 :=
  (fC1_isTold σ x1).bind fun v1 =>
  if v1 = 0 then
    some (0 : Int32)
  else
    if (x1 - (16 : Int32)) < 0 ∨ 24 ≤ (x1 - (16 : Int32)).toNatClampNeg then none else
    if (σ.1 8 (x1 - (16 : Int32)).toNatClampNeg) = 0 then
      some (0 : Int32)
    else
      some (1 : Int32)
set_option maxHeartbeats 4000000 in
set_option maxRecDepth 100000 in
theorem wC1_isInterface {p : Program} {l : Launch} {e : Env} {s : State} {m : MethodId} {args : Array Value} {below : List Frame} {meth : Method} {c : Code} {Q : State → Prop} {dC : Nat → ClassId} {dI : Nat → Nat → Nat} {ad : Nat → Nat} {cA : Nat → ClassId} {r : Int32} {H : Heap} {locs : List Loc} {σ : xSt} (C : CallFix p m c cC1_isInterface 2 s args wAll RC1) (hK : va_K (dC, dI) vwC (xT cA) s) (hP : va_P (dC, dI) vwC (xW ad cA σ) H) (hend : ∀ (v : Int32) (pc : Nat) (ls : Array Slot), v = r → narrow .boolean (.int v) = .int v → decode cC1_isInterface pc = .ok (.ireturn, 1) → W p l e rm_C1_isInterface s m args below meth c H locs 0 0 Q (F0 m pc ls [.int v])) {x1 : Int32} (ls : Array Slot) (hl : lv_has ls 2 [(0, .ref (ad 1)), (1, .int (x1))]) (h : fC1_isInterface σ x1 = some r) : W p l e rm_C1_isInterface s m args below meth c H locs 0 0 Q (F0 m 0 ls []) := by
  obtain ⟨hx, hb, hml, hown, hts⟩ := id C
  unfold fC1_isInterface at h
  refine lv_aload_n hx hb dC1_isInterface_0 rfl (lv_at hl 0 rfl) ?_
  refine lv_iload_n hx hb dC1_isInterface_1 rfl (lv_at hl 1 rfl) ?_
  obtain ⟨v1, ev1, h⟩ := Option.bind_eq_some_iff.mp h
  refine gcall_r (b := ad 1) (As := [.int (x1)]) (rest := []) C hK hP (ci := 1) (q0 := 1) rfl rfl (kC1_isTold l dC dI ad cA σ x1 v1 ev1) (cwV 1 hts (gw mw_13 mw_10 mw_11 mw_7 mw_12) rfl rfl rfl hdC1_isTold ⟨Nat.le_of_ble_eq_true rfl, Nat.le_of_ble_eq_true rfl⟩) rfl hl.1 rfl (Nat.le_of_ble_eq_true rfl) dC1_isInterface_2 ⟨Nat.le_refl _, Nat.le_refl _⟩ ?_
  refine lv_if_eq (tgt := 24) hx hb dC1_isInterface_5 (by decide) (fun c4 => ?_) (fun c4 => ?_)
  · have h := (if_pos c4).symm.trans h
    refine lv_iconst (v := (0 : Int32)) hx hb dC1_isInterface_24 (by decide) ?_
    exact hend _ _ _ (Option.some.inj h) rfl dC1_isInterface_25
  · have h := (if_neg c4).symm.trans h
    refine lv_aload_n hx hb dC1_isInterface_8 rfl (lv_at hl 0 rfl) ?_
    refine va_get (D := (dC, dI)) (ci := 1) (v := .ref (ad 8)) (C := RC1) (T := TC1) (N := 4) hx hb hts inC1 hown hK hP 1 rfl rfl 2 (by decide) (hts _ mw_3) (fun _ h9 => h9) rfl dC1_isInterface_9 ?_
    refine lv_iload_n hx hb dC1_isInterface_12 rfl (lv_at hl 1 rfl) ?_
    refine lv_bipush (v := (16 : Int32)) hx hb dC1_isInterface_13 (by decide) ?_
    refine lv_isub hx hb dC1_isInterface_15 ?_
    obtain ⟨b2, h⟩ := gx_nb h
    refine va_zald hx hb hK hP 8 3 rfl rfl b2 dC1_isInterface_16 ?_
    refine lv_if_eq (tgt := 24) hx hb dC1_isInterface_17 (by decide) (fun c3 => ?_) (fun c3 => ?_)
    · have h := (if_pos c3).symm.trans h
      refine lv_iconst (v := (0 : Int32)) hx hb dC1_isInterface_24 (by decide) ?_
      exact hend _ _ _ (Option.some.inj h) rfl dC1_isInterface_25
    · have h := (if_neg c3).symm.trans h
      refine lv_iconst (v := (1 : Int32)) hx hb dC1_isInterface_20 (by decide) ?_
      refine lv_goto (tgt := 25) hx hb dC1_isInterface_21 (by decide) ?_
      exact hend _ _ _ (Option.some.inj h) rfl dC1_isInterface_25
set_option maxHeartbeats 4000000 in
set_option maxRecDepth 100000 in
theorem kC1_isInterface (l : Launch) (dC : Nat → ClassId) (dI : Nat → Nat → Nat) (ad : Nat → Nat) (cA : Nat → ClassId) (σ : xSt) (x1 : Int32) (r : Int32) (h : fC1_isInterface σ x1 = some r) : Met l yC1_isInterface wsC1_isInterface rm_C1_isInterface (va_Pc [.ref (ad 1), .int (x1)] (fun U => va_P (dC, dI) vwC (xW ad cA σ) U.heap ∧ va_K (dC, dI) vwC (xT cA) U)) (vp_Si (fun v => v = r)) 0 0 (fun _ => False) := by
  refine Met.ofW (cc := cC1_isInterface) (maxL := 2) (ret := (some .boolean)) (by decide) rfl ?_
  intro p e s m args below meth c s₁ B hml hv
  obtain ⟨rfl, hP, hK⟩ := hv
  have hr := B.returns
  have hlocks := B.notSynchronized
  have hl := lv_entry ([.ref (ad 1), .int (x1)]) (n := 2) (Nat.le_of_ble_eq_true rfl)
  rw [lg_entry_eq]
  exact wC1_isInterface ⟨B.exec, B.bytes, hml, findClass_of_methodNamed B.named, fun w h => atoms_spec (ws := wsC1_isInterface) B.pre w (List.mem_cons_of_mem _ h)⟩ hK hP (fun v pc ls hv hn hd => W.zret (v := v) B.exec B.bytes hr hn (fun t ht hW => ⟨v, rfl, hv, ht⟩) (fun q hq => absurd hq List.not_mem_nil) hd) _ hl h
abbrev rm_C0_cls : Room := { frames := 2, cells := 0, slots := 0, locals := 42 }
def fC0_cls_b33 (σ : xSt) (x1 : Int32) (s0 : Int32) : Option (Int32 × xSt) :=
  if s0 = 0 then
    some ((-2 : Int32), σ)
  else
    gx_b2 (fC1_add σ x1 (0 : Int32)) fun v1 σ2 =>
    some (v1, σ2)
set_option maxHeartbeats 4000000 in
set_option maxRecDepth 100000 in
theorem wC0_cls_b33 {p : Program} {l : Launch} {e : Env} {s : State} {m : MethodId} {args : Array Value} {below : List Frame} {meth : Method} {c : Code} {Q : State → Prop} {dC : Nat → ClassId} {dI : Nat → Nat → Nat} {ad : Nat → Nat} {cA : Nat → ClassId} {r : (Int32 × xSt)} (C : CallFix p m c cC0_cls 3 s args wAll RC0) (hK : va_K (dC, dI) vwC (xT cA) s) (hend : ∀ (v : Int32) (σ : xSt) (H : Heap) (locs : List Loc) (pc : Nat) (ls : Array Slot), (v, σ) = r → va_P (dC, dI) vwC (xW ad cA σ) H → va_S (xA ad) s.heap H locs → decode cC0_cls pc = .ok (.ireturn, 1) → W p l e rm_C0_cls s m args below meth c H locs 0 0 Q (F0 m pc ls [.int v])) :
    ∀ (σ : xSt) (H : Heap) (locs : List Loc) (x1 : Int32) (s0 : Int32) (ls : Array Slot), va_P (dC, dI) vwC (xW ad cA σ) H → va_D (xA ad) (xW ad cA σ) → va_S (xA ad) s.heap H locs → lv_has ls 3 [(0, .ref (ad 0)), (1, .int (x1))] → fC0_cls_b33 σ x1 s0 = some r → W p l e rm_C0_cls s m args below meth c H locs 0 0 Q (F0 m 33 ls [.int (s0)]) := by
  obtain ⟨hx, hb, hml, hown, hts⟩ := id C
  intro σ H locs x1 s0 ls hP hD hS hl h
  unfold fC0_cls_b33 at h
  refine lv_istore_n (lv' := [(2, .int (s0)), (0, .ref (ad 0)), (1, .int (x1))]) hx hb dC0_cls_33 rfl hl (by decide) rfl (fun ls hl => ?_)
  refine lv_iload_n hx hb dC0_cls_34 rfl (lv_at hl 0 rfl) ?_
  refine lv_if_eq (tgt := 50) hx hb dC0_cls_35 (by decide) (fun c4 => ?_) (fun c4 => ?_)
  · have h := (if_pos c4).symm.trans h
    refine lv_bipush (v := (-2 : Int32)) hx hb dC0_cls_50 (by decide) ?_
    exact hend _ _ _ _ _ _ (Option.some.inj h) hP hS dC0_cls_52
  · have h := (if_neg c4).symm.trans h
    refine lv_aload_n hx hb dC0_cls_38 rfl (lv_at hl 1 rfl) ?_
    refine va_get (D := (dC, dI)) (ci := 0) (v := .ref (ad 1)) (C := RC0) (T := TC0) (N := 5) hx hb hts inC0 hown hK hP 0 rfl rfl 0 (by decide) (hts _ mw_0) (fun _ h9 => h9) rfl dC0_cls_39 ?_
    refine lv_iload_n hx hb dC0_cls_42 rfl (lv_at hl 2 rfl) ?_
    refine lv_iconst (v := (0 : Int32)) hx hb dC0_cls_43 (by decide) ?_
    obtain ⟨v1, σ2, ez3, h⟩ := gx_b2_at h
    refine gcall_i (wd := xW ad cA) (b := ad 1) (As := [.int (x1), .int ((0 : Int32))]) (rest := []) xkeys C hK hP hD hS (ci := 1) (q0 := 1) rfl rfl (kC1_add l dC dI ad cA σ x1 (0 : Int32) (v1, σ2) ez3) (cwV 2 hts (gw mw_4 mw_5 mw_6 mw_7 mw_8) rfl rfl rfl hdC1_add ⟨Nat.le_of_ble_eq_true rfl, Nat.le_of_ble_eq_true rfl⟩) rfl hl.1 rfl (Nat.le_of_ble_eq_true rfl) dC0_cls_44 ⟨Nat.le_refl _, Nat.le_refl _⟩ (fun H locs hP hD hS => ?_)
    refine lv_goto (tgt := 52) hx hb dC0_cls_47 (by decide) ?_
    exact hend _ _ _ _ _ _ (Option.some.inj h) hP hS dC0_cls_52
def fC0_cls_b28 (σ : xSt) (x1 : Int32) : Option (Int32 × xSt) :=
  fC0_cls_b33 σ x1 (1 : Int32)
set_option maxHeartbeats 4000000 in
set_option maxRecDepth 100000 in
theorem wC0_cls_b28 {p : Program} {l : Launch} {e : Env} {s : State} {m : MethodId} {args : Array Value} {below : List Frame} {meth : Method} {c : Code} {Q : State → Prop} {dC : Nat → ClassId} {dI : Nat → Nat → Nat} {ad : Nat → Nat} {cA : Nat → ClassId} {r : (Int32 × xSt)} (C : CallFix p m c cC0_cls 3 s args wAll RC0) (hK : va_K (dC, dI) vwC (xT cA) s) (hend : ∀ (v : Int32) (σ : xSt) (H : Heap) (locs : List Loc) (pc : Nat) (ls : Array Slot), (v, σ) = r → va_P (dC, dI) vwC (xW ad cA σ) H → va_S (xA ad) s.heap H locs → decode cC0_cls pc = .ok (.ireturn, 1) → W p l e rm_C0_cls s m args below meth c H locs 0 0 Q (F0 m pc ls [.int v])) :
    ∀ (σ : xSt) (H : Heap) (locs : List Loc) (x1 : Int32) (ls : Array Slot), va_P (dC, dI) vwC (xW ad cA σ) H → va_D (xA ad) (xW ad cA σ) → va_S (xA ad) s.heap H locs → lv_has ls 3 [(0, .ref (ad 0)), (1, .int (x1))] → fC0_cls_b28 σ x1 = some r → W p l e rm_C0_cls s m args below meth c H locs 0 0 Q (F0 m 28 ls []) := by
  obtain ⟨hx, hb, hml, hown, hts⟩ := id C
  intro σ H locs x1 ls hP hD hS hl h
  unfold fC0_cls_b28 at h
  refine lv_iconst (v := (1 : Int32)) hx hb dC0_cls_28 (by decide) ?_
  refine lv_goto (tgt := 33) hx hb dC0_cls_29 (by decide) ?_
  exact wC0_cls_b33 C hK hend _ _ _ _ _ _ hP hD hS (lv_sub hl [0, 1] rfl) h
def fC0_cls_b32 (σ : xSt) (x1 : Int32) : Option (Int32 × xSt) :=
  fC0_cls_b33 σ x1 (0 : Int32)
set_option maxHeartbeats 4000000 in
set_option maxRecDepth 100000 in
theorem wC0_cls_b32 {p : Program} {l : Launch} {e : Env} {s : State} {m : MethodId} {args : Array Value} {below : List Frame} {meth : Method} {c : Code} {Q : State → Prop} {dC : Nat → ClassId} {dI : Nat → Nat → Nat} {ad : Nat → Nat} {cA : Nat → ClassId} {r : (Int32 × xSt)} (C : CallFix p m c cC0_cls 3 s args wAll RC0) (hK : va_K (dC, dI) vwC (xT cA) s) (hend : ∀ (v : Int32) (σ : xSt) (H : Heap) (locs : List Loc) (pc : Nat) (ls : Array Slot), (v, σ) = r → va_P (dC, dI) vwC (xW ad cA σ) H → va_S (xA ad) s.heap H locs → decode cC0_cls pc = .ok (.ireturn, 1) → W p l e rm_C0_cls s m args below meth c H locs 0 0 Q (F0 m pc ls [.int v])) :
    ∀ (σ : xSt) (H : Heap) (locs : List Loc) (x1 : Int32) (ls : Array Slot), va_P (dC, dI) vwC (xW ad cA σ) H → va_D (xA ad) (xW ad cA σ) → va_S (xA ad) s.heap H locs → lv_has ls 3 [(0, .ref (ad 0)), (1, .int (x1))] → fC0_cls_b32 σ x1 = some r → W p l e rm_C0_cls s m args below meth c H locs 0 0 Q (F0 m 32 ls []) := by
  obtain ⟨hx, hb, hml, hown, hts⟩ := id C
  intro σ H locs x1 ls hP hD hS hl h
  unfold fC0_cls_b32 at h
  refine lv_iconst (v := (0 : Int32)) hx hb dC0_cls_32 (by decide) ?_
  exact wC0_cls_b33 C hK hend _ _ _ _ _ _ hP hD hS (lv_sub hl [0, 1] rfl) h
def fC0_cls (σ : xSt) (x1 : Int32) : Option (Int32 × xSt) :=
  if x1 = (8 : Int32) then
    fC0_cls_b28 σ x1
  else
    (fC1_isTold σ x1).bind fun v5 =>
    if v5 = 0 then
      fC0_cls_b32 σ x1
    else
      (fC1_isInterface σ x1).bind fun v6 =>
      if v6 = 0 then
        fC0_cls_b28 σ x1
      else
        fC0_cls_b32 σ x1
set_option maxHeartbeats 4000000 in
set_option maxRecDepth 100000 in
theorem wC0_cls {p : Program} {l : Launch} {e : Env} {s : State} {m : MethodId} {args : Array Value} {below : List Frame} {meth : Method} {c : Code} {Q : State → Prop} {dC : Nat → ClassId} {dI : Nat → Nat → Nat} {ad : Nat → Nat} {cA : Nat → ClassId} {r : (Int32 × xSt)} (C : CallFix p m c cC0_cls 3 s args wAll RC0) (hK : va_K (dC, dI) vwC (xT cA) s) (hend : ∀ (v : Int32) (σ : xSt) (H : Heap) (locs : List Loc) (pc : Nat) (ls : Array Slot), (v, σ) = r → va_P (dC, dI) vwC (xW ad cA σ) H → va_S (xA ad) s.heap H locs → decode cC0_cls pc = .ok (.ireturn, 1) → W p l e rm_C0_cls s m args below meth c H locs 0 0 Q (F0 m pc ls [.int v])) {H : Heap} {locs : List Loc} {σ : xSt} (hP : va_P (dC, dI) vwC (xW ad cA σ) H) (hD : va_D (xA ad) (xW ad cA σ)) (hS : va_S (xA ad) s.heap H locs) {x1 : Int32} (ls : Array Slot) (hl : lv_has ls 3 [(0, .ref (ad 0)), (1, .int (x1))]) (h : fC0_cls σ x1 = some r) : W p l e rm_C0_cls s m args below meth c H locs 0 0 Q (F0 m 0 ls []) := by
  obtain ⟨hx, hb, hml, hown, hts⟩ := id C
  unfold fC0_cls at h
  refine lv_iload_n hx hb dC0_cls_0 rfl (lv_at hl 1 rfl) ?_
  refine lv_bipush (v := (8 : Int32)) hx hb dC0_cls_1 (by decide) ?_
  refine lv_icmp_eq (tgt := 28) hx hb dC0_cls_3 (by decide) (fun c9 => ?_) (fun c9 => ?_)
  · have h := (if_pos c9).symm.trans h
    exact wC0_cls_b28 C hK hend _ _ _ _ _ hP hD hS (lv_sub hl [0, 1] rfl) h
  · have h := (if_neg c9).symm.trans h
    refine lv_aload_n hx hb dC0_cls_6 rfl (lv_at hl 0 rfl) ?_
    refine va_get (D := (dC, dI)) (ci := 0) (v := .ref (ad 1)) (C := RC0) (T := TC0) (N := 5) hx hb hts inC0 hown hK hP 0 rfl rfl 0 (by decide) (hts _ mw_0) (fun _ h9 => h9) rfl dC0_cls_7 ?_
    refine lv_iload_n hx hb dC0_cls_10 rfl (lv_at hl 1 rfl) ?_
    obtain ⟨v5, ev5, h⟩ := Option.bind_eq_some_iff.mp h
    refine gcall_r (b := ad 1) (As := [.int (x1)]) (rest := []) C hK hP (ci := 1) (q0 := 1) rfl rfl (kC1_isTold l dC dI ad cA σ x1 v5 ev5) (cwV 1 hts (gw mw_9 mw_10 mw_11 mw_7 mw_12) rfl rfl rfl hdC1_isTold ⟨Nat.le_of_ble_eq_true rfl, Nat.le_of_ble_eq_true rfl⟩) rfl hl.1 rfl (Nat.le_of_ble_eq_true rfl) dC0_cls_11 ⟨Nat.le_refl _, Nat.le_refl _⟩ ?_
    refine lv_if_eq (tgt := 32) hx hb dC0_cls_14 (by decide) (fun c8 => ?_) (fun c8 => ?_)
    · have h := (if_pos c8).symm.trans h
      exact wC0_cls_b32 C hK hend _ _ _ _ _ hP hD hS (lv_sub hl [0, 1] rfl) h
    · have h := (if_neg c8).symm.trans h
      refine lv_aload_n hx hb dC0_cls_17 rfl (lv_at hl 0 rfl) ?_
      refine va_get (D := (dC, dI)) (ci := 0) (v := .ref (ad 1)) (C := RC0) (T := TC0) (N := 5) hx hb hts inC0 hown hK hP 0 rfl rfl 0 (by decide) (hts _ mw_0) (fun _ h9 => h9) rfl dC0_cls_18 ?_
      refine lv_iload_n hx hb dC0_cls_21 rfl (lv_at hl 1 rfl) ?_
      obtain ⟨v6, ev6, h⟩ := Option.bind_eq_some_iff.mp h
      refine gcall_r (b := ad 1) (As := [.int (x1)]) (rest := []) C hK hP (ci := 1) (q0 := 1) rfl rfl (kC1_isInterface l dC dI ad cA σ x1 v6 ev6) (cwV 1 hts (gw mw_14 mw_15 mw_16 mw_7 mw_17) rfl rfl rfl hdC1_isInterface ⟨Nat.le_of_ble_eq_true rfl, Nat.le_of_ble_eq_true rfl⟩) rfl hl.1 rfl (Nat.le_of_ble_eq_true rfl) dC0_cls_22 ⟨Nat.le_refl _, Nat.le_refl _⟩ ?_
      refine lv_if_ne (tgt := 32) hx hb dC0_cls_25 (by decide) (fun c7 => ?_) (fun c7 => ?_)
      · have h := (if_neg c7).symm.trans h
        exact wC0_cls_b32 C hK hend _ _ _ _ _ hP hD hS (lv_sub hl [0, 1] rfl) h
      · have h := (if_pos c7).symm.trans h
        exact wC0_cls_b28 C hK hend _ _ _ _ _ hP hD hS (lv_sub hl [0, 1] rfl) h
set_option maxHeartbeats 4000000 in
set_option maxRecDepth 100000 in
theorem kC0_cls (l : Launch) (dC : Nat → ClassId) (dI : Nat → Nat → Nat) (ad : Nat → Nat) (cA : Nat → ClassId) (σ : xSt) (x1 : Int32) (r : (Int32 × xSt)) (h : fC0_cls σ x1 = some r) : Met l yC0_cls wsC0_cls rm_C0_cls (va_Pc [.ref (ad 0), .int (x1)] (fun U => va_P (dC, dI) vwC (xW ad cA σ) U.heap ∧ va_K (dC, dI) vwC (xT cA) U ∧ va_D (xA ad) (xW ad cA σ))) (va_Qi (fun (v : Int32) (u : xSt) => (v, u) = r) (fun u t => va_P (dC, dI) vwC (xW ad cA u) t.heap) (xA ad)) 0 0 (xA ad) := by
  refine Met.ofW (cc := cC0_cls) (maxL := 3) (ret := (some .int)) (by decide) rfl ?_
  intro p e s m args below meth c s₁ B hml hv
  obtain ⟨rfl, hP, hK, hD⟩ := hv
  have hr := B.returns
  have hlocks := B.notSynchronized
  have hl := lv_entry ([.ref (ad 0), .int (x1)]) (n := 3) (Nat.le_of_ble_eq_true rfl)
  rw [lg_entry_eq]
  exact wC0_cls ⟨B.exec, B.bytes, hml, findClass_of_methodNamed B.named, fun w h => atoms_spec (ws := wsC0_cls) B.pre w (List.mem_cons_of_mem _ h)⟩ hK (fun v σ H locs pc ls hv hP hS hd => W.iret (v := v) B.exec B.bytes hr (fun t ht hW => ⟨⟨v, σ, rfl, hv, by show va_P _ _ _ t.heap; rw [ht]; exact hP⟩, hS.F ht⟩) hS.2.2 hd) hP hD va_S.rf _ hl h
abbrev rm_C0_face : Room := { frames := 1, cells := 0, slots := 0, locals := 23 }
def fC0_face (σ : xSt) : Option (Int32 × xSt) :=
  gx_b2 (fC1_add σ (8 : Int32) (1 : Int32)) fun v1 σ2 =>
  some (v1, σ2)
set_option maxHeartbeats 4000000 in
set_option maxRecDepth 100000 in
theorem wC0_face {p : Program} {l : Launch} {e : Env} {s : State} {m : MethodId} {args : Array Value} {below : List Frame} {meth : Method} {c : Code} {Q : State → Prop} {dC : Nat → ClassId} {dI : Nat → Nat → Nat} {ad : Nat → Nat} {cA : Nat → ClassId} {r : (Int32 × xSt)} (C : CallFix p m c cC0_face 1 s args wAll RC0) (hK : va_K (dC, dI) vwC (xT cA) s) (hend : ∀ (v : Int32) (σ : xSt) (H : Heap) (locs : List Loc) (pc : Nat) (ls : Array Slot), (v, σ) = r → va_P (dC, dI) vwC (xW ad cA σ) H → va_S (xA ad) s.heap H locs → decode cC0_face pc = .ok (.ireturn, 1) → W p l e rm_C0_face s m args below meth c H locs 0 0 Q (F0 m pc ls [.int v])) {H : Heap} {locs : List Loc} {σ : xSt} (hP : va_P (dC, dI) vwC (xW ad cA σ) H) (hD : va_D (xA ad) (xW ad cA σ)) (hS : va_S (xA ad) s.heap H locs) (ls : Array Slot) (hl : lv_has ls 1 [(0, .ref (ad 0))]) (h : fC0_face σ = some r) : W p l e rm_C0_face s m args below meth c H locs 0 0 Q (F0 m 0 ls []) := by
  obtain ⟨hx, hb, hml, hown, hts⟩ := id C
  unfold fC0_face at h
  refine lv_aload_n hx hb dC0_face_0 rfl (lv_at hl 0 rfl) ?_
  refine va_get (D := (dC, dI)) (ci := 0) (v := .ref (ad 1)) (C := RC0) (T := TC0) (N := 5) hx hb hts inC0 hown hK hP 0 rfl rfl 0 (by decide) (hts _ mw_0) (fun _ h9 => h9) rfl dC0_face_1 ?_
  refine lv_bipush (v := (8 : Int32)) hx hb dC0_face_4 (by decide) ?_
  refine lv_iconst (v := (1 : Int32)) hx hb dC0_face_6 (by decide) ?_
  obtain ⟨v1, σ2, ez3, h⟩ := gx_b2_at h
  refine gcall_i (wd := xW ad cA) (b := ad 1) (As := [.int ((8 : Int32)), .int ((1 : Int32))]) (rest := []) xkeys C hK hP hD hS (ci := 1) (q0 := 1) rfl rfl (kC1_add l dC dI ad cA σ (8 : Int32) (1 : Int32) (v1, σ2) ez3) (cwV 2 hts (gw mw_4 mw_5 mw_6 mw_7 mw_8) rfl rfl rfl hdC1_add ⟨Nat.le_of_ble_eq_true rfl, Nat.le_of_ble_eq_true rfl⟩) rfl hl.1 rfl (Nat.le_of_ble_eq_true rfl) dC0_face_7 ⟨Nat.le_refl _, Nat.le_refl _⟩ (fun H locs hP hD hS => ?_)
  exact hend _ _ _ _ _ _ (Option.some.inj h) hP hS dC0_face_10
set_option maxHeartbeats 4000000 in
set_option maxRecDepth 100000 in
theorem kC0_face (l : Launch) (dC : Nat → ClassId) (dI : Nat → Nat → Nat) (ad : Nat → Nat) (cA : Nat → ClassId) (σ : xSt) (r : (Int32 × xSt)) (h : fC0_face σ = some r) : Met l yC0_face wsC0_face rm_C0_face (va_Pc [.ref (ad 0)] (fun U => va_P (dC, dI) vwC (xW ad cA σ) U.heap ∧ va_K (dC, dI) vwC (xT cA) U ∧ va_D (xA ad) (xW ad cA σ))) (va_Qi (fun (v : Int32) (u : xSt) => (v, u) = r) (fun u t => va_P (dC, dI) vwC (xW ad cA u) t.heap) (xA ad)) 0 0 (xA ad) := by
  refine Met.ofW (cc := cC0_face) (maxL := 1) (ret := (some .int)) (by decide) rfl ?_
  intro p e s m args below meth c s₁ B hml hv
  obtain ⟨rfl, hP, hK, hD⟩ := hv
  have hr := B.returns
  have hlocks := B.notSynchronized
  have hl := lv_entry ([.ref (ad 0)]) (n := 1) (Nat.le_of_ble_eq_true rfl)
  rw [lg_entry_eq]
  exact wC0_face ⟨B.exec, B.bytes, hml, findClass_of_methodNamed B.named, fun w h => atoms_spec (ws := wsC0_face) B.pre w (List.mem_cons_of_mem _ h)⟩ hK (fun v σ H locs pc ls hv hP hS hd => W.iret (v := v) B.exec B.bytes hr (fun t ht hW => ⟨⟨v, σ, rfl, hv, by show va_P _ _ _ t.heap; rw [ht]; exact hP⟩, hS.F ht⟩) hS.2.2 hd) hP hD va_S.rf _ hl h
abbrev rm_JI_bitCount : Room := { frames := 0, cells := 0, slots := 0, locals := 0 }
def fJI_bitCount (σ : xSt) (x0 : Int32) : Option Int32 :=
  nm (x0 - ((jiushr x0 (1 : Int32)) &&& (1431655765 : Int32))) fun y1 =>
  nm ((y1 &&& (858993459 : Int32)) + ((jiushr y1 (2 : Int32)) &&& (858993459 : Int32))) fun y2 =>
  nm ((y2 + (jiushr y2 (4 : Int32))) &&& (252645135 : Int32)) fun y3 =>
  nm (y3 + (jiushr y3 (8 : Int32))) fun y4 =>
  nm (y4 + (jiushr y4 (16 : Int32))) fun y5 =>
  some (y5 &&& (63 : Int32))
set_option maxHeartbeats 4000000 in
set_option maxRecDepth 100000 in
theorem wJI_bitCount {p : Program} {l : Launch} {e : Env} {s : State} {m : MethodId} {args : Array Value} {below : List Frame} {meth : Method} {c : Code} {Q : State → Prop} {dC : Nat → ClassId} {dI : Nat → Nat → Nat} {ad : Nat → Nat} {cA : Nat → ClassId} {r : Int32} {H : Heap} {locs : List Loc} {σ : xSt} (C : CallFix p m c cJI_bitCount 1 s args wAll RJI) (hK : va_K (dC, dI) vwC (xT cA) s) (hP : va_P (dC, dI) vwC (xW ad cA σ) H) (hend : ∀ (v : Int32) (pc : Nat) (ls : Array Slot), v = r → decode cJI_bitCount pc = .ok (.ireturn, 1) → W p l e rm_JI_bitCount s m args below meth c H locs 0 0 Q (F0 m pc ls [.int v])) {x0 : Int32} (ls : Array Slot) (hl : lv_has ls 1 [(0, .int (x0))]) (h : fJI_bitCount σ x0 = some r) : W p l e rm_JI_bitCount s m args below meth c H locs 0 0 Q (F0 m 0 ls []) := by
  obtain ⟨hx, hb, hml, hown, hts⟩ := id C
  unfold fJI_bitCount at h
  refine lv_iload_n hx hb dJI_bitCount_0 rfl (lv_at hl 0 rfl) ?_
  refine lv_iload_n hx hb dJI_bitCount_1 rfl (lv_at hl 0 rfl) ?_
  refine lv_iconst (v := (1 : Int32)) hx hb dJI_bitCount_2 (by decide) ?_
  refine lv_iushr (v := jiushr x0 (1 : Int32)) hx hb dJI_bitCount_3 rfl ?_
  refine lv_ldcw (v := (1431655765 : Int32)) hx hb hown (hts _ mw_20) dJI_bitCount_4 ?_
  refine lv_iand hx hb dJI_bitCount_7 ?_
  refine lv_isub hx hb dJI_bitCount_8 ?_
  refine lv_topi (fun y1 ey1 => ?_)
  have h := nm_at ey1 h
  refine lv_istore_n (lv' := [(0, .int (y1))]) hx hb dJI_bitCount_9 rfl hl (by decide) rfl (fun ls hl => ?_)
  refine lv_iload_n hx hb dJI_bitCount_10 rfl (lv_at hl 0 rfl) ?_
  refine lv_ldcw (v := (858993459 : Int32)) hx hb hown (hts _ mw_21) dJI_bitCount_11 ?_
  refine lv_iand hx hb dJI_bitCount_14 ?_
  refine lv_iload_n hx hb dJI_bitCount_15 rfl (lv_at hl 0 rfl) ?_
  refine lv_iconst (v := (2 : Int32)) hx hb dJI_bitCount_16 (by decide) ?_
  refine lv_iushr (v := jiushr y1 (2 : Int32)) hx hb dJI_bitCount_17 rfl ?_
  refine lv_ldcw (v := (858993459 : Int32)) hx hb hown (hts _ mw_21) dJI_bitCount_18 ?_
  refine lv_iand hx hb dJI_bitCount_21 ?_
  refine lv_iadd hx hb dJI_bitCount_22 ?_
  refine lv_topi (fun y2 ey2 => ?_)
  have h := nm_at ey2 h
  refine lv_istore_n (lv' := [(0, .int (y2))]) hx hb dJI_bitCount_23 rfl hl (by decide) rfl (fun ls hl => ?_)
  refine lv_iload_n hx hb dJI_bitCount_24 rfl (lv_at hl 0 rfl) ?_
  refine lv_iload_n hx hb dJI_bitCount_25 rfl (lv_at hl 0 rfl) ?_
  refine lv_iconst (v := (4 : Int32)) hx hb dJI_bitCount_26 (by decide) ?_
  refine lv_iushr (v := jiushr y2 (4 : Int32)) hx hb dJI_bitCount_27 rfl ?_
  refine lv_iadd hx hb dJI_bitCount_28 ?_
  refine lv_ldcw (v := (252645135 : Int32)) hx hb hown (hts _ mw_22) dJI_bitCount_29 ?_
  refine lv_iand hx hb dJI_bitCount_32 ?_
  refine lv_topi (fun y3 ey3 => ?_)
  have h := nm_at ey3 h
  refine lv_istore_n (lv' := [(0, .int (y3))]) hx hb dJI_bitCount_33 rfl hl (by decide) rfl (fun ls hl => ?_)
  refine lv_iload_n hx hb dJI_bitCount_34 rfl (lv_at hl 0 rfl) ?_
  refine lv_iload_n hx hb dJI_bitCount_35 rfl (lv_at hl 0 rfl) ?_
  refine lv_bipush (v := (8 : Int32)) hx hb dJI_bitCount_36 (by decide) ?_
  refine lv_iushr (v := jiushr y3 (8 : Int32)) hx hb dJI_bitCount_38 rfl ?_
  refine lv_iadd hx hb dJI_bitCount_39 ?_
  refine lv_topi (fun y4 ey4 => ?_)
  have h := nm_at ey4 h
  refine lv_istore_n (lv' := [(0, .int (y4))]) hx hb dJI_bitCount_40 rfl hl (by decide) rfl (fun ls hl => ?_)
  refine lv_iload_n hx hb dJI_bitCount_41 rfl (lv_at hl 0 rfl) ?_
  refine lv_iload_n hx hb dJI_bitCount_42 rfl (lv_at hl 0 rfl) ?_
  refine lv_bipush (v := (16 : Int32)) hx hb dJI_bitCount_43 (by decide) ?_
  refine lv_iushr (v := jiushr y4 (16 : Int32)) hx hb dJI_bitCount_45 rfl ?_
  refine lv_iadd hx hb dJI_bitCount_46 ?_
  refine lv_topi (fun y5 ey5 => ?_)
  have h := nm_at ey5 h
  refine lv_istore_n (lv' := [(0, .int (y5))]) hx hb dJI_bitCount_47 rfl hl (by decide) rfl (fun ls hl => ?_)
  refine lv_iload_n hx hb dJI_bitCount_48 rfl (lv_at hl 0 rfl) ?_
  refine lv_bipush (v := (63 : Int32)) hx hb dJI_bitCount_49 (by decide) ?_
  refine lv_iand hx hb dJI_bitCount_51 ?_
  exact hend _ _ _ (Option.some.inj h) dJI_bitCount_52
set_option maxHeartbeats 4000000 in
set_option maxRecDepth 100000 in
theorem kJI_bitCount (l : Launch) (dC : Nat → ClassId) (dI : Nat → Nat → Nat) (ad : Nat → Nat) (cA : Nat → ClassId) (σ : xSt) (x0 : Int32) (r : Int32) (h : fJI_bitCount σ x0 = some r) : Met l yJI_bitCount wsJI_bitCount rm_JI_bitCount (va_Pc [.int (x0)] (fun U => va_P (dC, dI) vwC (xW ad cA σ) U.heap ∧ va_K (dC, dI) vwC (xT cA) U)) (vp_Si (fun v => v = r)) 0 0 (fun _ => False) := by
  refine Met.ofW (cc := cJI_bitCount) (maxL := 1) (ret := (some .int)) (by decide) rfl ?_
  intro p e s m args below meth c s₁ B hml hv
  obtain ⟨rfl, hP, hK⟩ := hv
  have hr := B.returns
  have hlocks := B.notSynchronized
  have hl := lv_entry ([.int (x0)]) (n := 1) (Nat.le_of_ble_eq_true rfl)
  rw [lg_entry_eq]
  exact wJI_bitCount ⟨B.exec, B.bytes, hml, findClass_of_methodNamed B.named, fun w h => atoms_spec (ws := wsJI_bitCount) B.pre w (List.mem_cons_of_mem _ h)⟩ hK hP (fun v pc ls hv hd => W.iret (v := v) B.exec B.bytes hr (fun t ht hW => ⟨v, rfl, hv, ht⟩) (fun q hq => absurd hq List.not_mem_nil) hd) _ hl h
abbrev rm_C1_isA : Room := { frames := 0, cells := 0, slots := 0, locals := 0 }
def fC1_isA_b104 (σ : xSt) (x4 : Int32) (x5 : Int32) : Option Int32 :=
  if x4 < 0 then
    some (0 : Int32)
  else
    if (40 : Int32) ≤ x4 then
      some (0 : Int32)
    else
      if x5 < 0 then
        some (0 : Int32)
      else
        if (40 : Int32) ≤ x5 then
          some (0 : Int32)
        else
          if x4 < 0 ∨ 40 ≤ x4.toNatClampNeg then none else
          if (lg_cmp ((jlushr (σ.2 6 x4.toNatClampNeg) x5) &&& (1 : Int64)) (0 : Int64)) = 0 then
            some (0 : Int32)
          else
            some (1 : Int32)
set_option maxHeartbeats 4000000 in
set_option maxRecDepth 100000 in
theorem wC1_isA_b104 {p : Program} {l : Launch} {e : Env} {s : State} {m : MethodId} {args : Array Value} {below : List Frame} {meth : Method} {c : Code} {Q : State → Prop} {dC : Nat → ClassId} {dI : Nat → Nat → Nat} {ad : Nat → Nat} {cA : Nat → ClassId} {r : Int32} {H : Heap} {locs : List Loc} {σ : xSt} (C : CallFix p m c cC1_isA 6 s args wAll RC1) (hK : va_K (dC, dI) vwC (xT cA) s) (hP : va_P (dC, dI) vwC (xW ad cA σ) H) (hend : ∀ (v : Int32) (pc : Nat) (ls : Array Slot), v = r → narrow .boolean (.int v) = .int v → decode cC1_isA pc = .ok (.ireturn, 1) → W p l e rm_C1_isA s m args below meth c H locs 0 0 Q (F0 m pc ls [.int v])) :
    ∀ (x4 : Int32) (x5 : Int32) (ls : Array Slot), lv_has ls 6 [(0, .ref (ad 1)), (4, .int (x4)), (5, .int (x5))] → fC1_isA_b104 σ x4 x5 = some r → W p l e rm_C1_isA s m args below meth c H locs 0 0 Q (F0 m 104 ls []) := by
  obtain ⟨hx, hb, hml, hown, hts⟩ := id C
  intro x4 x5 ls hl h
  unfold fC1_isA_b104 at h
  refine lv_iload hx hb dC1_isA_104 (lv_at hl 1 rfl) ?_
  refine lv_if_lt (tgt := 149) hx hb dC1_isA_106 (by decide) (fun c6 => ?_) (fun c6 => ?_)
  · have h := (if_pos c6).symm.trans h
    refine lv_iconst (v := (0 : Int32)) hx hb dC1_isA_149 (by decide) ?_
    exact hend _ _ _ (Option.some.inj h) rfl dC1_isA_150
  · have h := (if_neg c6).symm.trans h
    refine lv_iload hx hb dC1_isA_109 (lv_at hl 1 rfl) ?_
    refine lv_bipush (v := (40 : Int32)) hx hb dC1_isA_111 (by decide) ?_
    refine lv_icmp_ge (tgt := 149) hx hb dC1_isA_113 (by decide) (fun c5 => ?_) (fun c5 => ?_)
    · have h := (if_pos c5).symm.trans h
      refine lv_iconst (v := (0 : Int32)) hx hb dC1_isA_149 (by decide) ?_
      exact hend _ _ _ (Option.some.inj h) rfl dC1_isA_150
    · have h := (if_neg c5).symm.trans h
      refine lv_iload hx hb dC1_isA_116 (lv_at hl 2 rfl) ?_
      refine lv_if_lt (tgt := 149) hx hb dC1_isA_118 (by decide) (fun c4 => ?_) (fun c4 => ?_)
      · have h := (if_pos c4).symm.trans h
        refine lv_iconst (v := (0 : Int32)) hx hb dC1_isA_149 (by decide) ?_
        exact hend _ _ _ (Option.some.inj h) rfl dC1_isA_150
      · have h := (if_neg c4).symm.trans h
        refine lv_iload hx hb dC1_isA_121 (lv_at hl 2 rfl) ?_
        refine lv_bipush (v := (40 : Int32)) hx hb dC1_isA_123 (by decide) ?_
        refine lv_icmp_ge (tgt := 149) hx hb dC1_isA_125 (by decide) (fun c3 => ?_) (fun c3 => ?_)
        · have h := (if_pos c3).symm.trans h
          refine lv_iconst (v := (0 : Int32)) hx hb dC1_isA_149 (by decide) ?_
          exact hend _ _ _ (Option.some.inj h) rfl dC1_isA_150
        · have h := (if_neg c3).symm.trans h
          refine lv_aload_n hx hb dC1_isA_128 rfl (lv_at hl 0 rfl) ?_
          refine va_get (D := (dC, dI)) (ci := 1) (v := .ref (ad 6)) (C := RC1) (T := TC1) (N := 4) hx hb hts inC1 hown hK hP 1 rfl rfl 0 (by decide) (hts _ mw_2) (fun _ h9 => h9) rfl dC1_isA_129 ?_
          refine lv_iload hx hb dC1_isA_132 (lv_at hl 1 rfl) ?_
          obtain ⟨b1, h⟩ := gx_nb h
          refine va_lald hx hb hK hP 6 1 rfl rfl b1 dC1_isA_134 ?_
          refine lv_iload hx hb dC1_isA_135 (lv_at hl 2 rfl) ?_
          refine lv_lushr (v := jlushr (σ.2 6 x4.toNatClampNeg) x5) hx hb dC1_isA_137 rfl ?_
          refine lv_lconst (v := (1 : Int64)) hx hb dC1_isA_138 (by decide) ?_
          refine lv_land hx hb dC1_isA_139 ?_
          refine lv_lconst (v := (0 : Int64)) hx hb dC1_isA_140 (by decide) ?_
          refine W.lcmp hx hb dC1_isA_141 ?_
          refine lv_if_eq (tgt := 149) hx hb dC1_isA_142 (by decide) (fun c2 => ?_) (fun c2 => ?_)
          · have h := (if_pos c2).symm.trans h
            refine lv_iconst (v := (0 : Int32)) hx hb dC1_isA_149 (by decide) ?_
            exact hend _ _ _ (Option.some.inj h) rfl dC1_isA_150
          · have h := (if_neg c2).symm.trans h
            refine lv_iconst (v := (1 : Int32)) hx hb dC1_isA_145 (by decide) ?_
            refine lv_goto (tgt := 150) hx hb dC1_isA_146 (by decide) ?_
            exact hend _ _ _ (Option.some.inj h) rfl dC1_isA_150
def fC1_isA_b90 (σ : xSt) (x3 : Int32) (x4 : Int32) (s0 : Int32) : Option Int32 :=
  if x3 = 0 then
    fC1_isA_b104 σ x4 s0
  else
    if (3 : Int32) < x4 then
      fC1_isA_b104 σ x4 s0
    else
      some (0 : Int32)
set_option maxHeartbeats 4000000 in
set_option maxRecDepth 100000 in
theorem wC1_isA_b90 {p : Program} {l : Launch} {e : Env} {s : State} {m : MethodId} {args : Array Value} {below : List Frame} {meth : Method} {c : Code} {Q : State → Prop} {dC : Nat → ClassId} {dI : Nat → Nat → Nat} {ad : Nat → Nat} {cA : Nat → ClassId} {r : Int32} {H : Heap} {locs : List Loc} {σ : xSt} (C : CallFix p m c cC1_isA 6 s args wAll RC1) (hK : va_K (dC, dI) vwC (xT cA) s) (hP : va_P (dC, dI) vwC (xW ad cA σ) H) (hend : ∀ (v : Int32) (pc : Nat) (ls : Array Slot), v = r → narrow .boolean (.int v) = .int v → decode cC1_isA pc = .ok (.ireturn, 1) → W p l e rm_C1_isA s m args below meth c H locs 0 0 Q (F0 m pc ls [.int v])) :
    ∀ (x3 : Int32) (x4 : Int32) (s0 : Int32) (ls : Array Slot), lv_has ls 6 [(0, .ref (ad 1)), (3, .int (x3)), (4, .int (x4))] → fC1_isA_b90 σ x3 x4 s0 = some r → W p l e rm_C1_isA s m args below meth c H locs 0 0 Q (F0 m 90 ls [.int (s0)]) := by
  obtain ⟨hx, hb, hml, hown, hts⟩ := id C
  intro x3 x4 s0 ls hl h
  unfold fC1_isA_b90 at h
  refine lv_istore (lv' := [(5, .int (s0)), (0, .ref (ad 1)), (3, .int (x3)), (4, .int (x4))]) hx hb dC1_isA_90 hl (by decide) rfl (fun ls hl => ?_)
  refine lv_iload_n hx hb dC1_isA_92 rfl (lv_at hl 2 rfl) ?_
  refine lv_if_eq (tgt := 104) hx hb dC1_isA_93 (by decide) (fun c8 => ?_) (fun c8 => ?_)
  · have h := (if_pos c8).symm.trans h
    exact wC1_isA_b104 C hK hP hend _ _ _ (lv_sub hl [1, 3, 0] rfl) h
  · have h := (if_neg c8).symm.trans h
    refine lv_iload hx hb dC1_isA_96 (lv_at hl 3 rfl) ?_
    refine lv_iconst (v := (3 : Int32)) hx hb dC1_isA_98 (by decide) ?_
    refine lv_icmp_gt (tgt := 104) hx hb dC1_isA_99 (by decide) (fun c7 => ?_) (fun c7 => ?_)
    · have h := (if_pos c7).symm.trans h
      exact wC1_isA_b104 C hK hP hend _ _ _ (lv_sub hl [1, 3, 0] rfl) h
    · have h := (if_neg c7).symm.trans h
      refine lv_iconst (v := (0 : Int32)) hx hb dC1_isA_102 (by decide) ?_
      exact hend _ _ _ (Option.some.inj h) rfl dC1_isA_103
def fC1_isA_b76 (σ : xSt) (x2 : Int32) (x3 : Int32) (s0 : Int32) : Option Int32 :=
  if x3 = 0 then
    fC1_isA_b90 σ x3 s0 x2
  else
    fC1_isA_b90 σ x3 s0 (x2 - (64 : Int32))
set_option maxHeartbeats 4000000 in
set_option maxRecDepth 100000 in
theorem wC1_isA_b76 {p : Program} {l : Launch} {e : Env} {s : State} {m : MethodId} {args : Array Value} {below : List Frame} {meth : Method} {c : Code} {Q : State → Prop} {dC : Nat → ClassId} {dI : Nat → Nat → Nat} {ad : Nat → Nat} {cA : Nat → ClassId} {r : Int32} {H : Heap} {locs : List Loc} {σ : xSt} (C : CallFix p m c cC1_isA 6 s args wAll RC1) (hK : va_K (dC, dI) vwC (xT cA) s) (hP : va_P (dC, dI) vwC (xW ad cA σ) H) (hend : ∀ (v : Int32) (pc : Nat) (ls : Array Slot), v = r → narrow .boolean (.int v) = .int v → decode cC1_isA pc = .ok (.ireturn, 1) → W p l e rm_C1_isA s m args below meth c H locs 0 0 Q (F0 m pc ls [.int v])) :
    ∀ (x2 : Int32) (x3 : Int32) (s0 : Int32) (ls : Array Slot), lv_has ls 6 [(0, .ref (ad 1)), (2, .int (x2)), (3, .int (x3))] → fC1_isA_b76 σ x2 x3 s0 = some r → W p l e rm_C1_isA s m args below meth c H locs 0 0 Q (F0 m 76 ls [.int (s0)]) := by
  obtain ⟨hx, hb, hml, hown, hts⟩ := id C
  intro x2 x3 s0 ls hl h
  unfold fC1_isA_b76 at h
  refine lv_istore (lv' := [(4, .int (s0)), (0, .ref (ad 1)), (2, .int (x2)), (3, .int (x3))]) hx hb dC1_isA_76 hl (by decide) rfl (fun ls hl => ?_)
  refine lv_iload_n hx hb dC1_isA_78 rfl (lv_at hl 3 rfl) ?_
  refine lv_if_eq (tgt := 89) hx hb dC1_isA_79 (by decide) (fun c9 => ?_) (fun c9 => ?_)
  · have h := (if_pos c9).symm.trans h
    refine lv_iload_n hx hb dC1_isA_89 rfl (lv_at hl 2 rfl) ?_
    exact wC1_isA_b90 C hK hP hend _ _ _ _ (lv_sub hl [1, 3, 0] rfl) h
  · have h := (if_neg c9).symm.trans h
    refine lv_iload_n hx hb dC1_isA_82 rfl (lv_at hl 2 rfl) ?_
    refine lv_bipush (v := (64 : Int32)) hx hb dC1_isA_83 (by decide) ?_
    refine lv_isub hx hb dC1_isA_85 ?_
    refine lv_goto (tgt := 90) hx hb dC1_isA_86 (by decide) ?_
    exact wC1_isA_b90 C hK hP hend _ _ _ _ (lv_sub hl [1, 3, 0] rfl) h
def fC1_isA_b31 (σ : xSt) (x1 : Int32) (x2 : Int32) (x3 : Int32) (s0 : Int32) (s1 : Int32) : Option Int32 :=
  if s0 = s1 then
    if x3 = 0 then
      fC1_isA_b76 σ x2 x3 x1
    else
      fC1_isA_b76 σ x2 x3 (x1 - (64 : Int32))
  else
    if x3 = 0 then
      if x1 = (10 : Int32) then
        some (1 : Int32)
      else
        some (0 : Int32)
    else
      if x2 = (8 : Int32) then
        some (1 : Int32)
      else
        some (0 : Int32)
set_option maxHeartbeats 4000000 in
set_option maxRecDepth 100000 in
theorem wC1_isA_b31 {p : Program} {l : Launch} {e : Env} {s : State} {m : MethodId} {args : Array Value} {below : List Frame} {meth : Method} {c : Code} {Q : State → Prop} {dC : Nat → ClassId} {dI : Nat → Nat → Nat} {ad : Nat → Nat} {cA : Nat → ClassId} {r : Int32} {H : Heap} {locs : List Loc} {σ : xSt} (C : CallFix p m c cC1_isA 6 s args wAll RC1) (hK : va_K (dC, dI) vwC (xT cA) s) (hP : va_P (dC, dI) vwC (xW ad cA σ) H) (hend : ∀ (v : Int32) (pc : Nat) (ls : Array Slot), v = r → narrow .boolean (.int v) = .int v → decode cC1_isA pc = .ok (.ireturn, 1) → W p l e rm_C1_isA s m args below meth c H locs 0 0 Q (F0 m pc ls [.int v])) :
    ∀ (x1 : Int32) (x2 : Int32) (x3 : Int32) (s0 : Int32) (s1 : Int32) (ls : Array Slot), lv_has ls 6 [(0, .ref (ad 1)), (1, .int (x1)), (2, .int (x2)), (3, .int (x3))] → fC1_isA_b31 σ x1 x2 x3 s0 s1 = some r → W p l e rm_C1_isA s m args below meth c H locs 0 0 Q (F0 m 31 ls [.int (s1), .int (s0)]) := by
  obtain ⟨hx, hb, hml, hown, hts⟩ := id C
  intro x1 x2 x3 s0 s1 ls hl h
  unfold fC1_isA_b31 at h
  refine lv_icmp_eq (tgt := 64) hx hb dC1_isA_31 (by decide) (fun c14 => ?_) (fun c14 => ?_)
  · have h := (if_pos c14).symm.trans h
    refine lv_iload_n hx hb dC1_isA_64 rfl (lv_at hl 3 rfl) ?_
    refine lv_if_eq (tgt := 75) hx hb dC1_isA_65 (by decide) (fun c10 => ?_) (fun c10 => ?_)
    · have h := (if_pos c10).symm.trans h
      refine lv_iload_n hx hb dC1_isA_75 rfl (lv_at hl 1 rfl) ?_
      exact wC1_isA_b76 C hK hP hend _ _ _ _ (lv_sub hl [0, 2, 3] rfl) h
    · have h := (if_neg c10).symm.trans h
      refine lv_iload_n hx hb dC1_isA_68 rfl (lv_at hl 1 rfl) ?_
      refine lv_bipush (v := (64 : Int32)) hx hb dC1_isA_69 (by decide) ?_
      refine lv_isub hx hb dC1_isA_71 ?_
      refine lv_goto (tgt := 76) hx hb dC1_isA_72 (by decide) ?_
      exact wC1_isA_b76 C hK hP hend _ _ _ _ (lv_sub hl [0, 2, 3] rfl) h
  · have h := (if_neg c14).symm.trans h
    refine lv_iload_n hx hb dC1_isA_34 rfl (lv_at hl 3 rfl) ?_
    refine lv_if_eq (tgt := 52) hx hb dC1_isA_35 (by decide) (fun c13 => ?_) (fun c13 => ?_)
    · have h := (if_pos c13).symm.trans h
      refine lv_iload_n hx hb dC1_isA_52 rfl (lv_at hl 1 rfl) ?_
      refine lv_bipush (v := (10 : Int32)) hx hb dC1_isA_53 (by decide) ?_
      refine lv_icmp_ne (tgt := 62) hx hb dC1_isA_55 (by decide) (fun c11 => ?_) (fun c11 => ?_)
      · have h := (if_neg c11).symm.trans h
        refine lv_iconst (v := (0 : Int32)) hx hb dC1_isA_62 (by decide) ?_
        exact hend _ _ _ (Option.some.inj h) rfl dC1_isA_63
      · have h := (if_pos c11).symm.trans h
        refine lv_iconst (v := (1 : Int32)) hx hb dC1_isA_58 (by decide) ?_
        refine lv_goto (tgt := 63) hx hb dC1_isA_59 (by decide) ?_
        exact hend _ _ _ (Option.some.inj h) rfl dC1_isA_63
    · have h := (if_neg c13).symm.trans h
      refine lv_iload_n hx hb dC1_isA_38 rfl (lv_at hl 2 rfl) ?_
      refine lv_bipush (v := (8 : Int32)) hx hb dC1_isA_39 (by decide) ?_
      refine lv_icmp_ne (tgt := 48) hx hb dC1_isA_41 (by decide) (fun c12 => ?_) (fun c12 => ?_)
      · have h := (if_neg c12).symm.trans h
        refine lv_iconst (v := (0 : Int32)) hx hb dC1_isA_48 (by decide) ?_
        refine lv_goto (tgt := 63) hx hb dC1_isA_49 (by decide) ?_
        exact hend _ _ _ (Option.some.inj h) rfl dC1_isA_63
      · have h := (if_pos c12).symm.trans h
        refine lv_iconst (v := (1 : Int32)) hx hb dC1_isA_44 (by decide) ?_
        refine lv_goto (tgt := 63) hx hb dC1_isA_45 (by decide) ?_
        exact hend _ _ _ (Option.some.inj h) rfl dC1_isA_63
def fC1_isA_b18 (σ : xSt) (x1 : Int32) (x2 : Int32) (s0 : Int32) : Option Int32 :=
  if x2 < (64 : Int32) then
    fC1_isA_b31 σ x1 x2 s0 s0 (0 : Int32)
  else
    fC1_isA_b31 σ x1 x2 s0 s0 (1 : Int32)
set_option maxHeartbeats 4000000 in
set_option maxRecDepth 100000 in
theorem wC1_isA_b18 {p : Program} {l : Launch} {e : Env} {s : State} {m : MethodId} {args : Array Value} {below : List Frame} {meth : Method} {c : Code} {Q : State → Prop} {dC : Nat → ClassId} {dI : Nat → Nat → Nat} {ad : Nat → Nat} {cA : Nat → ClassId} {r : Int32} {H : Heap} {locs : List Loc} {σ : xSt} (C : CallFix p m c cC1_isA 6 s args wAll RC1) (hK : va_K (dC, dI) vwC (xT cA) s) (hP : va_P (dC, dI) vwC (xW ad cA σ) H) (hend : ∀ (v : Int32) (pc : Nat) (ls : Array Slot), v = r → narrow .boolean (.int v) = .int v → decode cC1_isA pc = .ok (.ireturn, 1) → W p l e rm_C1_isA s m args below meth c H locs 0 0 Q (F0 m pc ls [.int v])) :
    ∀ (x1 : Int32) (x2 : Int32) (s0 : Int32) (ls : Array Slot), lv_has ls 6 [(0, .ref (ad 1)), (1, .int (x1)), (2, .int (x2))] → fC1_isA_b18 σ x1 x2 s0 = some r → W p l e rm_C1_isA s m args below meth c H locs 0 0 Q (F0 m 18 ls [.int (s0)]) := by
  obtain ⟨hx, hb, hml, hown, hts⟩ := id C
  intro x1 x2 s0 ls hl h
  unfold fC1_isA_b18 at h
  refine lv_istore_n (lv' := [(3, .int (s0)), (0, .ref (ad 1)), (1, .int (x1)), (2, .int (x2))]) hx hb dC1_isA_18 rfl hl (by decide) rfl (fun ls hl => ?_)
  refine lv_iload_n hx hb dC1_isA_19 rfl (lv_at hl 0 rfl) ?_
  refine lv_iload_n hx hb dC1_isA_20 rfl (lv_at hl 3 rfl) ?_
  refine lv_bipush (v := (64 : Int32)) hx hb dC1_isA_21 (by decide) ?_
  refine lv_icmp_lt (tgt := 30) hx hb dC1_isA_23 (by decide) (fun c15 => ?_) (fun c15 => ?_)
  · have h := (if_pos c15).symm.trans h
    refine lv_iconst (v := (0 : Int32)) hx hb dC1_isA_30 (by decide) ?_
    exact wC1_isA_b31 C hK hP hend _ _ _ _ _ _ (lv_sub hl [1, 2, 3, 0] rfl) h
  · have h := (if_neg c15).symm.trans h
    refine lv_iconst (v := (1 : Int32)) hx hb dC1_isA_26 (by decide) ?_
    refine lv_goto (tgt := 31) hx hb dC1_isA_27 (by decide) ?_
    exact wC1_isA_b31 C hK hP hend _ _ _ _ _ _ (lv_sub hl [1, 2, 3, 0] rfl) h
def fC1_isA (σ : xSt) (x1 : Int32) (x2 : Int32) : Option Int32 :=
  if x1 = x2 then
    some (1 : Int32)
  else
    if x1 < (64 : Int32) then
      fC1_isA_b18 σ x1 x2 (0 : Int32)
    else
      fC1_isA_b18 σ x1 x2 (1 : Int32)
set_option maxHeartbeats 4000000 in
set_option maxRecDepth 100000 in
theorem wC1_isA {p : Program} {l : Launch} {e : Env} {s : State} {m : MethodId} {args : Array Value} {below : List Frame} {meth : Method} {c : Code} {Q : State → Prop} {dC : Nat → ClassId} {dI : Nat → Nat → Nat} {ad : Nat → Nat} {cA : Nat → ClassId} {r : Int32} {H : Heap} {locs : List Loc} {σ : xSt} (C : CallFix p m c cC1_isA 6 s args wAll RC1) (hK : va_K (dC, dI) vwC (xT cA) s) (hP : va_P (dC, dI) vwC (xW ad cA σ) H) (hend : ∀ (v : Int32) (pc : Nat) (ls : Array Slot), v = r → narrow .boolean (.int v) = .int v → decode cC1_isA pc = .ok (.ireturn, 1) → W p l e rm_C1_isA s m args below meth c H locs 0 0 Q (F0 m pc ls [.int v])) {x1 : Int32} {x2 : Int32} (ls : Array Slot) (hl : lv_has ls 6 [(0, .ref (ad 1)), (1, .int (x1)), (2, .int (x2))]) (h : fC1_isA σ x1 x2 = some r) : W p l e rm_C1_isA s m args below meth c H locs 0 0 Q (F0 m 0 ls []) := by
  obtain ⟨hx, hb, hml, hown, hts⟩ := id C
  unfold fC1_isA at h
  refine lv_iload_n hx hb dC1_isA_0 rfl (lv_at hl 1 rfl) ?_
  refine lv_iload_n hx hb dC1_isA_1 rfl (lv_at hl 2 rfl) ?_
  refine lv_icmp_ne (tgt := 7) hx hb dC1_isA_2 (by decide) (fun c17 => ?_) (fun c17 => ?_)
  · have h := (if_neg c17).symm.trans h
    refine lv_iload_n hx hb dC1_isA_7 rfl (lv_at hl 1 rfl) ?_
    refine lv_bipush (v := (64 : Int32)) hx hb dC1_isA_8 (by decide) ?_
    refine lv_icmp_lt (tgt := 17) hx hb dC1_isA_10 (by decide) (fun c16 => ?_) (fun c16 => ?_)
    · have h := (if_pos c16).symm.trans h
      refine lv_iconst (v := (0 : Int32)) hx hb dC1_isA_17 (by decide) ?_
      exact wC1_isA_b18 C hK hP hend _ _ _ _ (lv_sub hl [0, 1, 2] rfl) h
    · have h := (if_neg c16).symm.trans h
      refine lv_iconst (v := (1 : Int32)) hx hb dC1_isA_13 (by decide) ?_
      refine lv_goto (tgt := 18) hx hb dC1_isA_14 (by decide) ?_
      exact wC1_isA_b18 C hK hP hend _ _ _ _ (lv_sub hl [0, 1, 2] rfl) h
  · have h := (if_pos c17).symm.trans h
    refine lv_iconst (v := (1 : Int32)) hx hb dC1_isA_5 (by decide) ?_
    exact hend _ _ _ (Option.some.inj h) rfl dC1_isA_6
set_option maxHeartbeats 4000000 in
set_option maxRecDepth 100000 in
theorem kC1_isA (l : Launch) (dC : Nat → ClassId) (dI : Nat → Nat → Nat) (ad : Nat → Nat) (cA : Nat → ClassId) (σ : xSt) (x1 : Int32) (x2 : Int32) (r : Int32) (h : fC1_isA σ x1 x2 = some r) : Met l yC1_isA wsC1_isA rm_C1_isA (va_Pc [.ref (ad 1), .int (x1), .int (x2)] (fun U => va_P (dC, dI) vwC (xW ad cA σ) U.heap ∧ va_K (dC, dI) vwC (xT cA) U)) (vp_Si (fun v => v = r)) 0 0 (fun _ => False) := by
  refine Met.ofW (cc := cC1_isA) (maxL := 6) (ret := (some .boolean)) (by decide) rfl ?_
  intro p e s m args below meth c s₁ B hml hv
  obtain ⟨rfl, hP, hK⟩ := hv
  have hr := B.returns
  have hlocks := B.notSynchronized
  have hl := lv_entry ([.ref (ad 1), .int (x1), .int (x2)]) (n := 6) (Nat.le_of_ble_eq_true rfl)
  rw [lg_entry_eq]
  exact wC1_isA ⟨B.exec, B.bytes, hml, findClass_of_methodNamed B.named, fun w h => atoms_spec (ws := wsC1_isA) B.pre w (List.mem_cons_of_mem _ h)⟩ hK hP (fun v pc ls hv hn hd => W.zret (v := v) B.exec B.bytes hr hn (fun t ht hW => ⟨v, rfl, hv, ht⟩) (fun q hq => absurd hq List.not_mem_nil) hd) _ hl h
abbrev rm_C1_putBelow : Room := { frames := 2, cells := 0, slots := 0, locals := 42 }
def fC1_putBelow_b134 (k96 : xSt → Int32 → Int32 → Int32 → Int32 → Option (Int32 × xSt)) (σ : xSt) (x1 : Int32) (x2 : Int32) (x3 : Int32) (x6 : Int32) : Option (Int32 × xSt) :=
  k96 σ x1 x2 x3 (x6 + (1 : Int32))
set_option maxHeartbeats 4000000 in
set_option maxRecDepth 100000 in
theorem wC1_putBelow_b134 {p : Program} {l : Launch} {e : Env} {s : State} {m : MethodId} {args : Array Value} {below : List Frame} {meth : Method} {c : Code} {Q : State → Prop} {dC : Nat → ClassId} {dI : Nat → Nat → Nat} {ad : Nat → Nat} {cA : Nat → ClassId} {r : (Int32 × xSt)} (C : CallFix p m c cC1_putBelow 7 s args wAll RC1) (hK : va_K (dC, dI) vwC (xT cA) s) (hend : ∀ (v : Int32) (σ : xSt) (H : Heap) (locs : List Loc) (pc : Nat) (ls : Array Slot), (v, σ) = r → va_P (dC, dI) vwC (xW ad cA σ) H → va_S (xA ad) s.heap H locs → decode cC1_putBelow pc = .ok (.ireturn, 1) → W p l e rm_C1_putBelow s m args below meth c H locs 0 0 Q (F0 m pc ls [.int v])) {k96 : xSt → Int32 → Int32 → Int32 → Int32 → Option (Int32 × xSt)} (hk96 : ∀ (σ : xSt) (H : Heap) (locs : List Loc) (x1 : Int32) (x2 : Int32) (x3 : Int32) (x6 : Int32) (ls : Array Slot), va_P (dC, dI) vwC (xW ad cA σ) H → va_D (xA ad) (xW ad cA σ) → va_S (xA ad) s.heap H locs → lv_has ls 7 [(0, .ref (ad 1)), (1, .int (x1)), (2, .int (x2)), (3, .int (x3)), (6, .int (x6))] → k96 σ x1 x2 x3 x6 = some r → W p l e rm_C1_putBelow s m args below meth c H locs 0 0 Q (F0 m 96 ls [])) :
    ∀ (σ : xSt) (H : Heap) (locs : List Loc) (x1 : Int32) (x2 : Int32) (x3 : Int32) (x6 : Int32) (ls : Array Slot), va_P (dC, dI) vwC (xW ad cA σ) H → va_D (xA ad) (xW ad cA σ) → va_S (xA ad) s.heap H locs → lv_has ls 7 [(0, .ref (ad 1)), (1, .int (x1)), (2, .int (x2)), (3, .int (x3)), (6, .int (x6))] → fC1_putBelow_b134 k96 σ x1 x2 x3 x6 = some r → W p l e rm_C1_putBelow s m args below meth c H locs 0 0 Q (F0 m 134 ls []) := by
  obtain ⟨hx, hb, hml, hown, hts⟩ := id C
  intro σ H locs x1 x2 x3 x6 ls hP hD hS hl h
  unfold fC1_putBelow_b134 at h
  refine lv_iinc (v := x6 + (1 : Int32)) (lv' := [(6, .int (x6 + (1 : Int32))), (0, .ref (ad 1)), (1, .int (x1)), (2, .int (x2)), (3, .int (x3))]) hx hb dC1_putBelow_134 hl (k := 4) rfl rfl (by decide) rfl (fun ls hl => ?_)
  refine lv_goto (tgt := 96) hx hb dC1_putBelow_137 (by decide) ?_
  exact hk96 _ _ _ _ _ _ _ _ hP hD hS (lv_sub hl [1, 2, 3, 4, 0] rfl) h
def fC1_putBelow_b96 : Nat → xSt → Int32 → Int32 → Int32 → Int32 → Option (Int32 × xSt)
  | 0, _, _, _, _, _ => none
  | n + 1, σ, x1, x2, x3, x6 =>
    if ((16 : Int32) + (σ.1 1 3)) ≤ x6 then
      if x3 < 0 ∨ 24 ≤ x3.toNatClampNeg then none else
      (fJI_bitCount σ (σ.1 7 x3.toNatClampNeg)).bind fun v13 =>
      some (v13, σ)
    else
      (fC1_isA σ x6 x1).bind fun v14 =>
      if v14 = 0 then
        fC1_putBelow_b134 (fC1_putBelow_b96 n) σ x1 x2 x3 x6
      else
        if x6 < 0 ∨ 40 ≤ x6.toNatClampNeg then none else
        if x2 < 0 ∨ 40 ≤ x2.toNatClampNeg then none else
        if x6 < 0 ∨ 40 ≤ x6.toNatClampNeg then none else
        nm (sL σ 6 x6.toNatClampNeg ((σ.2 6 x6.toNatClampNeg) ||| (σ.2 6 x2.toNatClampNeg))) fun σ18 =>
        fC1_putBelow_b134 (fC1_putBelow_b96 n) σ18 x1 x2 x3 x6
set_option maxHeartbeats 4000000 in
set_option maxRecDepth 100000 in
theorem wC1_putBelow_b96 {p : Program} {l : Launch} {e : Env} {s : State} {m : MethodId} {args : Array Value} {below : List Frame} {meth : Method} {c : Code} {Q : State → Prop} {dC : Nat → ClassId} {dI : Nat → Nat → Nat} {ad : Nat → Nat} {cA : Nat → ClassId} {r : (Int32 × xSt)} (C : CallFix p m c cC1_putBelow 7 s args wAll RC1) (hK : va_K (dC, dI) vwC (xT cA) s) (hend : ∀ (v : Int32) (σ : xSt) (H : Heap) (locs : List Loc) (pc : Nat) (ls : Array Slot), (v, σ) = r → va_P (dC, dI) vwC (xW ad cA σ) H → va_S (xA ad) s.heap H locs → decode cC1_putBelow pc = .ok (.ireturn, 1) → W p l e rm_C1_putBelow s m args below meth c H locs 0 0 Q (F0 m pc ls [.int v])) :
    ∀ (n : Nat) (σ : xSt) (H : Heap) (locs : List Loc) (x1 : Int32) (x2 : Int32) (x3 : Int32) (x6 : Int32) (ls : Array Slot), va_P (dC, dI) vwC (xW ad cA σ) H → va_D (xA ad) (xW ad cA σ) → va_S (xA ad) s.heap H locs → lv_has ls 7 [(0, .ref (ad 1)), (1, .int (x1)), (2, .int (x2)), (3, .int (x3)), (6, .int (x6))] → fC1_putBelow_b96 n σ x1 x2 x3 x6 = some r → W p l e rm_C1_putBelow s m args below meth c H locs 0 0 Q (F0 m 96 ls []) := by
  obtain ⟨hx, hb, hml, hown, hts⟩ := id C
  intro n
  induction n with
  | zero =>
    intro σ H locs x1 x2 x3 x6 ls hP hD hS hl h
    rw [fC1_putBelow_b96] at h
    cases h
  | succ n ih =>
    intro σ H locs x1 x2 x3 x6 ls hP hD hS hl h
    rw [fC1_putBelow_b96] at h
    refine lv_iload hx hb dC1_putBelow_96 (lv_at hl 4 rfl) ?_
    refine lv_bipush (v := (16 : Int32)) hx hb dC1_putBelow_98 (by decide) ?_
    refine lv_aload_n hx hb dC1_putBelow_100 rfl (lv_at hl 0 rfl) ?_
    refine va_get (D := (dC, dI)) (ci := 1) (v := .int (σ.1 1 3)) (C := RC1) (T := TC1) (N := 4) hx hb hts inC1 hown hK hP 1 rfl rfl 3 (by decide) (hts _ mw_1) (fun _ h9 => h9) rfl dC1_putBelow_101 ?_
    refine lv_iadd hx hb dC1_putBelow_104 ?_
    refine lv_icmp_ge (tgt := 140) hx hb dC1_putBelow_105 (by decide) (fun c20 => ?_) (fun c20 => ?_)
    · have h := (if_pos c20).symm.trans h
      refine lv_aload_n hx hb dC1_putBelow_140 rfl (lv_at hl 0 rfl) ?_
      refine va_get (D := (dC, dI)) (ci := 1) (v := .ref (ad 7)) (C := RC1) (T := TC1) (N := 4) hx hb hts inC1 hown hK hP 1 rfl rfl 1 (by decide) (hts _ mw_19) (fun _ h9 => h9) rfl dC1_putBelow_141 ?_
      refine lv_iload_n hx hb dC1_putBelow_144 rfl (lv_at hl 3 rfl) ?_
      obtain ⟨b12, h⟩ := gx_nb h
      refine va_iald hx hb hK hP 7 2 rfl rfl b12 dC1_putBelow_145 ?_
      obtain ⟨v13, ev13, h⟩ := Option.bind_eq_some_iff.mp h
      refine gcall_s (As := [.int (σ.1 7 x3.toNatClampNeg)]) (rest := []) C hK hP (kJI_bitCount l dC dI ad cA σ (σ.1 7 x3.toNatClampNeg) v13 ev13) (va_cwS 1 hts (gws mw_23 mw_24 mw_25 mw_26) rfl rfl rfl hdJI_bitCount ⟨Nat.le_of_ble_eq_true rfl, Nat.le_of_ble_eq_true rfl⟩) rfl hl.1 rfl (Nat.le_of_ble_eq_true rfl) dC1_putBelow_146 ⟨Nat.le_refl _, Nat.le_refl _⟩ ?_
      exact hend _ _ _ _ _ _ (Option.some.inj h) hP hS dC1_putBelow_149
    · have h := (if_neg c20).symm.trans h
      refine lv_aload_n hx hb dC1_putBelow_108 rfl (lv_at hl 0 rfl) ?_
      refine lv_iload hx hb dC1_putBelow_109 (lv_at hl 4 rfl) ?_
      refine lv_iload_n hx hb dC1_putBelow_111 rfl (lv_at hl 1 rfl) ?_
      obtain ⟨v14, ev14, h⟩ := Option.bind_eq_some_iff.mp h
      refine gcall_r (b := ad 1) (As := [.int (x6), .int (x1)]) (rest := []) C hK hP (ci := 1) (q0 := 1) rfl rfl (kC1_isA l dC dI ad cA σ x6 x1 v14 ev14) (cwV 2 hts (gw mw_27 mw_28 mw_29 mw_7 mw_30) rfl rfl rfl hdC1_isA ⟨Nat.le_of_ble_eq_true rfl, Nat.le_of_ble_eq_true rfl⟩) rfl hl.1 rfl (Nat.le_of_ble_eq_true rfl) dC1_putBelow_112 ⟨Nat.le_refl _, Nat.le_refl _⟩ ?_
      refine lv_if_eq (tgt := 134) hx hb dC1_putBelow_115 (by decide) (fun c19 => ?_) (fun c19 => ?_)
      · have h := (if_pos c19).symm.trans h
        exact wC1_putBelow_b134 C hK hend ih _ _ _ _ _ _ _ _ hP hD hS (lv_sub hl [0, 1, 2, 3, 4] rfl) h
      · have h := (if_neg c19).symm.trans h
        refine lv_aload_n hx hb dC1_putBelow_118 rfl (lv_at hl 0 rfl) ?_
        refine va_get (D := (dC, dI)) (ci := 1) (v := .ref (ad 6)) (C := RC1) (T := TC1) (N := 4) hx hb hts inC1 hown hK hP 1 rfl rfl 0 (by decide) (hts _ mw_2) (fun _ h9 => h9) rfl dC1_putBelow_119 ?_
        refine lv_iload hx hb dC1_putBelow_122 (lv_at hl 4 rfl) ?_
        refine lv_dup2_11 hx hb dC1_putBelow_124 rfl rfl ?_
        obtain ⟨b15, h⟩ := gx_nb h
        refine va_lald hx hb hK hP 6 1 rfl rfl b15 dC1_putBelow_125 ?_
        refine lv_aload_n hx hb dC1_putBelow_126 rfl (lv_at hl 0 rfl) ?_
        refine va_get (D := (dC, dI)) (ci := 1) (v := .ref (ad 6)) (C := RC1) (T := TC1) (N := 4) hx hb hts inC1 hown hK hP 1 rfl rfl 0 (by decide) (hts _ mw_2) (fun _ h9 => h9) rfl dC1_putBelow_127 ?_
        refine lv_iload_n hx hb dC1_putBelow_130 rfl (lv_at hl 2 rfl) ?_
        obtain ⟨b16, h⟩ := gx_nb h
        refine va_lald hx hb hK hP 6 1 rfl rfl b16 dC1_putBelow_131 ?_
        refine lv_lor hx hb dC1_putBelow_132 ?_
        obtain ⟨b17, h⟩ := gx_nb h
        refine va_last hx hb hK hP hD hS 6 1 rfl rfl b17 dC1_putBelow_133 (fun H locs hP hD hS => ?_)
        obtain ⟨σ18, eσ18⟩ : ∃ z, z = sL σ 6 x6.toNatClampNeg ((σ.2 6 x6.toNatClampNeg) ||| (σ.2 6 x2.toNatClampNeg)) := ⟨_, rfl⟩
        have hP : va_P (dC, dI) vwC (xW ad cA σ18) H := by rw [eσ18]; exact hP
        have hD : va_D (xA ad) (xW ad cA σ18) := by rw [eσ18]; exact hD
        have h := nm_at eσ18 h
        exact wC1_putBelow_b134 C hK hend ih _ _ _ _ _ _ _ _ hP hD hS (lv_sub hl [0, 1, 2, 3, 4] rfl) h
def fC1_putBelow_b50 (σ : xSt) (x1 : Int32) (x2 : Int32) (x3 : Int32) (x4 : Int32) (s0 : Int32) : Option (Int32 × xSt) :=
  if s0 = 0 then
    if x3 < 0 ∨ 24 ≤ x3.toNatClampNeg then none else
    if ((σ.1 7 x3.toNatClampNeg) &&& x4) = 0 then
      (fC1_isA σ x2 x1).bind fun v8 =>
      if v8 = 0 then
        if x3 < 0 ∨ 24 ≤ x3.toNatClampNeg then none else
        if x3 < 0 ∨ 24 ≤ x3.toNatClampNeg then none else
        nm (sI σ 7 x3.toNatClampNeg ((σ.1 7 x3.toNatClampNeg) ||| x4)) fun σ11 =>
        fC1_putBelow_b96 gF σ11 x1 x2 x3 (16 : Int32)
      else
        some ((-2 : Int32), σ)
    else
      some ((-2 : Int32), σ)
  else
    some ((-2 : Int32), σ)
set_option maxHeartbeats 4000000 in
set_option maxRecDepth 100000 in
theorem wC1_putBelow_b50 {p : Program} {l : Launch} {e : Env} {s : State} {m : MethodId} {args : Array Value} {below : List Frame} {meth : Method} {c : Code} {Q : State → Prop} {dC : Nat → ClassId} {dI : Nat → Nat → Nat} {ad : Nat → Nat} {cA : Nat → ClassId} {r : (Int32 × xSt)} (C : CallFix p m c cC1_putBelow 7 s args wAll RC1) (hK : va_K (dC, dI) vwC (xT cA) s) (hend : ∀ (v : Int32) (σ : xSt) (H : Heap) (locs : List Loc) (pc : Nat) (ls : Array Slot), (v, σ) = r → va_P (dC, dI) vwC (xW ad cA σ) H → va_S (xA ad) s.heap H locs → decode cC1_putBelow pc = .ok (.ireturn, 1) → W p l e rm_C1_putBelow s m args below meth c H locs 0 0 Q (F0 m pc ls [.int v])) :
    ∀ (σ : xSt) (H : Heap) (locs : List Loc) (x1 : Int32) (x2 : Int32) (x3 : Int32) (x4 : Int32) (s0 : Int32) (ls : Array Slot), va_P (dC, dI) vwC (xW ad cA σ) H → va_D (xA ad) (xW ad cA σ) → va_S (xA ad) s.heap H locs → lv_has ls 7 [(0, .ref (ad 1)), (1, .int (x1)), (2, .int (x2)), (3, .int (x3)), (4, .int (x4))] → fC1_putBelow_b50 σ x1 x2 x3 x4 s0 = some r → W p l e rm_C1_putBelow s m args below meth c H locs 0 0 Q (F0 m 50 ls [.int (s0)]) := by
  obtain ⟨hx, hb, hml, hown, hts⟩ := id C
  intro σ H locs x1 x2 x3 x4 s0 ls hP hD hS hl h
  unfold fC1_putBelow_b50 at h
  refine lv_istore (lv' := [(5, .int (s0)), (0, .ref (ad 1)), (1, .int (x1)), (2, .int (x2)), (3, .int (x3)), (4, .int (x4))]) hx hb dC1_putBelow_50 hl (by decide) rfl (fun ls hl => ?_)
  refine lv_iload hx hb dC1_putBelow_52 (lv_at hl 0 rfl) ?_
  refine lv_if_ne (tgt := 78) hx hb dC1_putBelow_54 (by decide) (fun c23 => ?_) (fun c23 => ?_)
  · have h := (if_neg c23).symm.trans h
    refine lv_bipush (v := (-2 : Int32)) hx hb dC1_putBelow_78 (by decide) ?_
    exact hend _ _ _ _ _ _ (Option.some.inj h) hP hS dC1_putBelow_80
  · have h := (if_pos c23).symm.trans h
    refine lv_aload_n hx hb dC1_putBelow_57 rfl (lv_at hl 1 rfl) ?_
    refine va_get (D := (dC, dI)) (ci := 1) (v := .ref (ad 7)) (C := RC1) (T := TC1) (N := 4) hx hb hts inC1 hown hK hP 1 rfl rfl 1 (by decide) (hts _ mw_19) (fun _ h9 => h9) rfl dC1_putBelow_58 ?_
    refine lv_iload_n hx hb dC1_putBelow_61 rfl (lv_at hl 4 rfl) ?_
    obtain ⟨b7, h⟩ := gx_nb h
    refine va_iald hx hb hK hP 7 2 rfl rfl b7 dC1_putBelow_62 ?_
    refine lv_iload hx hb dC1_putBelow_63 (lv_at hl 5 rfl) ?_
    refine lv_iand hx hb dC1_putBelow_65 ?_
    refine lv_if_ne (tgt := 78) hx hb dC1_putBelow_66 (by decide) (fun c22 => ?_) (fun c22 => ?_)
    · have h := (if_neg c22).symm.trans h
      refine lv_bipush (v := (-2 : Int32)) hx hb dC1_putBelow_78 (by decide) ?_
      exact hend _ _ _ _ _ _ (Option.some.inj h) hP hS dC1_putBelow_80
    · have h := (if_pos c22).symm.trans h
      refine lv_aload_n hx hb dC1_putBelow_69 rfl (lv_at hl 1 rfl) ?_
      refine lv_iload_n hx hb dC1_putBelow_70 rfl (lv_at hl 3 rfl) ?_
      refine lv_iload_n hx hb dC1_putBelow_71 rfl (lv_at hl 2 rfl) ?_
      obtain ⟨v8, ev8, h⟩ := Option.bind_eq_some_iff.mp h
      refine gcall_r (b := ad 1) (As := [.int (x2), .int (x1)]) (rest := []) C hK hP (ci := 1) (q0 := 1) rfl rfl (kC1_isA l dC dI ad cA σ x2 x1 v8 ev8) (cwV 2 hts (gw mw_27 mw_28 mw_29 mw_7 mw_30) rfl rfl rfl hdC1_isA ⟨Nat.le_of_ble_eq_true rfl, Nat.le_of_ble_eq_true rfl⟩) rfl hl.1 rfl (Nat.le_of_ble_eq_true rfl) dC1_putBelow_72 ⟨Nat.le_refl _, Nat.le_refl _⟩ ?_
      refine lv_if_eq (tgt := 81) hx hb dC1_putBelow_75 (by decide) (fun c21 => ?_) (fun c21 => ?_)
      · have h := (if_pos c21).symm.trans h
        refine lv_aload_n hx hb dC1_putBelow_81 rfl (lv_at hl 1 rfl) ?_
        refine va_get (D := (dC, dI)) (ci := 1) (v := .ref (ad 7)) (C := RC1) (T := TC1) (N := 4) hx hb hts inC1 hown hK hP 1 rfl rfl 1 (by decide) (hts _ mw_19) (fun _ h9 => h9) rfl dC1_putBelow_82 ?_
        refine lv_iload_n hx hb dC1_putBelow_85 rfl (lv_at hl 4 rfl) ?_
        refine lv_dup2_11 hx hb dC1_putBelow_86 rfl rfl ?_
        obtain ⟨b9, h⟩ := gx_nb h
        refine va_iald hx hb hK hP 7 2 rfl rfl b9 dC1_putBelow_87 ?_
        refine lv_iload hx hb dC1_putBelow_88 (lv_at hl 5 rfl) ?_
        refine lv_ior hx hb dC1_putBelow_90 ?_
        obtain ⟨b10, h⟩ := gx_nb h
        refine va_iast hx hb hK hP hD hS 7 2 rfl rfl b10 dC1_putBelow_91 (fun H locs hP hD hS => ?_)
        obtain ⟨σ11, eσ11⟩ : ∃ z, z = sI σ 7 x3.toNatClampNeg ((σ.1 7 x3.toNatClampNeg) ||| x4) := ⟨_, rfl⟩
        have hP : va_P (dC, dI) vwC (xW ad cA σ11) H := by rw [eσ11]; exact hP
        have hD : va_D (xA ad) (xW ad cA σ11) := by rw [eσ11]; exact hD
        have h := nm_at eσ11 h
        refine lv_bipush (v := (16 : Int32)) hx hb dC1_putBelow_92 (by decide) ?_
        refine lv_istore (lv' := [(6, .int ((16 : Int32))), (5, .int (s0)), (0, .ref (ad 1)), (1, .int (x1)), (2, .int (x2)), (3, .int (x3)), (4, .int (x4))]) hx hb dC1_putBelow_94 hl (by decide) rfl (fun ls hl => ?_)
        exact wC1_putBelow_b96 C hK hend _ _ _ _ _ _ _ _ _ hP hD hS (lv_sub hl [2, 3, 4, 5, 0] rfl) h
      · have h := (if_neg c21).symm.trans h
        refine lv_bipush (v := (-2 : Int32)) hx hb dC1_putBelow_78 (by decide) ?_
        exact hend _ _ _ _ _ _ (Option.some.inj h) hP hS dC1_putBelow_80
def fC1_putBelow (σ : xSt) (x1 : Int32) (x2 : Int32) : Option (Int32 × xSt) :=
  (fC1_isTold σ x1).bind fun v1 =>
  if v1 = 0 then
    some ((-2 : Int32), σ)
  else
    (fC1_isInterface σ x2).bind fun v2 =>
    if v2 = 0 then
      some ((-2 : Int32), σ)
    else
      nm (x1 - (16 : Int32)) fun y3 =>
      nm ((1 : Int32) <<< ((x2 - (16 : Int32)) &&& 31)) fun y4 =>
      if y3 < 0 ∨ 24 ≤ y3.toNatClampNeg then none else
      (fJI_bitCount σ (σ.1 7 y3.toNatClampNeg)).bind fun v6 =>
      if v6 < (4 : Int32) then
        fC1_putBelow_b50 σ x1 x2 y3 y4 (0 : Int32)
      else
        fC1_putBelow_b50 σ x1 x2 y3 y4 (1 : Int32)
set_option maxHeartbeats 4000000 in
set_option maxRecDepth 100000 in
theorem wC1_putBelow {p : Program} {l : Launch} {e : Env} {s : State} {m : MethodId} {args : Array Value} {below : List Frame} {meth : Method} {c : Code} {Q : State → Prop} {dC : Nat → ClassId} {dI : Nat → Nat → Nat} {ad : Nat → Nat} {cA : Nat → ClassId} {r : (Int32 × xSt)} (C : CallFix p m c cC1_putBelow 7 s args wAll RC1) (hK : va_K (dC, dI) vwC (xT cA) s) (hend : ∀ (v : Int32) (σ : xSt) (H : Heap) (locs : List Loc) (pc : Nat) (ls : Array Slot), (v, σ) = r → va_P (dC, dI) vwC (xW ad cA σ) H → va_S (xA ad) s.heap H locs → decode cC1_putBelow pc = .ok (.ireturn, 1) → W p l e rm_C1_putBelow s m args below meth c H locs 0 0 Q (F0 m pc ls [.int v])) {H : Heap} {locs : List Loc} {σ : xSt} (hP : va_P (dC, dI) vwC (xW ad cA σ) H) (hD : va_D (xA ad) (xW ad cA σ)) (hS : va_S (xA ad) s.heap H locs) {x1 : Int32} {x2 : Int32} (ls : Array Slot) (hl : lv_has ls 7 [(0, .ref (ad 1)), (1, .int (x1)), (2, .int (x2))]) (h : fC1_putBelow σ x1 x2 = some r) : W p l e rm_C1_putBelow s m args below meth c H locs 0 0 Q (F0 m 0 ls []) := by
  obtain ⟨hx, hb, hml, hown, hts⟩ := id C
  unfold fC1_putBelow at h
  refine lv_aload_n hx hb dC1_putBelow_0 rfl (lv_at hl 0 rfl) ?_
  refine lv_iload_n hx hb dC1_putBelow_1 rfl (lv_at hl 1 rfl) ?_
  obtain ⟨v1, ev1, h⟩ := Option.bind_eq_some_iff.mp h
  refine gcall_r (b := ad 1) (As := [.int (x1)]) (rest := []) C hK hP (ci := 1) (q0 := 1) rfl rfl (kC1_isTold l dC dI ad cA σ x1 v1 ev1) (cwV 1 hts (gw mw_13 mw_10 mw_11 mw_7 mw_12) rfl rfl rfl hdC1_isTold ⟨Nat.le_of_ble_eq_true rfl, Nat.le_of_ble_eq_true rfl⟩) rfl hl.1 rfl (Nat.le_of_ble_eq_true rfl) dC1_putBelow_2 ⟨Nat.le_refl _, Nat.le_refl _⟩ ?_
  refine lv_if_eq (tgt := 16) hx hb dC1_putBelow_5 (by decide) (fun c26 => ?_) (fun c26 => ?_)
  · have h := (if_pos c26).symm.trans h
    refine lv_bipush (v := (-2 : Int32)) hx hb dC1_putBelow_16 (by decide) ?_
    exact hend _ _ _ _ _ _ (Option.some.inj h) hP hS dC1_putBelow_18
  · have h := (if_neg c26).symm.trans h
    refine lv_aload_n hx hb dC1_putBelow_8 rfl (lv_at hl 0 rfl) ?_
    refine lv_iload_n hx hb dC1_putBelow_9 rfl (lv_at hl 2 rfl) ?_
    obtain ⟨v2, ev2, h⟩ := Option.bind_eq_some_iff.mp h
    refine gcall_r (b := ad 1) (As := [.int (x2)]) (rest := []) C hK hP (ci := 1) (q0 := 1) rfl rfl (kC1_isInterface l dC dI ad cA σ x2 v2 ev2) (cwV 1 hts (gw mw_18 mw_15 mw_16 mw_7 mw_17) rfl rfl rfl hdC1_isInterface ⟨Nat.le_of_ble_eq_true rfl, Nat.le_of_ble_eq_true rfl⟩) rfl hl.1 rfl (Nat.le_of_ble_eq_true rfl) dC1_putBelow_10 ⟨Nat.le_refl _, Nat.le_refl _⟩ ?_
    refine lv_if_ne (tgt := 19) hx hb dC1_putBelow_13 (by decide) (fun c25 => ?_) (fun c25 => ?_)
    · have h := (if_neg c25).symm.trans h
      refine lv_iload_n hx hb dC1_putBelow_19 rfl (lv_at hl 1 rfl) ?_
      refine lv_bipush (v := (16 : Int32)) hx hb dC1_putBelow_20 (by decide) ?_
      refine lv_isub hx hb dC1_putBelow_22 ?_
      refine lv_topi (fun y3 ey3 => ?_)
      have h := nm_at ey3 h
      refine lv_istore_n (lv' := [(3, .int (y3)), (0, .ref (ad 1)), (1, .int (x1)), (2, .int (x2))]) hx hb dC1_putBelow_23 rfl hl (by decide) rfl (fun ls hl => ?_)
      refine lv_iconst (v := (1 : Int32)) hx hb dC1_putBelow_24 (by decide) ?_
      refine lv_iload_n hx hb dC1_putBelow_25 rfl (lv_at hl 3 rfl) ?_
      refine lv_bipush (v := (16 : Int32)) hx hb dC1_putBelow_26 (by decide) ?_
      refine lv_isub hx hb dC1_putBelow_28 ?_
      refine lv_ishl hx hb dC1_putBelow_29 ?_
      refine lv_topi (fun y4 ey4 => ?_)
      have h := nm_at ey4 h
      refine lv_istore (lv' := [(4, .int (y4)), (3, .int (y3)), (0, .ref (ad 1)), (1, .int (x1)), (2, .int (x2))]) hx hb dC1_putBelow_30 hl (by decide) rfl (fun ls hl => ?_)
      refine lv_aload_n hx hb dC1_putBelow_32 rfl (lv_at hl 2 rfl) ?_
      refine va_get (D := (dC, dI)) (ci := 1) (v := .ref (ad 7)) (C := RC1) (T := TC1) (N := 4) hx hb hts inC1 hown hK hP 1 rfl rfl 1 (by decide) (hts _ mw_19) (fun _ h9 => h9) rfl dC1_putBelow_33 ?_
      refine lv_iload_n hx hb dC1_putBelow_36 rfl (lv_at hl 1 rfl) ?_
      obtain ⟨b5, h⟩ := gx_nb h
      refine va_iald hx hb hK hP 7 2 rfl rfl b5 dC1_putBelow_37 ?_
      obtain ⟨v6, ev6, h⟩ := Option.bind_eq_some_iff.mp h
      refine gcall_s (As := [.int (σ.1 7 y3.toNatClampNeg)]) (rest := []) C hK hP (kJI_bitCount l dC dI ad cA σ (σ.1 7 y3.toNatClampNeg) v6 ev6) (va_cwS 1 hts (gws mw_23 mw_24 mw_25 mw_26) rfl rfl rfl hdJI_bitCount ⟨Nat.le_of_ble_eq_true rfl, Nat.le_of_ble_eq_true rfl⟩) rfl hl.1 rfl (Nat.le_of_ble_eq_true rfl) dC1_putBelow_38 ⟨Nat.le_refl _, Nat.le_refl _⟩ ?_
      refine lv_iconst (v := (4 : Int32)) hx hb dC1_putBelow_41 (by decide) ?_
      refine lv_icmp_lt (tgt := 49) hx hb dC1_putBelow_42 (by decide) (fun c24 => ?_) (fun c24 => ?_)
      · have h := (if_pos c24).symm.trans h
        refine lv_iconst (v := (0 : Int32)) hx hb dC1_putBelow_49 (by decide) ?_
        exact wC1_putBelow_b50 C hK hend _ _ _ _ _ _ _ _ _ hP hD hS (lv_sub hl [2, 3, 4, 1, 0] rfl) h
      · have h := (if_neg c24).symm.trans h
        refine lv_iconst (v := (1 : Int32)) hx hb dC1_putBelow_45 (by decide) ?_
        refine lv_goto (tgt := 50) hx hb dC1_putBelow_46 (by decide) ?_
        exact wC1_putBelow_b50 C hK hend _ _ _ _ _ _ _ _ _ hP hD hS (lv_sub hl [2, 3, 4, 1, 0] rfl) h
    · have h := (if_pos c25).symm.trans h
      refine lv_bipush (v := (-2 : Int32)) hx hb dC1_putBelow_16 (by decide) ?_
      exact hend _ _ _ _ _ _ (Option.some.inj h) hP hS dC1_putBelow_18
set_option maxHeartbeats 4000000 in
set_option maxRecDepth 100000 in
theorem kC1_putBelow (l : Launch) (dC : Nat → ClassId) (dI : Nat → Nat → Nat) (ad : Nat → Nat) (cA : Nat → ClassId) (σ : xSt) (x1 : Int32) (x2 : Int32) (r : (Int32 × xSt)) (h : fC1_putBelow σ x1 x2 = some r) : Met l yC1_putBelow wsC1_putBelow rm_C1_putBelow (va_Pc [.ref (ad 1), .int (x1), .int (x2)] (fun U => va_P (dC, dI) vwC (xW ad cA σ) U.heap ∧ va_K (dC, dI) vwC (xT cA) U ∧ va_D (xA ad) (xW ad cA σ))) (va_Qi (fun (v : Int32) (u : xSt) => (v, u) = r) (fun u t => va_P (dC, dI) vwC (xW ad cA u) t.heap) (xA ad)) 0 0 (xA ad) := by
  refine Met.ofW (cc := cC1_putBelow) (maxL := 7) (ret := (some .int)) (by decide) rfl ?_
  intro p e s m args below meth c s₁ B hml hv
  obtain ⟨rfl, hP, hK, hD⟩ := hv
  have hr := B.returns
  have hlocks := B.notSynchronized
  have hl := lv_entry ([.ref (ad 1), .int (x1), .int (x2)]) (n := 7) (Nat.le_of_ble_eq_true rfl)
  rw [lg_entry_eq]
  exact wC1_putBelow ⟨B.exec, B.bytes, hml, findClass_of_methodNamed B.named, fun w h => atoms_spec (ws := wsC1_putBelow) B.pre w (List.mem_cons_of_mem _ h)⟩ hK (fun v σ H locs pc ls hv hP hS hd => W.iret (v := v) B.exec B.bytes hr (fun t ht hW => ⟨⟨v, σ, rfl, hv, by show va_P _ _ _ t.heap; rw [ht]; exact hP⟩, hS.F ht⟩) hS.2.2 hd) hP hD va_S.rf _ hl h
abbrev rm_C2_forgetFunctions : Room := { frames := 0, cells := 0, slots := 0, locals := 0 }
def fC2_forgetFunctions (σ : xSt) : Option xSt :=
  nm (sI σ 2 8 (0 : Int32)) fun σ1 =>
  some σ1
set_option maxHeartbeats 4000000 in
set_option maxRecDepth 100000 in
theorem wC2_forgetFunctions {p : Program} {l : Launch} {e : Env} {s : State} {m : MethodId} {args : Array Value} {below : List Frame} {meth : Method} {c : Code} {Q : State → Prop} {dC : Nat → ClassId} {dI : Nat → Nat → Nat} {ad : Nat → Nat} {cA : Nat → ClassId} {r : xSt} (C : CallFix p m c cC2_forgetFunctions 1 s args wAll RC2) (hK : va_K (dC, dI) vwC (xT cA) s) (hend : ∀ (σ : xSt) (H : Heap) (locs : List Loc) (pc : Nat) (ls : Array Slot), σ = r → va_P (dC, dI) vwC (xW ad cA σ) H → va_S (xA ad) s.heap H locs → decode cC2_forgetFunctions pc = .ok (.return_, 1) → W p l e rm_C2_forgetFunctions s m args below meth c H locs 0 0 Q (F0 m pc ls [])) {H : Heap} {locs : List Loc} {σ : xSt} (hP : va_P (dC, dI) vwC (xW ad cA σ) H) (hD : va_D (xA ad) (xW ad cA σ)) (hS : va_S (xA ad) s.heap H locs) (ls : Array Slot) (hl : lv_has ls 1 [(0, .ref (ad 2))]) (h : fC2_forgetFunctions σ = some r) : W p l e rm_C2_forgetFunctions s m args below meth c H locs 0 0 Q (F0 m 0 ls []) := by
  obtain ⟨hx, hb, hml, hown, hts⟩ := id C
  unfold fC2_forgetFunctions at h
  refine lv_aload_n hx hb dC2_forgetFunctions_0 rfl (lv_at hl 0 rfl) ?_
  refine lv_iconst (v := (0 : Int32)) hx hb dC2_forgetFunctions_1 (by decide) ?_
  refine va_put (D := (dC, dI)) (ci := 2) (v := .int ((0 : Int32))) (ty := .boolean) (C := RC2) (T := TC2) (N := 10) hx hb hts inC2 tyC2 tyC2_ok nnC2 hown hK hP hD hS 2 rfl rfl 8 (by decide) (hts _ mw_36) (fun _ h9 => h9) rfl (by decide +kernel) rfl rfl (Nat.le_of_ble_eq_true rfl) dC2_forgetFunctions_2 (fun H locs hP hD hS => ?_)
  obtain ⟨σ1, eσ1⟩ : ∃ z, z = sI σ 2 8 (0 : Int32) := ⟨_, rfl⟩
  have hP : va_P (dC, dI) vwC (xW ad cA σ1) H := by rw [eσ1]; exact hP
  have hD : va_D (xA ad) (xW ad cA σ1) := by rw [eσ1]; exact hD
  have h := nm_at eσ1 h
  exact hend _ _ _ _ _ (Option.some.inj h) hP hS dC2_forgetFunctions_5
set_option maxHeartbeats 4000000 in
set_option maxRecDepth 100000 in
theorem kC2_forgetFunctions (l : Launch) (dC : Nat → ClassId) (dI : Nat → Nat → Nat) (ad : Nat → Nat) (cA : Nat → ClassId) (σ : xSt) (r : xSt) (h : fC2_forgetFunctions σ = some r) : Met l yC2_forgetFunctions wsC2_forgetFunctions rm_C2_forgetFunctions (va_Pc [.ref (ad 2)] (fun U => va_P (dC, dI) vwC (xW ad cA σ) U.heap ∧ va_K (dC, dI) vwC (xT cA) U ∧ va_D (xA ad) (xW ad cA σ))) (va_Qv (fun u : xSt => u = r) (fun u t => va_P (dC, dI) vwC (xW ad cA u) t.heap) (xA ad)) 0 0 (xA ad) := by
  refine Met.ofW (cc := cC2_forgetFunctions) (maxL := 1) (ret := none) (by decide) rfl ?_
  intro p e s m args below meth c s₁ B hml hv
  obtain ⟨rfl, hP, hK, hD⟩ := hv
  have hr := B.returns
  have hlocks := B.notSynchronized
  have hl := lv_entry ([.ref (ad 2)]) (n := 1) (Nat.le_of_ble_eq_true rfl)
  rw [lg_entry_eq]
  exact wC2_forgetFunctions ⟨B.exec, B.bytes, hml, findClass_of_methodNamed B.named, fun w h => atoms_spec (ws := wsC2_forgetFunctions) B.pre w (List.mem_cons_of_mem _ h)⟩ hK (fun σ H locs pc ls hv hP hS hd => W.vret B.exec B.bytes hr (fun t ht hW => ⟨⟨σ, rfl, hv, by show va_P _ _ _ t.heap; rw [ht]; exact hP⟩, hS.F ht⟩) hS.2.2 hd) hP hD va_S.rf _ hl h
abbrev rm_C0_below : Room := { frames := 3, cells := 0, slots := 0, locals := 68 }
def fC0_below (σ : xSt) (x1 : Int32) (x2 : Int32) : Option (Int32 × xSt) :=
  gx_b2 (fC1_putBelow σ x1 x2) fun v1 σ2 =>
  if v1 = (-2 : Int32) then
    some (v1, σ2)
  else
    (fC2_forgetFunctions σ2).bind fun σ5 =>
    some (v1, σ5)
set_option maxHeartbeats 4000000 in
set_option maxRecDepth 100000 in
theorem wC0_below {p : Program} {l : Launch} {e : Env} {s : State} {m : MethodId} {args : Array Value} {below : List Frame} {meth : Method} {c : Code} {Q : State → Prop} {dC : Nat → ClassId} {dI : Nat → Nat → Nat} {ad : Nat → Nat} {cA : Nat → ClassId} {r : (Int32 × xSt)} (C : CallFix p m c cC0_below 4 s args wAll RC0) (hK : va_K (dC, dI) vwC (xT cA) s) (hend : ∀ (v : Int32) (σ : xSt) (H : Heap) (locs : List Loc) (pc : Nat) (ls : Array Slot), (v, σ) = r → va_P (dC, dI) vwC (xW ad cA σ) H → va_S (xA ad) s.heap H locs → decode cC0_below pc = .ok (.ireturn, 1) → W p l e rm_C0_below s m args below meth c H locs 0 0 Q (F0 m pc ls [.int v])) {H : Heap} {locs : List Loc} {σ : xSt} (hP : va_P (dC, dI) vwC (xW ad cA σ) H) (hD : va_D (xA ad) (xW ad cA σ)) (hS : va_S (xA ad) s.heap H locs) {x1 : Int32} {x2 : Int32} (ls : Array Slot) (hl : lv_has ls 4 [(0, .ref (ad 0)), (1, .int (x1)), (2, .int (x2))]) (h : fC0_below σ x1 x2 = some r) : W p l e rm_C0_below s m args below meth c H locs 0 0 Q (F0 m 0 ls []) := by
  obtain ⟨hx, hb, hml, hown, hts⟩ := id C
  unfold fC0_below at h
  refine lv_aload_n hx hb dC0_below_0 rfl (lv_at hl 0 rfl) ?_
  refine va_get (D := (dC, dI)) (ci := 0) (v := .ref (ad 1)) (C := RC0) (T := TC0) (N := 5) hx hb hts inC0 hown hK hP 0 rfl rfl 0 (by decide) (hts _ mw_0) (fun _ h9 => h9) rfl dC0_below_1 ?_
  refine lv_iload_n hx hb dC0_below_4 rfl (lv_at hl 1 rfl) ?_
  refine lv_iload_n hx hb dC0_below_5 rfl (lv_at hl 2 rfl) ?_
  obtain ⟨v1, σ2, ez3, h⟩ := gx_b2_at h
  refine gcall_i (wd := xW ad cA) (b := ad 1) (As := [.int (x1), .int (x2)]) (rest := []) xkeys C hK hP hD hS (ci := 1) (q0 := 1) rfl rfl (kC1_putBelow l dC dI ad cA σ x1 x2 (v1, σ2) ez3) (cwV 2 hts (gw mw_31 mw_32 mw_33 mw_7 mw_34) rfl rfl rfl hdC1_putBelow ⟨Nat.le_of_ble_eq_true rfl, Nat.le_of_ble_eq_true rfl⟩) rfl hl.1 rfl (Nat.le_of_ble_eq_true rfl) dC0_below_6 ⟨Nat.le_refl _, Nat.le_refl _⟩ (fun H locs hP hD hS => ?_)
  refine lv_istore_n (lv' := [(3, .int (v1)), (0, .ref (ad 0)), (1, .int (x1)), (2, .int (x2))]) hx hb dC0_below_9 rfl hl (by decide) rfl (fun ls hl => ?_)
  refine lv_iload_n hx hb dC0_below_10 rfl (lv_at hl 0 rfl) ?_
  refine lv_bipush (v := (-2 : Int32)) hx hb dC0_below_11 (by decide) ?_
  refine lv_icmp_eq (tgt := 23) hx hb dC0_below_13 (by decide) (fun c6 => ?_) (fun c6 => ?_)
  · have h := (if_pos c6).symm.trans h
    refine lv_iload_n hx hb dC0_below_23 rfl (lv_at hl 0 rfl) ?_
    exact hend _ _ _ _ _ _ (Option.some.inj h) hP hS dC0_below_24
  · have h := (if_neg c6).symm.trans h
    refine lv_aload_n hx hb dC0_below_16 rfl (lv_at hl 1 rfl) ?_
    refine va_get (D := (dC, dI)) (ci := 0) (v := .ref (ad 2)) (C := RC0) (T := TC0) (N := 5) hx hb hts inC0 hown hK hP 0 rfl rfl 1 (by decide) (hts _ mw_35) (fun _ h9 => h9) rfl dC0_below_17 ?_
    obtain ⟨σ5, eσ5, h⟩ := Option.bind_eq_some_iff.mp h
    refine gcall_v (wd := xW ad cA) (b := ad 2) (As := []) (rest := []) xkeys C hK hP hD hS (ci := 2) (q0 := 2) rfl rfl (kC2_forgetFunctions l dC dI ad cA σ2 σ5 eσ5) (cwV 0 hts (gw mw_37 mw_38 mw_39 mw_40 mw_41) rfl rfl rfl hdC2_forgetFunctions ⟨Nat.le_of_ble_eq_true rfl, Nat.le_of_ble_eq_true rfl⟩) rfl hl.1 rfl (Nat.le_of_ble_eq_true rfl) dC0_below_20 ⟨Nat.le_refl _, Nat.le_refl _⟩ (fun H locs hP hD hS => ?_)
    refine lv_iload_n hx hb dC0_below_23 rfl (lv_at hl 0 rfl) ?_
    exact hend _ _ _ _ _ _ (Option.some.inj h) hP hS dC0_below_24
set_option maxHeartbeats 4000000 in
set_option maxRecDepth 100000 in
theorem kC0_below (l : Launch) (dC : Nat → ClassId) (dI : Nat → Nat → Nat) (ad : Nat → Nat) (cA : Nat → ClassId) (σ : xSt) (x1 : Int32) (x2 : Int32) (r : (Int32 × xSt)) (h : fC0_below σ x1 x2 = some r) : Met l yC0_below wsC0_below rm_C0_below (va_Pc [.ref (ad 0), .int (x1), .int (x2)] (fun U => va_P (dC, dI) vwC (xW ad cA σ) U.heap ∧ va_K (dC, dI) vwC (xT cA) U ∧ va_D (xA ad) (xW ad cA σ))) (va_Qi (fun (v : Int32) (u : xSt) => (v, u) = r) (fun u t => va_P (dC, dI) vwC (xW ad cA u) t.heap) (xA ad)) 0 0 (xA ad) := by
  refine Met.ofW (cc := cC0_below) (maxL := 4) (ret := (some .int)) (by decide) rfl ?_
  intro p e s m args below meth c s₁ B hml hv
  obtain ⟨rfl, hP, hK, hD⟩ := hv
  have hr := B.returns
  have hlocks := B.notSynchronized
  have hl := lv_entry ([.ref (ad 0), .int (x1), .int (x2)]) (n := 4) (Nat.le_of_ble_eq_true rfl)
  rw [lg_entry_eq]
  exact wC0_below ⟨B.exec, B.bytes, hml, findClass_of_methodNamed B.named, fun w h => atoms_spec (ws := wsC0_below) B.pre w (List.mem_cons_of_mem _ h)⟩ hK (fun v σ H locs pc ls hv hP hS hd => W.iret (v := v) B.exec B.bytes hr (fun t ht hW => ⟨⟨v, σ, rfl, hv, by show va_P _ _ _ t.heap; rw [ht]; exact hP⟩, hS.F ht⟩) hS.2.2 hd) hP hD va_S.rf _ hl h
abbrev rm_C2_draftHead : Room := { frames := 0, cells := 0, slots := 0, locals := 0 }
def fC2_draftHead (σ : xSt) (x1 : Int32) (x2 : Int32) (x3 : Int32) (x4 : Int32) : Option xSt :=
  if (σ.1 2 9) < 0 ∨ 61 ≤ (σ.1 2 9).toNatClampNeg then none else
  nm (sI σ 9 (σ.1 2 9).toNatClampNeg x1) fun σ2 =>
  if (σ2.1 2 9) < 0 ∨ 61 ≤ (σ2.1 2 9).toNatClampNeg then none else
  nm (sI σ2 10 (σ2.1 2 9).toNatClampNeg x2) fun σ4 =>
  if (σ4.1 2 9) < 0 ∨ 61 ≤ (σ4.1 2 9).toNatClampNeg then none else
  nm (sI σ4 11 (σ4.1 2 9).toNatClampNeg x3) fun σ6 =>
  if (σ6.1 2 9) < 0 ∨ 61 ≤ (σ6.1 2 9).toNatClampNeg then none else
  nm (sI σ6 12 (σ6.1 2 9).toNatClampNeg x4) fun σ8 =>
  some σ8
set_option maxHeartbeats 4000000 in
set_option maxRecDepth 100000 in
theorem wC2_draftHead {p : Program} {l : Launch} {e : Env} {s : State} {m : MethodId} {args : Array Value} {below : List Frame} {meth : Method} {c : Code} {Q : State → Prop} {dC : Nat → ClassId} {dI : Nat → Nat → Nat} {ad : Nat → Nat} {cA : Nat → ClassId} {r : xSt} (C : CallFix p m c cC2_draftHead 5 s args wAll RC2) (hK : va_K (dC, dI) vwC (xT cA) s) (hend : ∀ (σ : xSt) (H : Heap) (locs : List Loc) (pc : Nat) (ls : Array Slot), σ = r → va_P (dC, dI) vwC (xW ad cA σ) H → va_S (xA ad) s.heap H locs → decode cC2_draftHead pc = .ok (.return_, 1) → W p l e rm_C2_draftHead s m args below meth c H locs 0 0 Q (F0 m pc ls [])) {H : Heap} {locs : List Loc} {σ : xSt} (hP : va_P (dC, dI) vwC (xW ad cA σ) H) (hD : va_D (xA ad) (xW ad cA σ)) (hS : va_S (xA ad) s.heap H locs) {x1 : Int32} {x2 : Int32} {x3 : Int32} {x4 : Int32} (ls : Array Slot) (hl : lv_has ls 5 [(0, .ref (ad 2)), (1, .int (x1)), (2, .int (x2)), (3, .int (x3)), (4, .int (x4))]) (h : fC2_draftHead σ x1 x2 x3 x4 = some r) : W p l e rm_C2_draftHead s m args below meth c H locs 0 0 Q (F0 m 0 ls []) := by
  obtain ⟨hx, hb, hml, hown, hts⟩ := id C
  unfold fC2_draftHead at h
  refine lv_aload_n hx hb dC2_draftHead_0 rfl (lv_at hl 0 rfl) ?_
  refine va_get (D := (dC, dI)) (ci := 2) (v := .ref (ad 9)) (C := RC2) (T := TC2) (N := 10) hx hb hts inC2 hown hK hP 2 rfl rfl 1 (by decide) (hts _ mw_42) (fun _ h9 => h9) rfl dC2_draftHead_1 ?_
  refine lv_aload_n hx hb dC2_draftHead_4 rfl (lv_at hl 0 rfl) ?_
  refine va_get (D := (dC, dI)) (ci := 2) (v := .int (σ.1 2 9)) (C := RC2) (T := TC2) (N := 10) hx hb hts inC2 hown hK hP 2 rfl rfl 9 (by decide) (hts _ mw_43) (fun _ h9 => h9) rfl dC2_draftHead_5 ?_
  refine lv_iload_n hx hb dC2_draftHead_8 rfl (lv_at hl 1 rfl) ?_
  obtain ⟨b1, h⟩ := gx_nb h
  refine va_iast hx hb hK hP hD hS 9 4 rfl rfl b1 dC2_draftHead_9 (fun H locs hP hD hS => ?_)
  obtain ⟨σ2, eσ2⟩ : ∃ z, z = sI σ 9 (σ.1 2 9).toNatClampNeg x1 := ⟨_, rfl⟩
  have hP : va_P (dC, dI) vwC (xW ad cA σ2) H := by rw [eσ2]; exact hP
  have hD : va_D (xA ad) (xW ad cA σ2) := by rw [eσ2]; exact hD
  have h := nm_at eσ2 h
  refine lv_aload_n hx hb dC2_draftHead_10 rfl (lv_at hl 0 rfl) ?_
  refine va_get (D := (dC, dI)) (ci := 2) (v := .ref (ad 10)) (C := RC2) (T := TC2) (N := 10) hx hb hts inC2 hown hK hP 2 rfl rfl 2 (by decide) (hts _ mw_44) (fun _ h9 => h9) rfl dC2_draftHead_11 ?_
  refine lv_aload_n hx hb dC2_draftHead_14 rfl (lv_at hl 0 rfl) ?_
  refine va_get (D := (dC, dI)) (ci := 2) (v := .int (σ2.1 2 9)) (C := RC2) (T := TC2) (N := 10) hx hb hts inC2 hown hK hP 2 rfl rfl 9 (by decide) (hts _ mw_43) (fun _ h9 => h9) rfl dC2_draftHead_15 ?_
  refine lv_iload_n hx hb dC2_draftHead_18 rfl (lv_at hl 2 rfl) ?_
  obtain ⟨b3, h⟩ := gx_nb h
  refine va_iast hx hb hK hP hD hS 10 5 rfl rfl b3 dC2_draftHead_19 (fun H locs hP hD hS => ?_)
  obtain ⟨σ4, eσ4⟩ : ∃ z, z = sI σ2 10 (σ2.1 2 9).toNatClampNeg x2 := ⟨_, rfl⟩
  have hP : va_P (dC, dI) vwC (xW ad cA σ4) H := by rw [eσ4]; exact hP
  have hD : va_D (xA ad) (xW ad cA σ4) := by rw [eσ4]; exact hD
  have h := nm_at eσ4 h
  refine lv_aload_n hx hb dC2_draftHead_20 rfl (lv_at hl 0 rfl) ?_
  refine va_get (D := (dC, dI)) (ci := 2) (v := .ref (ad 11)) (C := RC2) (T := TC2) (N := 10) hx hb hts inC2 hown hK hP 2 rfl rfl 3 (by decide) (hts _ mw_45) (fun _ h9 => h9) rfl dC2_draftHead_21 ?_
  refine lv_aload_n hx hb dC2_draftHead_24 rfl (lv_at hl 0 rfl) ?_
  refine va_get (D := (dC, dI)) (ci := 2) (v := .int (σ4.1 2 9)) (C := RC2) (T := TC2) (N := 10) hx hb hts inC2 hown hK hP 2 rfl rfl 9 (by decide) (hts _ mw_43) (fun _ h9 => h9) rfl dC2_draftHead_25 ?_
  refine lv_iload_n hx hb dC2_draftHead_28 rfl (lv_at hl 3 rfl) ?_
  obtain ⟨b5, h⟩ := gx_nb h
  refine va_iast hx hb hK hP hD hS 11 6 rfl rfl b5 dC2_draftHead_29 (fun H locs hP hD hS => ?_)
  obtain ⟨σ6, eσ6⟩ : ∃ z, z = sI σ4 11 (σ4.1 2 9).toNatClampNeg x3 := ⟨_, rfl⟩
  have hP : va_P (dC, dI) vwC (xW ad cA σ6) H := by rw [eσ6]; exact hP
  have hD : va_D (xA ad) (xW ad cA σ6) := by rw [eσ6]; exact hD
  have h := nm_at eσ6 h
  refine lv_aload_n hx hb dC2_draftHead_30 rfl (lv_at hl 0 rfl) ?_
  refine va_get (D := (dC, dI)) (ci := 2) (v := .ref (ad 12)) (C := RC2) (T := TC2) (N := 10) hx hb hts inC2 hown hK hP 2 rfl rfl 4 (by decide) (hts _ mw_46) (fun _ h9 => h9) rfl dC2_draftHead_31 ?_
  refine lv_aload_n hx hb dC2_draftHead_34 rfl (lv_at hl 0 rfl) ?_
  refine va_get (D := (dC, dI)) (ci := 2) (v := .int (σ6.1 2 9)) (C := RC2) (T := TC2) (N := 10) hx hb hts inC2 hown hK hP 2 rfl rfl 9 (by decide) (hts _ mw_43) (fun _ h9 => h9) rfl dC2_draftHead_35 ?_
  refine lv_iload hx hb dC2_draftHead_38 (lv_at hl 4 rfl) ?_
  obtain ⟨b7, h⟩ := gx_nb h
  refine va_iast hx hb hK hP hD hS 12 7 rfl rfl b7 dC2_draftHead_40 (fun H locs hP hD hS => ?_)
  obtain ⟨σ8, eσ8⟩ : ∃ z, z = sI σ6 12 (σ6.1 2 9).toNatClampNeg x4 := ⟨_, rfl⟩
  have hP : va_P (dC, dI) vwC (xW ad cA σ8) H := by rw [eσ8]; exact hP
  have hD : va_D (xA ad) (xW ad cA σ8) := by rw [eσ8]; exact hD
  have h := nm_at eσ8 h
  exact hend _ _ _ _ _ (Option.some.inj h) hP hS dC2_draftHead_41
set_option maxHeartbeats 4000000 in
set_option maxRecDepth 100000 in
theorem kC2_draftHead (l : Launch) (dC : Nat → ClassId) (dI : Nat → Nat → Nat) (ad : Nat → Nat) (cA : Nat → ClassId) (σ : xSt) (x1 : Int32) (x2 : Int32) (x3 : Int32) (x4 : Int32) (r : xSt) (h : fC2_draftHead σ x1 x2 x3 x4 = some r) : Met l yC2_draftHead wsC2_draftHead rm_C2_draftHead (va_Pc [.ref (ad 2), .int (x1), .int (x2), .int (x3), .int (x4)] (fun U => va_P (dC, dI) vwC (xW ad cA σ) U.heap ∧ va_K (dC, dI) vwC (xT cA) U ∧ va_D (xA ad) (xW ad cA σ))) (va_Qv (fun u : xSt => u = r) (fun u t => va_P (dC, dI) vwC (xW ad cA u) t.heap) (xA ad)) 0 0 (xA ad) := by
  refine Met.ofW (cc := cC2_draftHead) (maxL := 5) (ret := none) (by decide) rfl ?_
  intro p e s m args below meth c s₁ B hml hv
  obtain ⟨rfl, hP, hK, hD⟩ := hv
  have hr := B.returns
  have hlocks := B.notSynchronized
  have hl := lv_entry ([.ref (ad 2), .int (x1), .int (x2), .int (x3), .int (x4)]) (n := 5) (Nat.le_of_ble_eq_true rfl)
  rw [lg_entry_eq]
  exact wC2_draftHead ⟨B.exec, B.bytes, hml, findClass_of_methodNamed B.named, fun w h => atoms_spec (ws := wsC2_draftHead) B.pre w (List.mem_cons_of_mem _ h)⟩ hK (fun σ H locs pc ls hv hP hS hd => W.vret B.exec B.bytes hr (fun t ht hW => ⟨⟨σ, rfl, hv, by show va_P _ _ _ t.heap; rw [ht]; exact hP⟩, hS.F ht⟩) hS.2.2 hd) hP hD va_S.rf _ hl h
