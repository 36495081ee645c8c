abbrev rm_CM_doesApply : Room := { frames := 8, cells := 0, slots := 0, locals := 183 }
def fCM_doesApply_b46 : Nat → xSt → Int32 → Int32 → Int32 → Int32 → Option (Int32 × xSt)
  | 0, _, _, _, _, _ => none
  | n + 1, σ, x1, x2, x3, x4 =>
    if (σ.1 0 13) ≤ x4 then
      some ((1 : Int32), σ)
    else
      (fCM_typeAt σ x1 x4 x3).bind fun v2 =>
      gx_b2 (fCM_takes σ v2 x4 x2) fun v3 σ4 =>
      if v3 = 0 then
        some ((0 : Int32), σ4)
      else
        fCM_doesApply_b46 n σ4 x1 x2 x3 (x4 + (1 : Int32))
set_option maxHeartbeats 4000000 in
set_option maxRecDepth 100000 in
theorem wCM_doesApply_b46 {p : Program} {l : Launch} {e : Env} {s : State} {m : MethodId} {args : Array Value} {below : List Frame} {meth : Method} {c : Code} {Q : State → Prop} {dC : Nat → ClassId} {dI : Nat → Nat → Nat} {ad : Nat → Nat} {cA : Nat → ClassId} {r : (Int32 × xSt)} (C : CallFix p m c cCM_doesApply 5 s args wAll RCM) (hK : va_K (dC, dI) vwC (mT cA) s) (hend : ∀ (v : Int32) (σ : xSt) (H : Heap) (locs : List Loc) (pc : Nat) (ls : Array Slot), (v, σ) = r → narrow .boolean (.int v) = .int v → va_P (dC, dI) vwC (mW ad cA σ) H → va_S (mA ad) s.heap H locs → decode cCM_doesApply pc = .ok (.ireturn, 1) → W p l e rm_CM_doesApply s m args below meth c H locs 0 0 Q (F0 m pc ls [.int v])) :
    ∀ (n : Nat) (σ : xSt) (H : Heap) (locs : List Loc) (x1 : Int32) (x2 : Int32) (x3 : Int32) (x4 : Int32) (ls : Array Slot), va_P (dC, dI) vwC (mW ad cA σ) H → va_D (mA ad) (mW ad cA σ) → va_S (mA ad) s.heap H locs → lv_has ls 5 [(0, .ref (ad 0)), (1, .int (x1)), (2, .int (x2)), (3, .int (x3)), (4, .int (x4))] → fCM_doesApply_b46 n σ x1 x2 x3 x4 = some r → W p l e rm_CM_doesApply s m args below meth c H locs 0 0 Q (F0 m 46 ls []) := by
  obtain ⟨hx, hb, hml, hown, hts⟩ := id C
  intro n
  induction n with
  | zero =>
    intro σ H locs x1 x2 x3 x4 ls hP hD hS hl h
    rw [fCM_doesApply_b46] at h
    cases h
  | succ n ih =>
    intro σ H locs x1 x2 x3 x4 ls hP hD hS hl h
    rw [fCM_doesApply_b46] at h
    refine lv_iload hx hb dCM_doesApply_46 (lv_at hl 4 rfl) ?_
    refine lv_aload_n hx hb dCM_doesApply_48 rfl (lv_at hl 0 rfl) ?_
    refine va_get (D := (dC, dI)) (ci := 5) (v := .int (σ.1 0 13)) (C := RCM) (T := TCM) (N := 23) hx hb hts inCM hown hK hP 0 rfl rfl 13 (by decide) (hts _ mw_442) (fun _ h9 => h9) rfl dCM_doesApply_49 ?_
    refine lv_icmp_ge (tgt := 81) hx hb dCM_doesApply_52 (by decide) (fun c7 => ?_) (fun c7 => ?_)
    · have h := (if_pos c7).symm.trans h
      refine lv_iconst (v := (1 : Int32)) hx hb dCM_doesApply_81 (by decide) ?_
      exact hend _ _ _ _ _ _ (Option.some.inj h) rfl hP hS dCM_doesApply_82
    · have h := (if_neg c7).symm.trans h
      refine lv_aload_n hx hb dCM_doesApply_55 rfl (lv_at hl 0 rfl) ?_
      refine lv_aload_n hx hb dCM_doesApply_56 rfl (lv_at hl 0 rfl) ?_
      refine lv_iload_n hx hb dCM_doesApply_57 rfl (lv_at hl 1 rfl) ?_
      refine lv_iload hx hb dCM_doesApply_58 (lv_at hl 4 rfl) ?_
      refine lv_iload_n hx hb dCM_doesApply_60 rfl (lv_at hl 3 rfl) ?_
      obtain ⟨v2, ev2, h⟩ := Option.bind_eq_some_iff.mp h
      refine gcall_r (b := ad 0) (As := [.int (x1), .int (x4), .int (x3)]) (rest := [.ref (ad 0)]) C hK hP (ci := 5) (q0 := 0) rfl rfl (kCM_typeAt l dC dI ad cA σ x1 x4 x3 v2 ev2) (cwV 3 hts (gw mw_455 mw_456 mw_457 mw_363 mw_458) rfl rfl rfl hdCM_typeAt ⟨Nat.le_of_ble_eq_true rfl, Nat.le_of_ble_eq_true rfl⟩) rfl hl.1 rfl (Nat.le_of_ble_eq_true rfl) dCM_doesApply_61 ⟨Nat.le_refl _, Nat.le_refl _⟩ ?_
      refine lv_iload hx hb dCM_doesApply_64 (lv_at hl 4 rfl) ?_
      refine lv_iload_n hx hb dCM_doesApply_66 rfl (lv_at hl 2 rfl) ?_
      obtain ⟨v3, σ4, ez5, h⟩ := gx_b2_at h
      refine gcall_i (wd := mW ad cA) (b := ad 0) (As := [.int (v2), .int (x4), .int (x2)]) (rest := []) mkeys C hK hP hD hS (ci := 5) (q0 := 0) rfl rfl (kCM_takes l dC dI ad cA σ v2 x4 x2 (v3, σ4) ez5) (cwV 3 hts (gw mw_475 mw_476 mw_477 mw_363 mw_478) rfl rfl rfl hdCM_takes ⟨Nat.le_of_ble_eq_true rfl, Nat.le_of_ble_eq_true rfl⟩) rfl hl.1 rfl (Nat.le_of_ble_eq_true rfl) dCM_doesApply_67 ⟨Nat.le_refl _, Nat.le_refl _⟩ (fun H locs hP hD hS => ?_)
      refine lv_if_ne (tgt := 75) hx hb dCM_doesApply_70 (by decide) (fun c6 => ?_) (fun c6 => ?_)
      · have h := (if_neg c6).symm.trans h
        refine lv_iinc (v := x4 + (1 : Int32)) (lv' := [(4, .int (x4 + (1 : Int32))), (0, .ref (ad 0)), (1, .int (x1)), (2, .int (x2)), (3, .int (x3))]) hx hb dCM_doesApply_75 hl (k := 4) rfl rfl (by decide) rfl (fun ls hl => ?_)
        refine lv_goto (tgt := 46) hx hb dCM_doesApply_78 (by decide) ?_
        exact ih _ _ _ _ _ _ _ _ hP hD hS (lv_sub hl [1, 2, 3, 4, 0] rfl) h
      · have h := (if_pos c6).symm.trans h
        refine lv_iconst (v := (0 : Int32)) hx hb dCM_doesApply_73 (by decide) ?_
        exact hend _ _ _ _ _ _ (Option.some.inj h) rfl hP hS dCM_doesApply_74
def fCM_doesApply_b43 (σ : xSt) (x1 : Int32) (x2 : Int32) (x3 : Int32) : Option (Int32 × xSt) :=
  fCM_doesApply_b46 gF σ x1 x2 x3 (0 : Int32)
set_option maxHeartbeats 4000000 in
set_option maxRecDepth 100000 in
theorem wCM_doesApply_b43 {p : Program} {l : Launch} {e : Env} {s : State} {m : MethodId} {args : Array Value} {below : List Frame} {meth : Method} {c : Code} {Q : State → Prop} {dC : Nat → ClassId} {dI : Nat → Nat → Nat} {ad : Nat → Nat} {cA : Nat → ClassId} {r : (Int32 × xSt)} (C : CallFix p m c cCM_doesApply 5 s args wAll RCM) (hK : va_K (dC, dI) vwC (mT cA) s) (hend : ∀ (v : Int32) (σ : xSt) (H : Heap) (locs : List Loc) (pc : Nat) (ls : Array Slot), (v, σ) = r → narrow .boolean (.int v) = .int v → va_P (dC, dI) vwC (mW ad cA σ) H → va_S (mA ad) s.heap H locs → decode cCM_doesApply pc = .ok (.ireturn, 1) → W p l e rm_CM_doesApply s m args below meth c H locs 0 0 Q (F0 m pc ls [.int v])) :
    ∀ (σ : xSt) (H : Heap) (locs : List Loc) (x1 : Int32) (x2 : Int32) (x3 : Int32) (ls : Array Slot), va_P (dC, dI) vwC (mW ad cA σ) H → va_D (mA ad) (mW ad cA σ) → va_S (mA ad) s.heap H locs → lv_has ls 5 [(0, .ref (ad 0)), (1, .int (x1)), (2, .int (x2)), (3, .int (x3))] → fCM_doesApply_b43 σ x1 x2 x3 = some r → W p l e rm_CM_doesApply s m args below meth c H locs 0 0 Q (F0 m 43 ls []) := by
  obtain ⟨hx, hb, hml, hown, hts⟩ := id C
  intro σ H locs x1 x2 x3 ls hP hD hS hl h
  unfold fCM_doesApply_b43 at h
  refine lv_iconst (v := (0 : Int32)) hx hb dCM_doesApply_43 (by decide) ?_
  refine lv_istore (lv' := [(4, .int ((0 : Int32))), (0, .ref (ad 0)), (1, .int (x1)), (2, .int (x2)), (3, .int (x3))]) hx hb dCM_doesApply_44 hl (by decide) rfl (fun ls hl => ?_)
  exact wCM_doesApply_b46 C hK hend _ _ _ _ _ _ _ _ _ hP hD hS (lv_sub hl [1, 2, 3, 4, 0] rfl) h
def fCM_doesApply_b10 (σ : xSt) (x1 : Int32) (x2 : Int32) (s0 : Int32) : Option (Int32 × xSt) :=
  if s0 = 0 then
    if x1 < 0 ∨ 60 ≤ x1.toNatClampNeg then none else
    if (σ.1 10 x1.toNatClampNeg) = (σ.1 0 13) then
      fCM_doesApply_b43 σ x1 x2 s0
    else
      some ((0 : Int32), σ)
  else
    (fCM_has σ x1 (8 : Int32)).bind fun v9 =>
    if v9 = 0 then
      some ((0 : Int32), σ)
    else
      fCM_doesApply_b43 σ x1 x2 s0
set_option maxHeartbeats 4000000 in
set_option maxRecDepth 100000 in
theorem wCM_doesApply_b10 {p : Program} {l : Launch} {e : Env} {s : State} {m : MethodId} {args : Array Value} {below : List Frame} {meth : Method} {c : Code} {Q : State → Prop} {dC : Nat → ClassId} {dI : Nat → Nat → Nat} {ad : Nat → Nat} {cA : Nat → ClassId} {r : (Int32 × xSt)} (C : CallFix p m c cCM_doesApply 5 s args wAll RCM) (hK : va_K (dC, dI) vwC (mT cA) s) (hend : ∀ (v : Int32) (σ : xSt) (H : Heap) (locs : List Loc) (pc : Nat) (ls : Array Slot), (v, σ) = r → narrow .boolean (.int v) = .int v → va_P (dC, dI) vwC (mW ad cA σ) H → va_S (mA ad) s.heap H locs → decode cCM_doesApply pc = .ok (.ireturn, 1) → W p l e rm_CM_doesApply s m args below meth c H locs 0 0 Q (F0 m pc ls [.int v])) :
    ∀ (σ : xSt) (H : Heap) (locs : List Loc) (x1 : Int32) (x2 : Int32) (s0 : Int32) (ls : Array Slot), va_P (dC, dI) vwC (mW ad cA σ) H → va_D (mA ad) (mW ad cA σ) → va_S (mA ad) s.heap H locs → lv_has ls 5 [(0, .ref (ad 0)), (1, .int (x1)), (2, .int (x2))] → fCM_doesApply_b10 σ x1 x2 s0 = some r → W p l e rm_CM_doesApply s m args below meth c H locs 0 0 Q (F0 m 10 ls [.int (s0)]) := by
  obtain ⟨hx, hb, hml, hown, hts⟩ := id C
  intro σ H locs x1 x2 s0 ls hP hD hS hl h
  unfold fCM_doesApply_b10 at h
  refine lv_istore_n (lv' := [(3, .int (s0)), (0, .ref (ad 0)), (1, .int (x1)), (2, .int (x2))]) hx hb dCM_doesApply_10 rfl hl (by decide) rfl (fun ls hl => ?_)
  refine lv_iload_n hx hb dCM_doesApply_11 rfl (lv_at hl 0 rfl) ?_
  refine lv_if_eq (tgt := 28) hx hb dCM_doesApply_12 (by decide) (fun c11 => ?_) (fun c11 => ?_)
  · have h := (if_pos c11).symm.trans h
    refine lv_aload_n hx hb dCM_doesApply_28 rfl (lv_at hl 1 rfl) ?_
    refine va_get (D := (dC, dI)) (ci := 5) (v := .ref (ad 10)) (C := RCM) (T := TCM) (N := 23) hx hb hts inCM hown hK hP 0 rfl rfl 11 (by decide) (hts _ mw_406) (fun _ h9 => h9) rfl dCM_doesApply_29 ?_
    refine lv_iload_n hx hb dCM_doesApply_32 rfl (lv_at hl 2 rfl) ?_
    obtain ⟨b1, h⟩ := gx_nb h
    refine va_iald hx hb hK hP 10 9 rfl rfl b1 dCM_doesApply_33 ?_
    refine lv_aload_n hx hb dCM_doesApply_34 rfl (lv_at hl 1 rfl) ?_
    refine va_get (D := (dC, dI)) (ci := 5) (v := .int (σ.1 0 13)) (C := RCM) (T := TCM) (N := 23) hx hb hts inCM hown hK hP 0 rfl rfl 13 (by decide) (hts _ mw_442) (fun _ h9 => h9) rfl dCM_doesApply_35 ?_
    refine lv_icmp_eq (tgt := 43) hx hb dCM_doesApply_38 (by decide) (fun c8 => ?_) (fun c8 => ?_)
    · have h := (if_pos c8).symm.trans h
      exact wCM_doesApply_b43 C hK hend _ _ _ _ _ _ _ hP hD hS (lv_sub hl [1, 2, 3, 0] rfl) h
    · have h := (if_neg c8).symm.trans h
      refine lv_iconst (v := (0 : Int32)) hx hb dCM_doesApply_41 (by decide) ?_
      exact hend _ _ _ _ _ _ (Option.some.inj h) rfl hP hS dCM_doesApply_42
  · have h := (if_neg c11).symm.trans h
    refine lv_aload_n hx hb dCM_doesApply_15 rfl (lv_at hl 1 rfl) ?_
    refine lv_iload_n hx hb dCM_doesApply_16 rfl (lv_at hl 2 rfl) ?_
    refine lv_bipush (v := (8 : Int32)) hx hb dCM_doesApply_17 (by decide) ?_
    obtain ⟨v9, ev9, h⟩ := Option.bind_eq_some_iff.mp h
    refine gcall_r (b := ad 0) (As := [.int (x1), .int ((8 : Int32))]) (rest := []) C hK hP (ci := 5) (q0 := 0) rfl rfl (kCM_has l dC dI ad cA σ x1 (8 : Int32) v9 ev9) (cwV 2 hts (gw mw_418 mw_419 mw_420 mw_363 mw_421) rfl rfl rfl hdCM_has ⟨Nat.le_of_ble_eq_true rfl, Nat.le_of_ble_eq_true rfl⟩) rfl hl.1 rfl (Nat.le_of_ble_eq_true rfl) dCM_doesApply_19 ⟨Nat.le_refl _, Nat.le_refl _⟩ ?_
    refine lv_if_ne (tgt := 43) hx hb dCM_doesApply_22 (by decide) (fun c10 => ?_) (fun c10 => ?_)
    · have h := (if_neg c10).symm.trans h
      exact wCM_doesApply_b43 C hK hend _ _ _ _ _ _ _ hP hD hS (lv_sub hl [1, 2, 3, 0] rfl) h
    · have h := (if_pos c10).symm.trans h
      refine lv_goto (tgt := 41) hx hb dCM_doesApply_25 (by decide) ?_
      refine lv_iconst (v := (0 : Int32)) hx hb dCM_doesApply_41 (by decide) ?_
      exact hend _ _ _ _ _ _ (Option.some.inj h) rfl hP hS dCM_doesApply_42
def fCM_doesApply (σ : xSt) (x1 : Int32) (x2 : Int32) : Option (Int32 × xSt) :=
  if x2 = (3 : Int32) then
    fCM_doesApply_b10 σ x1 x2 (1 : Int32)
  else
    fCM_doesApply_b10 σ x1 x2 (0 : Int32)
set_option maxHeartbeats 4000000 in
set_option maxRecDepth 100000 in
theorem wCM_doesApply {p : Program} {l : Launch} {e : Env} {s : State} {m : MethodId} {args : Array Value} {below : List Frame} {meth : Method} {c : Code} {Q : State → Prop} {dC : Nat → ClassId} {dI : Nat → Nat → Nat} {ad : Nat → Nat} {cA : Nat → ClassId} {r : (Int32 × xSt)} (C : CallFix p m c cCM_doesApply 5 s args wAll RCM) (hK : va_K (dC, dI) vwC (mT cA) s) (hend : ∀ (v : Int32) (σ : xSt) (H : Heap) (locs : List Loc) (pc : Nat) (ls : Array Slot), (v, σ) = r → narrow .boolean (.int v) = .int v → va_P (dC, dI) vwC (mW ad cA σ) H → va_S (mA ad) s.heap H locs → decode cCM_doesApply pc = .ok (.ireturn, 1) → W p l e rm_CM_doesApply s m args below meth c H locs 0 0 Q (F0 m pc ls [.int v])) {H : Heap} {locs : List Loc} {σ : xSt} (hP : va_P (dC, dI) vwC (mW ad cA σ) H) (hD : va_D (mA ad) (mW ad cA σ)) (hS : va_S (mA ad) s.heap H locs) {x1 : Int32} {x2 : Int32} (ls : Array Slot) (hl : lv_has ls 5 [(0, .ref (ad 0)), (1, .int (x1)), (2, .int (x2))]) (h : fCM_doesApply σ x1 x2 = some r) : W p l e rm_CM_doesApply s m args below meth c H locs 0 0 Q (F0 m 0 ls []) := by
  obtain ⟨hx, hb, hml, hown, hts⟩ := id C
  unfold fCM_doesApply at h
  refine lv_iload_n hx hb dCM_doesApply_0 rfl (lv_at hl 2 rfl) ?_
  refine lv_iconst (v := (3 : Int32)) hx hb dCM_doesApply_1 (by decide) ?_
  refine lv_icmp_ne (tgt := 9) hx hb dCM_doesApply_2 (by decide) (fun c12 => ?_) (fun c12 => ?_)
  · have h := (if_neg c12).symm.trans h
    refine lv_iconst (v := (0 : Int32)) hx hb dCM_doesApply_9 (by decide) ?_
    exact wCM_doesApply_b10 C hK hend _ _ _ _ _ _ _ hP hD hS (lv_sub hl [0, 1, 2] rfl) h
  · have h := (if_pos c12).symm.trans h
    refine lv_iconst (v := (1 : Int32)) hx hb dCM_doesApply_5 (by decide) ?_
    refine lv_goto (tgt := 10) hx hb dCM_doesApply_6 (by decide) ?_
    exact wCM_doesApply_b10 C hK hend _ _ _ _ _ _ _ hP hD hS (lv_sub hl [0, 1, 2] rfl) h
set_option maxHeartbeats 4000000 in
set_option maxRecDepth 100000 in
theorem kCM_doesApply (l : Launch) (dC : Nat → ClassId) (dI : Nat → Nat → Nat) (ad : Nat → Nat) (cA : Nat → ClassId) (σ : xSt) (x1 : Int32) (x2 : Int32) (r : (Int32 × xSt)) (h : fCM_doesApply σ x1 x2 = some r) : Met l yCM_doesApply wsCM_doesApply rm_CM_doesApply (va_Pc [.ref (ad 0), .int (x1), .int (x2)] (fun U => va_P (dC, dI) vwC (mW ad cA σ) U.heap ∧ va_K (dC, dI) vwC (mT cA) U ∧ va_D (mA ad) (mW ad cA σ))) (va_Qi (fun (v : Int32) (u : xSt) => (v, u) = r) (fun u t => va_P (dC, dI) vwC (mW ad cA u) t.heap) (mA ad)) 0 0 (mA ad) := by
  refine Met.ofW (cc := cCM_doesApply) (maxL := 5) (ret := (some .boolean)) (by decide) rfl ?_
  intro p e s m args below meth c s₁ B hml hv
  obtain ⟨rfl, hP, hK, hD⟩ := hv
  have hr := B.returns
  have hlocks := B.notSynchronized
  have hl := lv_entry ([.ref (ad 0), .int (x1), .int (x2)]) (n := 5) (Nat.le_of_ble_eq_true rfl)
  rw [lg_entry_eq]
  exact wCM_doesApply ⟨B.exec, B.bytes, hml, findClass_of_methodNamed B.named, fun w h => atoms_spec (ws := wsCM_doesApply) B.pre w (List.mem_cons_of_mem _ h)⟩ hK (fun v σ H locs pc ls hv hn hP hS hd => W.zret (v := v) B.exec B.bytes hr hn (fun t ht hW => ⟨⟨v, σ, rfl, hv, by show va_P _ _ _ t.heap; rw [ht]; exact hP⟩, hS.F ht⟩) hS.2.2 hd) hP hD va_S.rf _ hl h
abbrev rm_CM_isMeant : Room := { frames := 7, cells := 0, slots := 0, locals := 157 }
def fCM_isMeant_b134 (k44 : xSt → Int32 → Int32 → Int32 → Option (Int32 × xSt)) (σ : xSt) (x1 : Int32) (x2 : Int32) (x3 : Int32) : Option (Int32 × xSt) :=
  k44 σ x1 x2 (x3 + (1 : Int32))
set_option maxHeartbeats 4000000 in
set_option maxRecDepth 100000 in
theorem wCM_isMeant_b134 {p : Program} {l : Launch} {e : Env} {s : State} {m : MethodId} {args : Array Value} {below : List Frame} {meth : Method} {c : Code} {Q : State → Prop} {dC : Nat → ClassId} {dI : Nat → Nat → Nat} {ad : Nat → Nat} {cA : Nat → ClassId} {r : (Int32 × xSt)} (C : CallFix p m c cCM_isMeant 5 s args wAll RCM) (hK : va_K (dC, dI) vwC (mT cA) s) (hend : ∀ (v : Int32) (σ : xSt) (H : Heap) (locs : List Loc) (pc : Nat) (ls : Array Slot), (v, σ) = r → narrow .boolean (.int v) = .int v → va_P (dC, dI) vwC (mW ad cA σ) H → va_S (mA ad) s.heap H locs → decode cCM_isMeant pc = .ok (.ireturn, 1) → W p l e rm_CM_isMeant s m args below meth c H locs 0 0 Q (F0 m pc ls [.int v])) {k44 : xSt → Int32 → Int32 → Int32 → Option (Int32 × xSt)} (hk44 : ∀ (σ : xSt) (H : Heap) (locs : List Loc) (x1 : Int32) (x2 : Int32) (x3 : Int32) (ls : Array Slot), va_P (dC, dI) vwC (mW ad cA σ) H → va_D (mA ad) (mW ad cA σ) → va_S (mA ad) s.heap H locs → lv_has ls 5 [(0, .ref (ad 0)), (1, .int (x1)), (2, .int (x2)), (3, .int (x3))] → k44 σ x1 x2 x3 = some r → W p l e rm_CM_isMeant s m args below meth c H locs 0 0 Q (F0 m 44 ls [])) :
    ∀ (σ : xSt) (H : Heap) (locs : List Loc) (x1 : Int32) (x2 : Int32) (x3 : Int32) (ls : Array Slot), va_P (dC, dI) vwC (mW ad cA σ) H → va_D (mA ad) (mW ad cA σ) → va_S (mA ad) s.heap H locs → lv_has ls 5 [(0, .ref (ad 0)), (1, .int (x1)), (2, .int (x2)), (3, .int (x3))] → fCM_isMeant_b134 k44 σ x1 x2 x3 = some r → W p l e rm_CM_isMeant s m args below meth c H locs 0 0 Q (F0 m 134 ls []) := by
  obtain ⟨hx, hb, hml, hown, hts⟩ := id C
  intro σ H locs x1 x2 x3 ls hP hD hS hl h
  unfold fCM_isMeant_b134 at h
  refine lv_iinc (v := x3 + (1 : Int32)) (lv' := [(3, .int (x3 + (1 : Int32))), (0, .ref (ad 0)), (1, .int (x1)), (2, .int (x2))]) hx hb dCM_isMeant_134 hl (k := 3) rfl rfl (by decide) rfl (fun ls hl => ?_)
  refine lv_goto (tgt := 44) hx hb dCM_isMeant_137 (by decide) ?_
  exact hk44 _ _ _ _ _ _ _ hP hD hS (lv_sub hl [1, 2, 3, 0] rfl) h
def fCM_isMeant_b125 (k44 : xSt → Int32 → Int32 → Int32 → Option (Int32 × xSt)) (σ : xSt) (x1 : Int32) (x2 : Int32) (x3 : Int32) (s0 : Int32) : Option (Int32 × xSt) :=
  if s0 = 0 then
    some ((0 : Int32), σ)
  else
    fCM_isMeant_b134 k44 σ x1 x2 x3
set_option maxHeartbeats 4000000 in
set_option maxRecDepth 100000 in
theorem wCM_isMeant_b125 {p : Program} {l : Launch} {e : Env} {s : State} {m : MethodId} {args : Array Value} {below : List Frame} {meth : Method} {c : Code} {Q : State → Prop} {dC : Nat → ClassId} {dI : Nat → Nat → Nat} {ad : Nat → Nat} {cA : Nat → ClassId} {r : (Int32 × xSt)} (C : CallFix p m c cCM_isMeant 5 s args wAll RCM) (hK : va_K (dC, dI) vwC (mT cA) s) (hend : ∀ (v : Int32) (σ : xSt) (H : Heap) (locs : List Loc) (pc : Nat) (ls : Array Slot), (v, σ) = r → narrow .boolean (.int v) = .int v → va_P (dC, dI) vwC (mW ad cA σ) H → va_S (mA ad) s.heap H locs → decode cCM_isMeant pc = .ok (.ireturn, 1) → W p l e rm_CM_isMeant s m args below meth c H locs 0 0 Q (F0 m pc ls [.int v])) {k44 : xSt → Int32 → Int32 → Int32 → Option (Int32 × xSt)} (hk44 : ∀ (σ : xSt) (H : Heap) (locs : List Loc) (x1 : Int32) (x2 : Int32) (x3 : Int32) (ls : Array Slot), va_P (dC, dI) vwC (mW ad cA σ) H → va_D (mA ad) (mW ad cA σ) → va_S (mA ad) s.heap H locs → lv_has ls 5 [(0, .ref (ad 0)), (1, .int (x1)), (2, .int (x2)), (3, .int (x3))] → k44 σ x1 x2 x3 = some r → W p l e rm_CM_isMeant s m args below meth c H locs 0 0 Q (F0 m 44 ls [])) :
    ∀ (σ : xSt) (H : Heap) (locs : List Loc) (x1 : Int32) (x2 : Int32) (x3 : Int32) (s0 : Int32) (ls : Array Slot), va_P (dC, dI) vwC (mW ad cA σ) H → va_D (mA ad) (mW ad cA σ) → va_S (mA ad) s.heap H locs → lv_has ls 5 [(0, .ref (ad 0)), (1, .int (x1)), (2, .int (x2)), (3, .int (x3))] → fCM_isMeant_b125 k44 σ x1 x2 x3 s0 = some r → W p l e rm_CM_isMeant s m args below meth c H locs 0 0 Q (F0 m 125 ls [.int (s0)]) := by
  obtain ⟨hx, hb, hml, hown, hts⟩ := id C
  intro σ H locs x1 x2 x3 s0 ls hP hD hS hl h
  unfold fCM_isMeant_b125 at h
  refine lv_istore (lv' := [(4, .int (s0)), (0, .ref (ad 0)), (1, .int (x1)), (2, .int (x2)), (3, .int (x3))]) hx hb dCM_isMeant_125 hl (by decide) rfl (fun ls hl => ?_)
  refine lv_iload hx hb dCM_isMeant_127 (lv_at hl 0 rfl) ?_
  refine lv_if_ne (tgt := 134) hx hb dCM_isMeant_129 (by decide) (fun c5 => ?_) (fun c5 => ?_)
  · have h := (if_neg c5).symm.trans h
    exact wCM_isMeant_b134 C hK hend hk44 _ _ _ _ _ _ _ hP hD hS (lv_sub hl [1, 2, 3, 4] rfl) h
  · have h := (if_pos c5).symm.trans h
    refine lv_iconst (v := (0 : Int32)) hx hb dCM_isMeant_132 (by decide) ?_
    exact hend _ _ _ _ _ _ (Option.some.inj h) rfl hP hS dCM_isMeant_133
def fCM_isMeant_b124 (k44 : xSt → Int32 → Int32 → Int32 → Option (Int32 × xSt)) (σ : xSt) (x1 : Int32) (x2 : Int32) (x3 : Int32) : Option (Int32 × xSt) :=
  fCM_isMeant_b125 k44 σ x1 x2 x3 (0 : Int32)
set_option maxHeartbeats 4000000 in
set_option maxRecDepth 100000 in
theorem wCM_isMeant_b124 {p : Program} {l : Launch} {e : Env} {s : State} {m : MethodId} {args : Array Value} {below : List Frame} {meth : Method} {c : Code} {Q : State → Prop} {dC : Nat → ClassId} {dI : Nat → Nat → Nat} {ad : Nat → Nat} {cA : Nat → ClassId} {r : (Int32 × xSt)} (C : CallFix p m c cCM_isMeant 5 s args wAll RCM) (hK : va_K (dC, dI) vwC (mT cA) s) (hend : ∀ (v : Int32) (σ : xSt) (H : Heap) (locs : List Loc) (pc : Nat) (ls : Array Slot), (v, σ) = r → narrow .boolean (.int v) = .int v → va_P (dC, dI) vwC (mW ad cA σ) H → va_S (mA ad) s.heap H locs → decode cCM_isMeant pc = .ok (.ireturn, 1) → W p l e rm_CM_isMeant s m args below meth c H locs 0 0 Q (F0 m pc ls [.int v])) {k44 : xSt → Int32 → Int32 → Int32 → Option (Int32 × xSt)} (hk44 : ∀ (σ : xSt) (H : Heap) (locs : List Loc) (x1 : Int32) (x2 : Int32) (x3 : Int32) (ls : Array Slot), va_P (dC, dI) vwC (mW ad cA σ) H → va_D (mA ad) (mW ad cA σ) → va_S (mA ad) s.heap H locs → lv_has ls 5 [(0, .ref (ad 0)), (1, .int (x1)), (2, .int (x2)), (3, .int (x3))] → k44 σ x1 x2 x3 = some r → W p l e rm_CM_isMeant s m args below meth c H locs 0 0 Q (F0 m 44 ls [])) :
    ∀ (σ : xSt) (H : Heap) (locs : List Loc) (x1 : Int32) (x2 : Int32) (x3 : Int32) (ls : Array Slot), va_P (dC, dI) vwC (mW ad cA σ) H → va_D (mA ad) (mW ad cA σ) → va_S (mA ad) s.heap H locs → lv_has ls 5 [(0, .ref (ad 0)), (1, .int (x1)), (2, .int (x2)), (3, .int (x3))] → fCM_isMeant_b124 k44 σ x1 x2 x3 = some r → W p l e rm_CM_isMeant s m args below meth c H locs 0 0 Q (F0 m 124 ls []) := by
  obtain ⟨hx, hb, hml, hown, hts⟩ := id C
  intro σ H locs x1 x2 x3 ls hP hD hS hl h
  unfold fCM_isMeant_b124 at h
  refine lv_iconst (v := (0 : Int32)) hx hb dCM_isMeant_124 (by decide) ?_
  exact wCM_isMeant_b125 C hK hend hk44 _ _ _ _ _ _ _ _ hP hD hS (lv_sub hl [0, 1, 2, 3] rfl) h
def fCM_isMeant_b120 (k44 : xSt → Int32 → Int32 → Int32 → Option (Int32 × xSt)) (σ : xSt) (x1 : Int32) (x2 : Int32) (x3 : Int32) : Option (Int32 × xSt) :=
  fCM_isMeant_b125 k44 σ x1 x2 x3 (1 : Int32)
set_option maxHeartbeats 4000000 in
set_option maxRecDepth 100000 in
theorem wCM_isMeant_b120 {p : Program} {l : Launch} {e : Env} {s : State} {m : MethodId} {args : Array Value} {below : List Frame} {meth : Method} {c : Code} {Q : State → Prop} {dC : Nat → ClassId} {dI : Nat → Nat → Nat} {ad : Nat → Nat} {cA : Nat → ClassId} {r : (Int32 × xSt)} (C : CallFix p m c cCM_isMeant 5 s args wAll RCM) (hK : va_K (dC, dI) vwC (mT cA) s) (hend : ∀ (v : Int32) (σ : xSt) (H : Heap) (locs : List Loc) (pc : Nat) (ls : Array Slot), (v, σ) = r → narrow .boolean (.int v) = .int v → va_P (dC, dI) vwC (mW ad cA σ) H → va_S (mA ad) s.heap H locs → decode cCM_isMeant pc = .ok (.ireturn, 1) → W p l e rm_CM_isMeant s m args below meth c H locs 0 0 Q (F0 m pc ls [.int v])) {k44 : xSt → Int32 → Int32 → Int32 → Option (Int32 × xSt)} (hk44 : ∀ (σ : xSt) (H : Heap) (locs : List Loc) (x1 : Int32) (x2 : Int32) (x3 : Int32) (ls : Array Slot), va_P (dC, dI) vwC (mW ad cA σ) H → va_D (mA ad) (mW ad cA σ) → va_S (mA ad) s.heap H locs → lv_has ls 5 [(0, .ref (ad 0)), (1, .int (x1)), (2, .int (x2)), (3, .int (x3))] → k44 σ x1 x2 x3 = some r → W p l e rm_CM_isMeant s m args below meth c H locs 0 0 Q (F0 m 44 ls [])) :
    ∀ (σ : xSt) (H : Heap) (locs : List Loc) (x1 : Int32) (x2 : Int32) (x3 : Int32) (ls : Array Slot), va_P (dC, dI) vwC (mW ad cA σ) H → va_D (mA ad) (mW ad cA σ) → va_S (mA ad) s.heap H locs → lv_has ls 5 [(0, .ref (ad 0)), (1, .int (x1)), (2, .int (x2)), (3, .int (x3))] → fCM_isMeant_b120 k44 σ x1 x2 x3 = some r → W p l e rm_CM_isMeant s m args below meth c H locs 0 0 Q (F0 m 120 ls []) := by
  obtain ⟨hx, hb, hml, hown, hts⟩ := id C
  intro σ H locs x1 x2 x3 ls hP hD hS hl h
  unfold fCM_isMeant_b120 at h
  refine lv_iconst (v := (1 : Int32)) hx hb dCM_isMeant_120 (by decide) ?_
  refine lv_goto (tgt := 125) hx hb dCM_isMeant_121 (by decide) ?_
  exact wCM_isMeant_b125 C hK hend hk44 _ _ _ _ _ _ _ _ hP hD hS (lv_sub hl [0, 1, 2, 3] rfl) h
def fCM_isMeant_b89 (k44 : xSt → Int32 → Int32 → Int32 → Option (Int32 × xSt)) (σ : xSt) (x1 : Int32) (x2 : Int32) (x3 : Int32) : Option (Int32 × xSt) :=
  if x2 = 0 then
    fCM_isMeant_b124 k44 σ x1 x2 x3
  else
    if x1 < 0 ∨ 60 ≤ x1.toNatClampNeg then none else
    if x3 < ((σ.1 10 x1.toNatClampNeg) - (1 : Int32)) then
      fCM_isMeant_b124 k44 σ x1 x2 x3
    else
      (fCM_typeAt σ x1 x3 (1 : Int32)).bind fun v7 =>
      gx_b2 (fCM_hasShape σ v7 x3) fun v8 σ9 =>
      if v8 = 0 then
        fCM_isMeant_b124 k44 σ9 x1 x2 x3
      else
        fCM_isMeant_b120 k44 σ9 x1 x2 x3
set_option maxHeartbeats 4000000 in
set_option maxRecDepth 100000 in
theorem wCM_isMeant_b89 {p : Program} {l : Launch} {e : Env} {s : State} {m : MethodId} {args : Array Value} {below : List Frame} {meth : Method} {c : Code} {Q : State → Prop} {dC : Nat → ClassId} {dI : Nat → Nat → Nat} {ad : Nat → Nat} {cA : Nat → ClassId} {r : (Int32 × xSt)} (C : CallFix p m c cCM_isMeant 5 s args wAll RCM) (hK : va_K (dC, dI) vwC (mT cA) s) (hend : ∀ (v : Int32) (σ : xSt) (H : Heap) (locs : List Loc) (pc : Nat) (ls : Array Slot), (v, σ) = r → narrow .boolean (.int v) = .int v → va_P (dC, dI) vwC (mW ad cA σ) H → va_S (mA ad) s.heap H locs → decode cCM_isMeant pc = .ok (.ireturn, 1) → W p l e rm_CM_isMeant s m args below meth c H locs 0 0 Q (F0 m pc ls [.int v])) {k44 : xSt → Int32 → Int32 → Int32 → Option (Int32 × xSt)} (hk44 : ∀ (σ : xSt) (H : Heap) (locs : List Loc) (x1 : Int32) (x2 : Int32) (x3 : Int32) (ls : Array Slot), va_P (dC, dI) vwC (mW ad cA σ) H → va_D (mA ad) (mW ad cA σ) → va_S (mA ad) s.heap H locs → lv_has ls 5 [(0, .ref (ad 0)), (1, .int (x1)), (2, .int (x2)), (3, .int (x3))] → k44 σ x1 x2 x3 = some r → W p l e rm_CM_isMeant s m args below meth c H locs 0 0 Q (F0 m 44 ls [])) :
    ∀ (σ : xSt) (H : Heap) (locs : List Loc) (x1 : Int32) (x2 : Int32) (x3 : Int32) (ls : Array Slot), va_P (dC, dI) vwC (mW ad cA σ) H → va_D (mA ad) (mW ad cA σ) → va_S (mA ad) s.heap H locs → lv_has ls 5 [(0, .ref (ad 0)), (1, .int (x1)), (2, .int (x2)), (3, .int (x3))] → fCM_isMeant_b89 k44 σ x1 x2 x3 = some r → W p l e rm_CM_isMeant s m args below meth c H locs 0 0 Q (F0 m 89 ls []) := by
  obtain ⟨hx, hb, hml, hown, hts⟩ := id C
  intro σ H locs x1 x2 x3 ls hP hD hS hl h
  unfold fCM_isMeant_b89 at h
  refine lv_iload_n hx hb dCM_isMeant_89 rfl (lv_at hl 2 rfl) ?_
  refine lv_if_eq (tgt := 124) hx hb dCM_isMeant_90 (by decide) (fun c13 => ?_) (fun c13 => ?_)
  · have h := (if_pos c13).symm.trans h
    exact wCM_isMeant_b124 C hK hend hk44 _ _ _ _ _ _ _ hP hD hS (lv_sub hl [0, 1, 2, 3] rfl) h
  · have h := (if_neg c13).symm.trans h
    refine lv_iload_n hx hb dCM_isMeant_93 rfl (lv_at hl 3 rfl) ?_
    refine lv_aload_n hx hb dCM_isMeant_94 rfl (lv_at hl 0 rfl) ?_
    refine va_get (D := (dC, dI)) (ci := 5) (v := .ref (ad 10)) (C := RCM) (T := TCM) (N := 23) hx hb hts inCM hown hK hP 0 rfl rfl 11 (by decide) (hts _ mw_406) (fun _ h9 => h9) rfl dCM_isMeant_95 ?_
    refine lv_iload_n hx hb dCM_isMeant_98 rfl (lv_at hl 1 rfl) ?_
    obtain ⟨b6, h⟩ := gx_nb h
    refine va_iald hx hb hK hP 10 9 rfl rfl b6 dCM_isMeant_99 ?_
    refine lv_iconst (v := (1 : Int32)) hx hb dCM_isMeant_100 (by decide) ?_
    refine lv_isub hx hb dCM_isMeant_101 ?_
    refine lv_icmp_lt (tgt := 124) hx hb dCM_isMeant_102 (by decide) (fun c12 => ?_) (fun c12 => ?_)
    · have h := (if_pos c12).symm.trans h
      exact wCM_isMeant_b124 C hK hend hk44 _ _ _ _ _ _ _ hP hD hS (lv_sub hl [0, 1, 2, 3] rfl) h
    · have h := (if_neg c12).symm.trans h
      refine lv_aload_n hx hb dCM_isMeant_105 rfl (lv_at hl 0 rfl) ?_
      refine lv_aload_n hx hb dCM_isMeant_106 rfl (lv_at hl 0 rfl) ?_
      refine lv_iload_n hx hb dCM_isMeant_107 rfl (lv_at hl 1 rfl) ?_
      refine lv_iload_n hx hb dCM_isMeant_108 rfl (lv_at hl 3 rfl) ?_
      refine lv_iconst (v := (1 : Int32)) hx hb dCM_isMeant_109 (by decide) ?_
      obtain ⟨v7, ev7, h⟩ := Option.bind_eq_some_iff.mp h
      refine gcall_r (b := ad 0) (As := [.int (x1), .int (x3), .int ((1 : Int32))]) (rest := [.ref (ad 0)]) C hK hP (ci := 5) (q0 := 0) rfl rfl (kCM_typeAt l dC dI ad cA σ x1 x3 (1 : Int32) v7 ev7) (cwV 3 hts (gw mw_455 mw_456 mw_457 mw_363 mw_458) rfl rfl rfl hdCM_typeAt ⟨Nat.le_of_ble_eq_true rfl, Nat.le_of_ble_eq_true rfl⟩) rfl hl.1 rfl (Nat.le_of_ble_eq_true rfl) dCM_isMeant_110 ⟨Nat.le_refl _, Nat.le_refl _⟩ ?_
      refine lv_iload_n hx hb dCM_isMeant_113 rfl (lv_at hl 3 rfl) ?_
      obtain ⟨v8, σ9, ez10, h⟩ := gx_b2_at h
      refine gcall_i (wd := mW ad cA) (b := ad 0) (As := [.int (v7), .int (x3)]) (rest := []) mkeys C hK hP hD hS (ci := 5) (q0 := 0) rfl rfl (kCM_hasShape l dC dI ad cA σ v7 x3 (v8, σ9) ez10) (cwV 2 hts (gw mw_467 mw_468 mw_469 mw_363 mw_470) rfl rfl rfl hdCM_hasShape ⟨Nat.le_of_ble_eq_true rfl, Nat.le_of_ble_eq_true rfl⟩) rfl hl.1 rfl (Nat.le_of_ble_eq_true rfl) dCM_isMeant_114 ⟨Nat.le_refl _, Nat.le_refl _⟩ (fun H locs hP hD hS => ?_)
      refine lv_if_eq (tgt := 124) hx hb dCM_isMeant_117 (by decide) (fun c11 => ?_) (fun c11 => ?_)
      · have h := (if_pos c11).symm.trans h
        exact wCM_isMeant_b124 C hK hend hk44 _ _ _ _ _ _ _ hP hD hS (lv_sub hl [0, 1, 2, 3] rfl) h
      · have h := (if_neg c11).symm.trans h
        exact wCM_isMeant_b120 C hK hend hk44 _ _ _ _ _ _ _ hP hD hS (lv_sub hl [0, 1, 2, 3] rfl) h
def fCM_isMeant_b44 : Nat → xSt → Int32 → Int32 → Int32 → Option (Int32 × xSt)
  | 0, _, _, _, _ => none
  | n + 1, σ, x1, x2, x3 =>
    if (σ.1 0 13) ≤ x3 then
      some ((1 : Int32), σ)
    else
      if x3 < 0 ∨ 5 ≤ x3.toNatClampNeg then none else
      if (σ.1 13 x3.toNatClampNeg) ≤ 0 then
        fCM_isMeant_b134 (fCM_isMeant_b44 n) σ x1 x2 x3
      else
        if x1 < 0 ∨ 60 ≤ x1.toNatClampNeg then none else
        if (σ.1 10 x1.toNatClampNeg) ≤ x3 then
          fCM_isMeant_b89 (fCM_isMeant_b44 n) σ x1 x2 x3
        else
          if (((4 : Int32) * x1) + x3) < 0 ∨ 240 ≤ (((4 : Int32) * x1) + x3).toNatClampNeg then none else
          gx_b2 (fCM_hasShape σ (σ.1 11 (((4 : Int32) * x1) + x3).toNatClampNeg) x3) fun v15 σ16 =>
          if v15 = 0 then
            fCM_isMeant_b89 (fCM_isMeant_b44 n) σ16 x1 x2 x3
          else
            fCM_isMeant_b120 (fCM_isMeant_b44 n) σ16 x1 x2 x3
set_option maxHeartbeats 4000000 in
set_option maxRecDepth 100000 in
theorem wCM_isMeant_b44 {p : Program} {l : Launch} {e : Env} {s : State} {m : MethodId} {args : Array Value} {below : List Frame} {meth : Method} {c : Code} {Q : State → Prop} {dC : Nat → ClassId} {dI : Nat → Nat → Nat} {ad : Nat → Nat} {cA : Nat → ClassId} {r : (Int32 × xSt)} (C : CallFix p m c cCM_isMeant 5 s args wAll RCM) (hK : va_K (dC, dI) vwC (mT cA) s) (hend : ∀ (v : Int32) (σ : xSt) (H : Heap) (locs : List Loc) (pc : Nat) (ls : Array Slot), (v, σ) = r → narrow .boolean (.int v) = .int v → va_P (dC, dI) vwC (mW ad cA σ) H → va_S (mA ad) s.heap H locs → decode cCM_isMeant pc = .ok (.ireturn, 1) → W p l e rm_CM_isMeant s m args below meth c H locs 0 0 Q (F0 m pc ls [.int v])) :
    ∀ (n : Nat) (σ : xSt) (H : Heap) (locs : List Loc) (x1 : Int32) (x2 : Int32) (x3 : Int32) (ls : Array Slot), va_P (dC, dI) vwC (mW ad cA σ) H → va_D (mA ad) (mW ad cA σ) → va_S (mA ad) s.heap H locs → lv_has ls 5 [(0, .ref (ad 0)), (1, .int (x1)), (2, .int (x2)), (3, .int (x3))] → fCM_isMeant_b44 n σ x1 x2 x3 = some r → W p l e rm_CM_isMeant s m args below meth c H locs 0 0 Q (F0 m 44 ls []) := by
  obtain ⟨hx, hb, hml, hown, hts⟩ := id C
  intro n
  induction n with
  | zero =>
    intro σ H locs x1 x2 x3 ls hP hD hS hl h
    rw [fCM_isMeant_b44] at h
    cases h
  | succ n ih =>
    intro σ H locs x1 x2 x3 ls hP hD hS hl h
    rw [fCM_isMeant_b44] at h
    refine lv_iload_n hx hb dCM_isMeant_44 rfl (lv_at hl 3 rfl) ?_
    refine lv_aload_n hx hb dCM_isMeant_45 rfl (lv_at hl 0 rfl) ?_
    refine va_get (D := (dC, dI)) (ci := 5) (v := .int (σ.1 0 13)) (C := RCM) (T := TCM) (N := 23) hx hb hts inCM hown hK hP 0 rfl rfl 13 (by decide) (hts _ mw_442) (fun _ h9 => h9) rfl dCM_isMeant_46 ?_
    refine lv_icmp_ge (tgt := 140) hx hb dCM_isMeant_49 (by decide) (fun c21 => ?_) (fun c21 => ?_)
    · have h := (if_pos c21).symm.trans h
      refine lv_iconst (v := (1 : Int32)) hx hb dCM_isMeant_140 (by decide) ?_
      exact hend _ _ _ _ _ _ (Option.some.inj h) rfl hP hS dCM_isMeant_141
    · have h := (if_neg c21).symm.trans h
      refine lv_aload_n hx hb dCM_isMeant_52 rfl (lv_at hl 0 rfl) ?_
      refine va_get (D := (dC, dI)) (ci := 5) (v := .ref (ad 13)) (C := RCM) (T := TCM) (N := 23) hx hb hts inCM hown hK hP 0 rfl rfl 15 (by decide) (hts _ mw_444) (fun _ h9 => h9) rfl dCM_isMeant_53 ?_
      refine lv_iload_n hx hb dCM_isMeant_56 rfl (lv_at hl 3 rfl) ?_
      obtain ⟨b3, h⟩ := gx_nb h
      refine va_iald hx hb hK hP 13 12 rfl rfl b3 dCM_isMeant_57 ?_
      refine lv_if_le (tgt := 134) hx hb dCM_isMeant_58 (by decide) (fun c20 => ?_) (fun c20 => ?_)
      · have h := (if_pos c20).symm.trans h
        exact wCM_isMeant_b134 C hK hend ih _ _ _ _ _ _ _ hP hD hS (lv_sub hl [0, 1, 2, 3] rfl) h
      · have h := (if_neg c20).symm.trans h
        refine lv_iload_n hx hb dCM_isMeant_61 rfl (lv_at hl 3 rfl) ?_
        refine lv_aload_n hx hb dCM_isMeant_62 rfl (lv_at hl 0 rfl) ?_
        refine va_get (D := (dC, dI)) (ci := 5) (v := .ref (ad 10)) (C := RCM) (T := TCM) (N := 23) hx hb hts inCM hown hK hP 0 rfl rfl 11 (by decide) (hts _ mw_406) (fun _ h9 => h9) rfl dCM_isMeant_63 ?_
        refine lv_iload_n hx hb dCM_isMeant_66 rfl (lv_at hl 1 rfl) ?_
        obtain ⟨b4, h⟩ := gx_nb h
        refine va_iald hx hb hK hP 10 9 rfl rfl b4 dCM_isMeant_67 ?_
        refine lv_icmp_ge (tgt := 89) hx hb dCM_isMeant_68 (by decide) (fun c19 => ?_) (fun c19 => ?_)
        · have h := (if_pos c19).symm.trans h
          exact wCM_isMeant_b89 C hK hend ih _ _ _ _ _ _ _ hP hD hS (lv_sub hl [0, 1, 2, 3] rfl) h
        · have h := (if_neg c19).symm.trans h
          refine lv_aload_n hx hb dCM_isMeant_71 rfl (lv_at hl 0 rfl) ?_
          refine lv_aload_n hx hb dCM_isMeant_72 rfl (lv_at hl 0 rfl) ?_
          refine va_get (D := (dC, dI)) (ci := 5) (v := .ref (ad 11)) (C := RCM) (T := TCM) (N := 23) hx hb hts inCM hown hK hP 0 rfl rfl 12 (by decide) (hts _ mw_407) (fun _ h9 => h9) rfl dCM_isMeant_73 ?_
          refine lv_iconst (v := (4 : Int32)) hx hb dCM_isMeant_76 (by decide) ?_
          refine lv_iload_n hx hb dCM_isMeant_77 rfl (lv_at hl 1 rfl) ?_
          refine lv_imul hx hb dCM_isMeant_78 ?_
          refine lv_iload_n hx hb dCM_isMeant_79 rfl (lv_at hl 3 rfl) ?_
          refine lv_iadd hx hb dCM_isMeant_80 ?_
          obtain ⟨b14, h⟩ := gx_nb h
          refine va_iald hx hb hK hP 11 10 rfl rfl b14 dCM_isMeant_81 ?_
          refine lv_iload_n hx hb dCM_isMeant_82 rfl (lv_at hl 3 rfl) ?_
          obtain ⟨v15, σ16, ez17, h⟩ := gx_b2_at h
          refine gcall_i (wd := mW ad cA) (b := ad 0) (As := [.int (σ.1 11 (((4 : Int32) * x1) + x3).toNatClampNeg), .int (x3)]) (rest := []) mkeys C hK hP hD hS (ci := 5) (q0 := 0) rfl rfl (kCM_hasShape l dC dI ad cA σ (σ.1 11 (((4 : Int32) * x1) + x3).toNatClampNeg) x3 (v15, σ16) ez17) (cwV 2 hts (gw mw_467 mw_468 mw_469 mw_363 mw_470) rfl rfl rfl hdCM_hasShape ⟨Nat.le_of_ble_eq_true rfl, Nat.le_of_ble_eq_true rfl⟩) rfl hl.1 rfl (Nat.le_of_ble_eq_true rfl) dCM_isMeant_83 ⟨Nat.le_refl _, Nat.le_refl _⟩ (fun H locs hP hD hS => ?_)
          refine lv_if_ne (tgt := 120) hx hb dCM_isMeant_86 (by decide) (fun c18 => ?_) (fun c18 => ?_)
          · have h := (if_neg c18).symm.trans h
            exact wCM_isMeant_b120 C hK hend ih _ _ _ _ _ _ _ hP hD hS (lv_sub hl [0, 1, 2, 3] rfl) h
          · have h := (if_pos c18).symm.trans h
            exact wCM_isMeant_b89 C hK hend ih _ _ _ _ _ _ _ hP hD hS (lv_sub hl [0, 1, 2, 3] rfl) h
def fCM_isMeant_b42 (σ : xSt) (x1 : Int32) (x2 : Int32) : Option (Int32 × xSt) :=
  fCM_isMeant_b44 gF σ x1 x2 (0 : Int32)
set_option maxHeartbeats 4000000 in
set_option maxRecDepth 100000 in
theorem wCM_isMeant_b42 {p : Program} {l : Launch} {e : Env} {s : State} {m : MethodId} {args : Array Value} {below : List Frame} {meth : Method} {c : Code} {Q : State → Prop} {dC : Nat → ClassId} {dI : Nat → Nat → Nat} {ad : Nat → Nat} {cA : Nat → ClassId} {r : (Int32 × xSt)} (C : CallFix p m c cCM_isMeant 5 s args wAll RCM) (hK : va_K (dC, dI) vwC (mT cA) s) (hend : ∀ (v : Int32) (σ : xSt) (H : Heap) (locs : List Loc) (pc : Nat) (ls : Array Slot), (v, σ) = r → narrow .boolean (.int v) = .int v → va_P (dC, dI) vwC (mW ad cA σ) H → va_S (mA ad) s.heap H locs → decode cCM_isMeant pc = .ok (.ireturn, 1) → W p l e rm_CM_isMeant s m args below meth c H locs 0 0 Q (F0 m pc ls [.int v])) :
    ∀ (σ : xSt) (H : Heap) (locs : List Loc) (x1 : Int32) (x2 : Int32) (ls : Array Slot), va_P (dC, dI) vwC (mW ad cA σ) H → va_D (mA ad) (mW ad cA σ) → va_S (mA ad) s.heap H locs → lv_has ls 5 [(0, .ref (ad 0)), (1, .int (x1)), (2, .int (x2))] → fCM_isMeant_b42 σ x1 x2 = some r → W p l e rm_CM_isMeant s m args below meth c H locs 0 0 Q (F0 m 42 ls []) := by
  obtain ⟨hx, hb, hml, hown, hts⟩ := id C
  intro σ H locs x1 x2 ls hP hD hS hl h
  unfold fCM_isMeant_b42 at h
  refine lv_iconst (v := (0 : Int32)) hx hb dCM_isMeant_42 (by decide) ?_
  refine lv_istore_n (lv' := [(3, .int ((0 : Int32))), (0, .ref (ad 0)), (1, .int (x1)), (2, .int (x2))]) hx hb dCM_isMeant_43 rfl hl (by decide) rfl (fun ls hl => ?_)
  exact wCM_isMeant_b44 C hK hend _ _ _ _ _ _ _ _ hP hD hS (lv_sub hl [1, 2, 3, 0] rfl) h
def fCM_isMeant (σ : xSt) (x1 : Int32) : Option (Int32 × xSt) :=
  (fCM_has σ x1 (8 : Int32)).bind fun v1 =>
  if x1 < 0 ∨ 60 ≤ x1.toNatClampNeg then none else
  if (σ.1 10 x1.toNatClampNeg) = (σ.1 0 13) then
    fCM_isMeant_b42 σ x1 v1
  else
    if v1 = 0 then
      some ((0 : Int32), σ)
    else
      if x1 < 0 ∨ 60 ≤ x1.toNatClampNeg then none else
      if (σ.1 10 x1.toNatClampNeg) ≤ ((σ.1 0 13) + (1 : Int32)) then
        fCM_isMeant_b42 σ x1 v1
      else
        some ((0 : Int32), σ)
set_option maxHeartbeats 4000000 in
set_option maxRecDepth 100000 in
theorem wCM_isMeant {p : Program} {l : Launch} {e : Env} {s : State} {m : MethodId} {args : Array Value} {below : List Frame} {meth : Method} {c : Code} {Q : State → Prop} {dC : Nat → ClassId} {dI : Nat → Nat → Nat} {ad : Nat → Nat} {cA : Nat → ClassId} {r : (Int32 × xSt)} (C : CallFix p m c cCM_isMeant 5 s args wAll RCM) (hK : va_K (dC, dI) vwC (mT cA) s) (hend : ∀ (v : Int32) (σ : xSt) (H : Heap) (locs : List Loc) (pc : Nat) (ls : Array Slot), (v, σ) = r → narrow .boolean (.int v) = .int v → va_P (dC, dI) vwC (mW ad cA σ) H → va_S (mA ad) s.heap H locs → decode cCM_isMeant pc = .ok (.ireturn, 1) → W p l e rm_CM_isMeant s m args below meth c H locs 0 0 Q (F0 m pc ls [.int v])) {H : Heap} {locs : List Loc} {σ : xSt} (hP : va_P (dC, dI) vwC (mW ad cA σ) H) (hD : va_D (mA ad) (mW ad cA σ)) (hS : va_S (mA ad) s.heap H locs) {x1 : Int32} (ls : Array Slot) (hl : lv_has ls 5 [(0, .ref (ad 0)), (1, .int (x1))]) (h : fCM_isMeant σ x1 = some r) : W p l e rm_CM_isMeant s m args below meth c H locs 0 0 Q (F0 m 0 ls []) := by
  obtain ⟨hx, hb, hml, hown, hts⟩ := id C
  unfold fCM_isMeant at h
  refine lv_aload_n hx hb dCM_isMeant_0 rfl (lv_at hl 0 rfl) ?_
  refine lv_iload_n hx hb dCM_isMeant_1 rfl (lv_at hl 1 rfl) ?_
  refine lv_bipush (v := (8 : Int32)) hx hb dCM_isMeant_2 (by decide) ?_
  obtain ⟨v1, ev1, h⟩ := Option.bind_eq_some_iff.mp h
  refine gcall_r (b := ad 0) (As := [.int (x1), .int ((8 : Int32))]) (rest := []) C hK hP (ci := 5) (q0 := 0) rfl rfl (kCM_has l dC dI ad cA σ x1 (8 : Int32) v1 ev1) (cwV 2 hts (gw mw_418 mw_419 mw_420 mw_363 mw_421) rfl rfl rfl hdCM_has ⟨Nat.le_of_ble_eq_true rfl, Nat.le_of_ble_eq_true rfl⟩) rfl hl.1 rfl (Nat.le_of_ble_eq_true rfl) dCM_isMeant_4 ⟨Nat.le_refl _, Nat.le_refl _⟩ ?_
  refine lv_istore_n (lv' := [(2, .int (v1)), (0, .ref (ad 0)), (1, .int (x1))]) hx hb dCM_isMeant_7 rfl hl (by decide) rfl (fun ls hl => ?_)
  refine lv_aload_n hx hb dCM_isMeant_8 rfl (lv_at hl 1 rfl) ?_
  refine va_get (D := (dC, dI)) (ci := 5) (v := .ref (ad 10)) (C := RCM) (T := TCM) (N := 23) hx hb hts inCM hown hK hP 0 rfl rfl 11 (by decide) (hts _ mw_406) (fun _ h9 => h9) rfl dCM_isMeant_9 ?_
  refine lv_iload_n hx hb dCM_isMeant_12 rfl (lv_at hl 2 rfl) ?_
  obtain ⟨b2, h⟩ := gx_nb h
  refine va_iald hx hb hK hP 10 9 rfl rfl b2 dCM_isMeant_13 ?_
  refine lv_aload_n hx hb dCM_isMeant_14 rfl (lv_at hl 1 rfl) ?_
  refine va_get (D := (dC, dI)) (ci := 5) (v := .int (σ.1 0 13)) (C := RCM) (T := TCM) (N := 23) hx hb hts inCM hown hK hP 0 rfl rfl 13 (by decide) (hts _ mw_442) (fun _ h9 => h9) rfl dCM_isMeant_15 ?_
  refine lv_icmp_eq (tgt := 42) hx hb dCM_isMeant_18 (by decide) (fun c25 => ?_) (fun c25 => ?_)
  · have h := (if_pos c25).symm.trans h
    exact wCM_isMeant_b42 C hK hend _ _ _ _ _ _ hP hD hS (lv_sub hl [1, 2, 0] rfl) h
  · have h := (if_neg c25).symm.trans h
    refine lv_iload_n hx hb dCM_isMeant_21 rfl (lv_at hl 0 rfl) ?_
    refine lv_if_eq (tgt := 40) hx hb dCM_isMeant_22 (by decide) (fun c24 => ?_) (fun c24 => ?_)
    · have h := (if_pos c24).symm.trans h
      refine lv_iconst (v := (0 : Int32)) hx hb dCM_isMeant_40 (by decide) ?_
      exact hend _ _ _ _ _ _ (Option.some.inj h) rfl hP hS dCM_isMeant_41
    · have h := (if_neg c24).symm.trans h
      refine lv_aload_n hx hb dCM_isMeant_25 rfl (lv_at hl 1 rfl) ?_
      refine va_get (D := (dC, dI)) (ci := 5) (v := .ref (ad 10)) (C := RCM) (T := TCM) (N := 23) hx hb hts inCM hown hK hP 0 rfl rfl 11 (by decide) (hts _ mw_406) (fun _ h9 => h9) rfl dCM_isMeant_26 ?_
      refine lv_iload_n hx hb dCM_isMeant_29 rfl (lv_at hl 2 rfl) ?_
      obtain ⟨b22, h⟩ := gx_nb h
      refine va_iald hx hb hK hP 10 9 rfl rfl b22 dCM_isMeant_30 ?_
      refine lv_aload_n hx hb dCM_isMeant_31 rfl (lv_at hl 1 rfl) ?_
      refine va_get (D := (dC, dI)) (ci := 5) (v := .int (σ.1 0 13)) (C := RCM) (T := TCM) (N := 23) hx hb hts inCM hown hK hP 0 rfl rfl 13 (by decide) (hts _ mw_442) (fun _ h9 => h9) rfl dCM_isMeant_32 ?_
      refine lv_iconst (v := (1 : Int32)) hx hb dCM_isMeant_35 (by decide) ?_
      refine lv_iadd hx hb dCM_isMeant_36 ?_
      refine lv_icmp_le (tgt := 42) hx hb dCM_isMeant_37 (by decide) (fun c23 => ?_) (fun c23 => ?_)
      · have h := (if_pos c23).symm.trans h
        exact wCM_isMeant_b42 C hK hend _ _ _ _ _ _ hP hD hS (lv_sub hl [1, 2, 0] rfl) h
      · have h := (if_neg c23).symm.trans h
        refine lv_iconst (v := (0 : Int32)) hx hb dCM_isMeant_40 (by decide) ?_
        exact hend _ _ _ _ _ _ (Option.some.inj h) rfl hP hS dCM_isMeant_41
set_option maxHeartbeats 4000000 in
set_option maxRecDepth 100000 in
theorem kCM_isMeant (l : Launch) (dC : Nat → ClassId) (dI : Nat → Nat → Nat) (ad : Nat → Nat) (cA : Nat → ClassId) (σ : xSt) (x1 : Int32) (r : (Int32 × xSt)) (h : fCM_isMeant σ x1 = some r) : Met l yCM_isMeant wsCM_isMeant rm_CM_isMeant (va_Pc [.ref (ad 0), .int (x1)] (fun U => va_P (dC, dI) vwC (mW ad cA σ) U.heap ∧ va_K (dC, dI) vwC (mT cA) U ∧ va_D (mA ad) (mW ad cA σ))) (va_Qi (fun (v : Int32) (u : xSt) => (v, u) = r) (fun u t => va_P (dC, dI) vwC (mW ad cA u) t.heap) (mA ad)) 0 0 (mA ad) := by
  refine Met.ofW (cc := cCM_isMeant) (maxL := 5) (ret := (some .boolean)) (by decide) rfl ?_
  intro p e s m args below meth c s₁ B hml hv
  obtain ⟨rfl, hP, hK, hD⟩ := hv
  have hr := B.returns
  have hlocks := B.notSynchronized
  have hl := lv_entry ([.ref (ad 0), .int (x1)]) (n := 5) (Nat.le_of_ble_eq_true rfl)
  rw [lg_entry_eq]
  exact wCM_isMeant ⟨B.exec, B.bytes, hml, findClass_of_methodNamed B.named, fun w h => atoms_spec (ws := wsCM_isMeant) B.pre w (List.mem_cons_of_mem _ h)⟩ hK (fun v σ H locs pc ls hv hn hP hS hd => W.zret (v := v) B.exec B.bytes hr hn (fun t ht hW => ⟨⟨v, σ, rfl, hv, by show va_P _ _ _ t.heap; rw [ht]; exact hP⟩, hS.F ht⟩) hS.2.2 hd) hP hD va_S.rf _ hl h
abbrev rm_CM_choose : Room := { frames := 9, cells := 0, slots := 0, locals := 207 }
def fCM_choose_b417 (k348 : xSt → Int32 → Int32 → Int32 → Int32 → Option (Int32 × xSt)) (k360 : xSt → Int32 → Int32 → Int32 → Int32 → Int32 → Option (Int32 × xSt)) (σ : xSt) (x4 : Int32) (x5 : Int32) (x6 : Int32) (x8 : Int32) (x9 : Int32) (s1 : Int32) (s2 : Int32) : Option (Int32 × xSt) :=
  if s1 < 0 ∨ 3600 ≤ s1.toNatClampNeg then none else
  nm (sI σ 18 s1.toNatClampNeg (vp_nar .boolean s2)) fun σ14 =>
  k360 σ14 x4 x5 x6 x8 (x9 + (1 : Int32))
set_option maxHeartbeats 4000000 in
set_option maxRecDepth 100000 in
theorem wCM_choose_b417 {p : Program} {l : Launch} {e : Env} {s : State} {m : MethodId} {args : Array Value} {below : List Frame} {meth : Method} {c : Code} {Q : State → Prop} {dC : Nat → ClassId} {dI : Nat → Nat → Nat} {ad : Nat → Nat} {cA : Nat → ClassId} {r : (Int32 × xSt)} (C : CallFix p m c cCM_choose 10 s args wAll RCM) (hK : va_K (dC, dI) vwC (mT cA) s) (hend : ∀ (v : Int32) (σ : xSt) (H : Heap) (locs : List Loc) (pc : Nat) (ls : Array Slot), (v, σ) = r → va_P (dC, dI) vwC (mW ad cA σ) H → va_S (mA ad) s.heap H locs → decode cCM_choose pc = .ok (.ireturn, 1) → W p l e rm_CM_choose s m args below meth c H locs 0 0 Q (F0 m pc ls [.int v])) {k348 : xSt → Int32 → Int32 → Int32 → Int32 → Option (Int32 × xSt)} {k360 : xSt → Int32 → Int32 → Int32 → Int32 → Int32 → Option (Int32 × xSt)} (hk348 : ∀ (σ : xSt) (H : Heap) (locs : List Loc) (x4 : Int32) (x5 : Int32) (x6 : Int32) (x8 : Int32) (ls : Array Slot), va_P (dC, dI) vwC (mW ad cA σ) H → va_D (mA ad) (mW ad cA σ) → va_S (mA ad) s.heap H locs → lv_has ls 10 [(0, .ref (ad 0)), (4, .int (x4)), (5, .int (x5)), (6, .int (x6)), (8, .int (x8))] → k348 σ x4 x5 x6 x8 = some r → W p l e rm_CM_choose s m args below meth c H locs 0 0 Q (F0 m 348 ls [])) (hk360 : ∀ (σ : xSt) (H : Heap) (locs : List Loc) (x4 : Int32) (x5 : Int32) (x6 : Int32) (x8 : Int32) (x9 : Int32) (ls : Array Slot), va_P (dC, dI) vwC (mW ad cA σ) H → va_D (mA ad) (mW ad cA σ) → va_S (mA ad) s.heap H locs → lv_has ls 10 [(0, .ref (ad 0)), (4, .int (x4)), (5, .int (x5)), (6, .int (x6)), (8, .int (x8)), (9, .int (x9))] → k360 σ x4 x5 x6 x8 x9 = some r → W p l e rm_CM_choose s m args below meth c H locs 0 0 Q (F0 m 360 ls [])) :
    ∀ (σ : xSt) (H : Heap) (locs : List Loc) (x4 : Int32) (x5 : Int32) (x6 : Int32) (x8 : Int32) (x9 : Int32) (s1 : Int32) (s2 : Int32) (ls : Array Slot), va_P (dC, dI) vwC (mW ad cA σ) H → va_D (mA ad) (mW ad cA σ) → va_S (mA ad) s.heap H locs → lv_has ls 10 [(0, .ref (ad 0)), (4, .int (x4)), (5, .int (x5)), (6, .int (x6)), (8, .int (x8)), (9, .int (x9))] → fCM_choose_b417 k348 k360 σ x4 x5 x6 x8 x9 s1 s2 = some r → W p l e rm_CM_choose s m args below meth c H locs 0 0 Q (F0 m 417 ls [.int (s2), .int (s1), .ref (ad 18)]) := by
  obtain ⟨hx, hb, hml, hown, hts⟩ := id C
  intro σ H locs x4 x5 x6 x8 x9 s1 s2 ls hP hD hS hl h
  unfold fCM_choose_b417 at h
  obtain ⟨b13, h⟩ := gx_nb h
  refine va_zast hx hb hK hP hD hS 18 17 rfl rfl b13 dCM_choose_417 (fun H locs hP hD hS => ?_)
  obtain ⟨σ14, eσ14⟩ : ∃ z, z = sI σ 18 s1.toNatClampNeg (vp_nar .boolean s2) := ⟨_, rfl⟩
  have hP : va_P (dC, dI) vwC (mW ad cA σ14) H := by rw [eσ14]; exact hP
  have hD : va_D (mA ad) (mW ad cA σ14) := by rw [eσ14]; exact hD
  have h := nm_at eσ14 h
  refine lv_iinc (v := x9 + (1 : Int32)) (lv' := [(9, .int (x9 + (1 : Int32))), (0, .ref (ad 0)), (4, .int (x4)), (5, .int (x5)), (6, .int (x6)), (8, .int (x8))]) hx hb dCM_choose_418 hl (k := 5) rfl rfl (by decide) rfl (fun ls hl => ?_)
  refine lv_goto (tgt := 360) hx hb dCM_choose_421 (by decide) ?_
  exact hk360 _ _ _ _ _ _ _ _ _ hP hD hS (lv_sub hl [1, 2, 3, 4, 5, 0] rfl) h
def fCM_choose_b416 (k348 : xSt → Int32 → Int32 → Int32 → Int32 → Option (Int32 × xSt)) (k360 : xSt → Int32 → Int32 → Int32 → Int32 → Int32 → Option (Int32 × xSt)) (σ : xSt) (x4 : Int32) (x5 : Int32) (x6 : Int32) (x8 : Int32) (x9 : Int32) (s1 : Int32) : Option (Int32 × xSt) :=
  fCM_choose_b417 k348 k360 σ x4 x5 x6 x8 x9 s1 (0 : Int32)
set_option maxHeartbeats 4000000 in
set_option maxRecDepth 100000 in
theorem wCM_choose_b416 {p : Program} {l : Launch} {e : Env} {s : State} {m : MethodId} {args : Array Value} {below : List Frame} {meth : Method} {c : Code} {Q : State → Prop} {dC : Nat → ClassId} {dI : Nat → Nat → Nat} {ad : Nat → Nat} {cA : Nat → ClassId} {r : (Int32 × xSt)} (C : CallFix p m c cCM_choose 10 s args wAll RCM) (hK : va_K (dC, dI) vwC (mT cA) s) (hend : ∀ (v : Int32) (σ : xSt) (H : Heap) (locs : List Loc) (pc : Nat) (ls : Array Slot), (v, σ) = r → va_P (dC, dI) vwC (mW ad cA σ) H → va_S (mA ad) s.heap H locs → decode cCM_choose pc = .ok (.ireturn, 1) → W p l e rm_CM_choose s m args below meth c H locs 0 0 Q (F0 m pc ls [.int v])) {k348 : xSt → Int32 → Int32 → Int32 → Int32 → Option (Int32 × xSt)} {k360 : xSt → Int32 → Int32 → Int32 → Int32 → Int32 → Option (Int32 × xSt)} (hk348 : ∀ (σ : xSt) (H : Heap) (locs : List Loc) (x4 : Int32) (x5 : Int32) (x6 : Int32) (x8 : Int32) (ls : Array Slot), va_P (dC, dI) vwC (mW ad cA σ) H → va_D (mA ad) (mW ad cA σ) → va_S (mA ad) s.heap H locs → lv_has ls 10 [(0, .ref (ad 0)), (4, .int (x4)), (5, .int (x5)), (6, .int (x6)), (8, .int (x8))] → k348 σ x4 x5 x6 x8 = some r → W p l e rm_CM_choose s m args below meth c H locs 0 0 Q (F0 m 348 ls [])) (hk360 : ∀ (σ : xSt) (H : Heap) (locs : List Loc) (x4 : Int32) (x5 : Int32) (x6 : Int32) (x8 : Int32) (x9 : Int32) (ls : Array Slot), va_P (dC, dI) vwC (mW ad cA σ) H → va_D (mA ad) (mW ad cA σ) → va_S (mA ad) s.heap H locs → lv_has ls 10 [(0, .ref (ad 0)), (4, .int (x4)), (5, .int (x5)), (6, .int (x6)), (8, .int (x8)), (9, .int (x9))] → k360 σ x4 x5 x6 x8 x9 = some r → W p l e rm_CM_choose s m args below meth c H locs 0 0 Q (F0 m 360 ls [])) :
    ∀ (σ : xSt) (H : Heap) (locs : List Loc) (x4 : Int32) (x5 : Int32) (x6 : Int32) (x8 : Int32) (x9 : Int32) (s1 : Int32) (ls : Array Slot), va_P (dC, dI) vwC (mW ad cA σ) H → va_D (mA ad) (mW ad cA σ) → va_S (mA ad) s.heap H locs → lv_has ls 10 [(0, .ref (ad 0)), (4, .int (x4)), (5, .int (x5)), (6, .int (x6)), (8, .int (x8)), (9, .int (x9))] → fCM_choose_b416 k348 k360 σ x4 x5 x6 x8 x9 s1 = some r → W p l e rm_CM_choose s m args below meth c H locs 0 0 Q (F0 m 416 ls [.int (s1), .ref (ad 18)]) := by
  obtain ⟨hx, hb, hml, hown, hts⟩ := id C
  intro σ H locs x4 x5 x6 x8 x9 s1 ls hP hD hS hl h
  unfold fCM_choose_b416 at h
  refine lv_iconst (v := (0 : Int32)) hx hb dCM_choose_416 (by decide) ?_
  exact wCM_choose_b417 C hK hend hk348 hk360 _ _ _ _ _ _ _ _ _ _ _ hP hD hS (lv_sub hl [0, 1, 2, 3, 4, 5] rfl) h
def fCM_choose_b360 (k348 : xSt → Int32 → Int32 → Int32 → Int32 → Option (Int32 × xSt)) : Nat → xSt → Int32 → Int32 → Int32 → Int32 → Int32 → Option (Int32 × xSt)
  | 0, _, _, _, _, _, _ => none
  | n + 1, σ, x4, x5, x6, x8, x9 =>
    if (σ.1 0 6) ≤ x9 then
      k348 σ x4 x5 x6 (x8 + (1 : Int32))
    else
      if x8 < 0 ∨ 60 ≤ x8.toNatClampNeg then none else
      if (σ.1 17 x8.toNatClampNeg) = 0 then
        fCM_choose_b416 k348 (fCM_choose_b360 k348 n) σ x4 x5 x6 x8 x9 (((60 : Int32) * x8) + x9)
      else
        if x9 < 0 ∨ 60 ≤ x9.toNatClampNeg then none else
        if (σ.1 17 x9.toNatClampNeg) = 0 then
          fCM_choose_b416 k348 (fCM_choose_b360 k348 n) σ x4 x5 x6 x8 x9 (((60 : Int32) * x8) + x9)
        else
          gx_b2 (fCM_isSpecial σ x8 x9) fun v16 σ17 =>
          if v16 = 0 then
            fCM_choose_b416 k348 (fCM_choose_b360 k348 n) σ17 x4 x5 x6 x8 x9 (((60 : Int32) * x8) + x9)
          else
            fCM_choose_b417 k348 (fCM_choose_b360 k348 n) σ17 x4 x5 x6 x8 x9 (((60 : Int32) * x8) + x9) (1 : Int32)
set_option maxHeartbeats 4000000 in
set_option maxRecDepth 100000 in
theorem wCM_choose_b360 {p : Program} {l : Launch} {e : Env} {s : State} {m : MethodId} {args : Array Value} {below : List Frame} {meth : Method} {c : Code} {Q : State → Prop} {dC : Nat → ClassId} {dI : Nat → Nat → Nat} {ad : Nat → Nat} {cA : Nat → ClassId} {r : (Int32 × xSt)} (C : CallFix p m c cCM_choose 10 s args wAll RCM) (hK : va_K (dC, dI) vwC (mT cA) s) (hend : ∀ (v : Int32) (σ : xSt) (H : Heap) (locs : List Loc) (pc : Nat) (ls : Array Slot), (v, σ) = r → va_P (dC, dI) vwC (mW ad cA σ) H → va_S (mA ad) s.heap H locs → decode cCM_choose pc = .ok (.ireturn, 1) → W p l e rm_CM_choose s m args below meth c H locs 0 0 Q (F0 m pc ls [.int v])) {k348 : xSt → Int32 → Int32 → Int32 → Int32 → Option (Int32 × xSt)} (hk348 : ∀ (σ : xSt) (H : Heap) (locs : List Loc) (x4 : Int32) (x5 : Int32) (x6 : Int32) (x8 : Int32) (ls : Array Slot), va_P (dC, dI) vwC (mW ad cA σ) H → va_D (mA ad) (mW ad cA σ) → va_S (mA ad) s.heap H locs → lv_has ls 10 [(0, .ref (ad 0)), (4, .int (x4)), (5, .int (x5)), (6, .int (x6)), (8, .int (x8))] → k348 σ x4 x5 x6 x8 = some r → W p l e rm_CM_choose s m args below meth c H locs 0 0 Q (F0 m 348 ls [])) :
    ∀ (n : Nat) (σ : xSt) (H : Heap) (locs : List Loc) (x4 : Int32) (x5 : Int32) (x6 : Int32) (x8 : Int32) (x9 : Int32) (ls : Array Slot), va_P (dC, dI) vwC (mW ad cA σ) H → va_D (mA ad) (mW ad cA σ) → va_S (mA ad) s.heap H locs → lv_has ls 10 [(0, .ref (ad 0)), (4, .int (x4)), (5, .int (x5)), (6, .int (x6)), (8, .int (x8)), (9, .int (x9))] → fCM_choose_b360 k348 n σ x4 x5 x6 x8 x9 = some r → W p l e rm_CM_choose s m args below meth c H locs 0 0 Q (F0 m 360 ls []) := by
  obtain ⟨hx, hb, hml, hown, hts⟩ := id C
  intro n
  induction n with
  | zero =>
    intro σ H locs x4 x5 x6 x8 x9 ls hP hD hS hl h
    rw [fCM_choose_b360] at h
    cases h
  | succ n ih =>
    intro σ H locs x4 x5 x6 x8 x9 ls hP hD hS hl h
    rw [fCM_choose_b360] at h
    refine lv_iload hx hb dCM_choose_360 (lv_at hl 5 rfl) ?_
    refine lv_aload_n hx hb dCM_choose_362 rfl (lv_at hl 0 rfl) ?_
    refine va_get (D := (dC, dI)) (ci := 5) (v := .int (σ.1 0 6)) (C := RCM) (T := TCM) (N := 23) hx hb hts inCM hown hK hP 0 rfl rfl 6 (by decide) (hts _ mw_401) (fun _ h9 => h9) rfl dCM_choose_363 ?_
    refine lv_icmp_ge (tgt := 424) hx hb dCM_choose_366 (by decide) (fun c22 => ?_) (fun c22 => ?_)
    · have h := (if_pos c22).symm.trans h
      refine lv_iinc (v := x8 + (1 : Int32)) (lv' := [(8, .int (x8 + (1 : Int32))), (0, .ref (ad 0)), (4, .int (x4)), (5, .int (x5)), (6, .int (x6)), (9, .int (x9))]) hx hb dCM_choose_424 hl (k := 4) rfl rfl (by decide) rfl (fun ls hl => ?_)
      refine lv_goto (tgt := 348) hx hb dCM_choose_427 (by decide) ?_
      exact hk348 _ _ _ _ _ _ _ _ hP hD hS (lv_sub hl [1, 2, 3, 4, 0] rfl) h
    · have h := (if_neg c22).symm.trans h
      refine lv_aload_n hx hb dCM_choose_369 rfl (lv_at hl 0 rfl) ?_
      refine va_get (D := (dC, dI)) (ci := 5) (v := .ref (ad 18)) (C := RCM) (T := TCM) (N := 23) hx hb hts inCM hown hK hP 0 rfl rfl 21 (by decide) (hts _ mw_450) (fun _ h9 => h9) rfl dCM_choose_370 ?_
      refine lv_bipush (v := (60 : Int32)) hx hb dCM_choose_373 (by decide) ?_
      refine lv_iload hx hb dCM_choose_375 (lv_at hl 4 rfl) ?_
      refine lv_imul hx hb dCM_choose_377 ?_
      refine lv_iload hx hb dCM_choose_378 (lv_at hl 5 rfl) ?_
      refine lv_iadd hx hb dCM_choose_380 ?_
      refine lv_aload_n hx hb dCM_choose_381 rfl (lv_at hl 0 rfl) ?_
      refine va_get (D := (dC, dI)) (ci := 5) (v := .ref (ad 17)) (C := RCM) (T := TCM) (N := 23) hx hb hts inCM hown hK hP 0 rfl rfl 20 (by decide) (hts _ mw_449) (fun _ h9 => h9) rfl dCM_choose_382 ?_
      refine lv_iload hx hb dCM_choose_385 (lv_at hl 4 rfl) ?_
      obtain ⟨b12, h⟩ := gx_nb h
      refine va_zald hx hb hK hP 17 16 rfl rfl b12 dCM_choose_387 ?_
      refine lv_if_eq (tgt := 416) hx hb dCM_choose_388 (by decide) (fun c21 => ?_) (fun c21 => ?_)
      · have h := (if_pos c21).symm.trans h
        exact wCM_choose_b416 C hK hend hk348 ih _ _ _ _ _ _ _ _ _ _ hP hD hS (lv_sub hl [0, 1, 2, 3, 4, 5] rfl) h
      · have h := (if_neg c21).symm.trans h
        refine lv_aload_n hx hb dCM_choose_391 rfl (lv_at hl 0 rfl) ?_
        refine va_get (D := (dC, dI)) (ci := 5) (v := .ref (ad 17)) (C := RCM) (T := TCM) (N := 23) hx hb hts inCM hown hK hP 0 rfl rfl 20 (by decide) (hts _ mw_449) (fun _ h9 => h9) rfl dCM_choose_392 ?_
        refine lv_iload hx hb dCM_choose_395 (lv_at hl 5 rfl) ?_
        obtain ⟨b15, h⟩ := gx_nb h
        refine va_zald hx hb hK hP 17 16 rfl rfl b15 dCM_choose_397 ?_
        refine lv_if_eq (tgt := 416) hx hb dCM_choose_398 (by decide) (fun c20 => ?_) (fun c20 => ?_)
        · have h := (if_pos c20).symm.trans h
          exact wCM_choose_b416 C hK hend hk348 ih _ _ _ _ _ _ _ _ _ _ hP hD hS (lv_sub hl [0, 1, 2, 3, 4, 5] rfl) h
        · have h := (if_neg c20).symm.trans h
          refine lv_aload_n hx hb dCM_choose_401 rfl (lv_at hl 0 rfl) ?_
          refine lv_iload hx hb dCM_choose_402 (lv_at hl 4 rfl) ?_
          refine lv_iload hx hb dCM_choose_404 (lv_at hl 5 rfl) ?_
          obtain ⟨v16, σ17, ez18, h⟩ := gx_b2_at h
          refine gcall_i (wd := mW ad cA) (b := ad 0) (As := [.int (x8), .int (x9)]) (rest := [.int (((60 : Int32) * x8) + x9), .ref (ad 18)]) mkeys C hK hP hD hS (ci := 5) (q0 := 0) rfl rfl (kCM_isSpecial l dC dI ad cA σ x8 x9 (v16, σ17) ez18) (cwV 2 hts (gw mw_463 mw_464 mw_465 mw_363 mw_466) rfl rfl rfl hdCM_isSpecial ⟨Nat.le_of_ble_eq_true rfl, Nat.le_of_ble_eq_true rfl⟩) rfl hl.1 rfl (Nat.le_of_ble_eq_true rfl) dCM_choose_406 ⟨Nat.le_refl _, Nat.le_refl _⟩ (fun H locs hP hD hS => ?_)
          refine lv_if_eq (tgt := 416) hx hb dCM_choose_409 (by decide) (fun c19 => ?_) (fun c19 => ?_)
          · have h := (if_pos c19).symm.trans h
            exact wCM_choose_b416 C hK hend hk348 ih _ _ _ _ _ _ _ _ _ _ hP hD hS (lv_sub hl [0, 1, 2, 3, 4, 5] rfl) h
          · have h := (if_neg c19).symm.trans h
            refine lv_iconst (v := (1 : Int32)) hx hb dCM_choose_412 (by decide) ?_
            refine lv_goto (tgt := 417) hx hb dCM_choose_413 (by decide) ?_
            exact wCM_choose_b417 C hK hend hk348 ih _ _ _ _ _ _ _ _ _ _ _ hP hD hS (lv_sub hl [0, 1, 2, 3, 4, 5] rfl) h
def fCM_choose_b348 : Nat → xSt → Int32 → Int32 → Int32 → Int32 → Option (Int32 × xSt)
  | 0, _, _, _, _, _ => none
  | n + 1, σ, x4, x5, x6, x8 =>
    if (σ.1 0 6) ≤ x8 then
      if (σ.1 0 19) = 0 then
        if x5 = 0 then
          some ((-3 : Int32), σ)
        else
          if x6 = 0 then
            some ((-4 : Int32), σ)
          else
            some ((-5 : Int32), σ)
      else
        (fCM_mostSpecial σ).bind fun v4 =>
        if 0 ≤ v4 then
          if x4 = (1 : Int32) then
            (fCM_has σ v4 (1 : Int32)).bind fun v5 =>
            if v5 = 0 then
              some ((-7 : Int32), σ)
            else
              some (v4, σ)
          else
            some (v4, σ)
        else
          some ((-6 : Int32), σ)
    else
      fCM_choose_b360 (fCM_choose_b348 n) gF σ x4 x5 x6 x8 (0 : Int32)
set_option maxHeartbeats 4000000 in
set_option maxRecDepth 100000 in
theorem wCM_choose_b348 {p : Program} {l : Launch} {e : Env} {s : State} {m : MethodId} {args : Array Value} {below : List Frame} {meth : Method} {c : Code} {Q : State → Prop} {dC : Nat → ClassId} {dI : Nat → Nat → Nat} {ad : Nat → Nat} {cA : Nat → ClassId} {r : (Int32 × xSt)} (C : CallFix p m c cCM_choose 10 s args wAll RCM) (hK : va_K (dC, dI) vwC (mT cA) s) (hend : ∀ (v : Int32) (σ : xSt) (H : Heap) (locs : List Loc) (pc : Nat) (ls : Array Slot), (v, σ) = r → va_P (dC, dI) vwC (mW ad cA σ) H → va_S (mA ad) s.heap H locs → decode cCM_choose pc = .ok (.ireturn, 1) → W p l e rm_CM_choose s m args below meth c H locs 0 0 Q (F0 m pc ls [.int v])) :
    ∀ (n : Nat) (σ : xSt) (H : Heap) (locs : List Loc) (x4 : Int32) (x5 : Int32) (x6 : Int32) (x8 : Int32) (ls : Array Slot), va_P (dC, dI) vwC (mW ad cA σ) H → va_D (mA ad) (mW ad cA σ) → va_S (mA ad) s.heap H locs → lv_has ls 10 [(0, .ref (ad 0)), (4, .int (x4)), (5, .int (x5)), (6, .int (x6)), (8, .int (x8))] → fCM_choose_b348 n σ x4 x5 x6 x8 = some r → W p l e rm_CM_choose s m args below meth c H locs 0 0 Q (F0 m 348 ls []) := by
  obtain ⟨hx, hb, hml, hown, hts⟩ := id C
  intro n
  induction n with
  | zero =>
    intro σ H locs x4 x5 x6 x8 ls hP hD hS hl h
    rw [fCM_choose_b348] at h
    cases h
  | succ n ih =>
    intro σ H locs x4 x5 x6 x8 ls hP hD hS hl h
    rw [fCM_choose_b348] at h
    refine lv_iload hx hb dCM_choose_348 (lv_at hl 4 rfl) ?_
    refine lv_aload_n hx hb dCM_choose_350 rfl (lv_at hl 0 rfl) ?_
    refine va_get (D := (dC, dI)) (ci := 5) (v := .int (σ.1 0 6)) (C := RCM) (T := TCM) (N := 23) hx hb hts inCM hown hK hP 0 rfl rfl 6 (by decide) (hts _ mw_401) (fun _ h9 => h9) rfl dCM_choose_351 ?_
    refine lv_icmp_ge (tgt := 430) hx hb dCM_choose_354 (by decide) (fun c23 => ?_) (fun c23 => ?_)
    · have h := (if_pos c23).symm.trans h
      refine lv_aload_n hx hb dCM_choose_430 rfl (lv_at hl 0 rfl) ?_
      refine va_get (D := (dC, dI)) (ci := 5) (v := .int (σ.1 0 19)) (C := RCM) (T := TCM) (N := 23) hx hb hts inCM hown hK hP 0 rfl rfl 19 (by decide) (hts _ mw_448) (fun _ h9 => h9) rfl dCM_choose_431 ?_
      refine lv_if_ne (tgt := 460) hx hb dCM_choose_434 (by decide) (fun c11 => ?_) (fun c11 => ?_)
      · have h := (if_neg c11).symm.trans h
        refine lv_aload_n hx hb dCM_choose_460 rfl (lv_at hl 0 rfl) ?_
        obtain ⟨v4, ev4, h⟩ := Option.bind_eq_some_iff.mp h
        refine gcall_r (b := ad 0) (As := []) (rest := []) C hK hP (ci := 5) (q0 := 0) rfl rfl (kCM_mostSpecial l dC dI ad cA σ v4 ev4) (cwV 0 hts (gw mw_451 mw_452 mw_453 mw_363 mw_454) rfl rfl rfl hdCM_mostSpecial ⟨Nat.le_of_ble_eq_true rfl, Nat.le_of_ble_eq_true rfl⟩) rfl hl.1 rfl (Nat.le_of_ble_eq_true rfl) dCM_choose_461 ⟨Nat.le_refl _, Nat.le_refl _⟩ ?_
        refine lv_istore (lv' := [(8, .int (v4)), (0, .ref (ad 0)), (4, .int (x4)), (5, .int (x5)), (6, .int (x6))]) hx hb dCM_choose_464 hl (by decide) rfl (fun ls hl => ?_)
        refine lv_iload hx hb dCM_choose_466 (lv_at hl 0 rfl) ?_
        refine lv_if_ge (tgt := 476) hx hb dCM_choose_468 (by decide) (fun c8 => ?_) (fun c8 => ?_)
        · have h := (if_pos c8).symm.trans h
          refine lv_iload hx hb dCM_choose_476 (lv_at hl 2 rfl) ?_
          refine lv_iconst (v := (1 : Int32)) hx hb dCM_choose_478 (by decide) ?_
          refine lv_icmp_ne (tgt := 497) hx hb dCM_choose_479 (by decide) (fun c7 => ?_) (fun c7 => ?_)
          · have h := (if_neg c7).symm.trans h
            refine lv_iload hx hb dCM_choose_497 (lv_at hl 0 rfl) ?_
            exact hend _ _ _ _ _ _ (Option.some.inj h) hP hS dCM_choose_499
          · have h := (if_pos c7).symm.trans h
            refine lv_aload_n hx hb dCM_choose_482 rfl (lv_at hl 1 rfl) ?_
            refine lv_iload hx hb dCM_choose_483 (lv_at hl 0 rfl) ?_
            refine lv_iconst (v := (1 : Int32)) hx hb dCM_choose_485 (by decide) ?_
            obtain ⟨v5, ev5, h⟩ := Option.bind_eq_some_iff.mp h
            refine gcall_r (b := ad 0) (As := [.int (v4), .int ((1 : Int32))]) (rest := []) C hK hP (ci := 5) (q0 := 0) rfl rfl (kCM_has l dC dI ad cA σ v4 (1 : Int32) v5 ev5) (cwV 2 hts (gw mw_418 mw_419 mw_420 mw_363 mw_421) rfl rfl rfl hdCM_has ⟨Nat.le_of_ble_eq_true rfl, Nat.le_of_ble_eq_true rfl⟩) rfl hl.1 rfl (Nat.le_of_ble_eq_true rfl) dCM_choose_486 ⟨Nat.le_refl _, Nat.le_refl _⟩ ?_
            refine lv_if_ne (tgt := 497) hx hb dCM_choose_489 (by decide) (fun c6 => ?_) (fun c6 => ?_)
            · have h := (if_neg c6).symm.trans h
              refine lv_iload hx hb dCM_choose_497 (lv_at hl 0 rfl) ?_
              exact hend _ _ _ _ _ _ (Option.some.inj h) hP hS dCM_choose_499
            · have h := (if_pos c6).symm.trans h
              refine lv_bipush (v := (-7 : Int32)) hx hb dCM_choose_492 (by decide) ?_
              refine lv_goto (tgt := 499) hx hb dCM_choose_494 (by decide) ?_
              exact hend _ _ _ _ _ _ (Option.some.inj h) hP hS dCM_choose_499
        · have h := (if_neg c8).symm.trans h
          refine lv_bipush (v := (-6 : Int32)) hx hb dCM_choose_471 (by decide) ?_
          refine lv_goto (tgt := 499) hx hb dCM_choose_473 (by decide) ?_
          exact hend _ _ _ _ _ _ (Option.some.inj h) hP hS dCM_choose_499
      · have h := (if_pos c11).symm.trans h
        refine lv_iload hx hb dCM_choose_437 (lv_at hl 2 rfl) ?_
        refine lv_if_ne (tgt := 447) hx hb dCM_choose_439 (by decide) (fun c10 => ?_) (fun c10 => ?_)
        · have h := (if_neg c10).symm.trans h
          refine lv_iload hx hb dCM_choose_447 (lv_at hl 3 rfl) ?_
          refine lv_if_ne (tgt := 457) hx hb dCM_choose_449 (by decide) (fun c9 => ?_) (fun c9 => ?_)
          · have h := (if_neg c9).symm.trans h
            refine lv_bipush (v := (-5 : Int32)) hx hb dCM_choose_457 (by decide) ?_
            exact hend _ _ _ _ _ _ (Option.some.inj h) hP hS dCM_choose_459
          · have h := (if_pos c9).symm.trans h
            refine lv_bipush (v := (-4 : Int32)) hx hb dCM_choose_452 (by decide) ?_
            refine lv_goto (tgt := 459) hx hb dCM_choose_454 (by decide) ?_
            exact hend _ _ _ _ _ _ (Option.some.inj h) hP hS dCM_choose_459
        · have h := (if_pos c10).symm.trans h
          refine lv_bipush (v := (-3 : Int32)) hx hb dCM_choose_442 (by decide) ?_
          refine lv_goto (tgt := 459) hx hb dCM_choose_444 (by decide) ?_
          exact hend _ _ _ _ _ _ (Option.some.inj h) hP hS dCM_choose_459
    · have h := (if_neg c23).symm.trans h
      refine lv_iconst (v := (0 : Int32)) hx hb dCM_choose_357 (by decide) ?_
      refine lv_istore (lv' := [(9, .int ((0 : Int32))), (0, .ref (ad 0)), (4, .int (x4)), (5, .int (x5)), (6, .int (x6)), (8, .int (x8))]) hx hb dCM_choose_358 hl (by decide) rfl (fun ls hl => ?_)
      exact wCM_choose_b360 C hK hend ih _ _ _ _ _ _ _ _ _ _ hP hD hS (lv_sub hl [1, 2, 3, 4, 5, 0] rfl) h
def fCM_choose_b338 (k288 : xSt → Int32 → Int32 → Int32 → Int32 → Option (Int32 × xSt)) (σ : xSt) (x4 : Int32) (x5 : Int32) (x6 : Int32) (x8 : Int32) (s1 : Int32) (s2 : Int32) : Option (Int32 × xSt) :=
  if s1 < 0 ∨ 60 ≤ s1.toNatClampNeg then none else
  nm (sI σ 17 s1.toNatClampNeg (vp_nar .boolean s2)) fun σ26 =>
  k288 σ26 x4 x5 x6 (x8 + (1 : Int32))
set_option maxHeartbeats 4000000 in
set_option maxRecDepth 100000 in
theorem wCM_choose_b338 {p : Program} {l : Launch} {e : Env} {s : State} {m : MethodId} {args : Array Value} {below : List Frame} {meth : Method} {c : Code} {Q : State → Prop} {dC : Nat → ClassId} {dI : Nat → Nat → Nat} {ad : Nat → Nat} {cA : Nat → ClassId} {r : (Int32 × xSt)} (C : CallFix p m c cCM_choose 10 s args wAll RCM) (hK : va_K (dC, dI) vwC (mT cA) s) (hend : ∀ (v : Int32) (σ : xSt) (H : Heap) (locs : List Loc) (pc : Nat) (ls : Array Slot), (v, σ) = r → va_P (dC, dI) vwC (mW ad cA σ) H → va_S (mA ad) s.heap H locs → decode cCM_choose pc = .ok (.ireturn, 1) → W p l e rm_CM_choose s m args below meth c H locs 0 0 Q (F0 m pc ls [.int v])) {k288 : xSt → Int32 → Int32 → Int32 → Int32 → Option (Int32 × xSt)} (hk288 : ∀ (σ : xSt) (H : Heap) (locs : List Loc) (x4 : Int32) (x5 : Int32) (x6 : Int32) (x8 : Int32) (ls : Array Slot), va_P (dC, dI) vwC (mW ad cA σ) H → va_D (mA ad) (mW ad cA σ) → va_S (mA ad) s.heap H locs → lv_has ls 10 [(0, .ref (ad 0)), (4, .int (x4)), (5, .int (x5)), (6, .int (x6)), (8, .int (x8))] → k288 σ x4 x5 x6 x8 = some r → W p l e rm_CM_choose s m args below meth c H locs 0 0 Q (F0 m 288 ls [])) :
    ∀ (σ : xSt) (H : Heap) (locs : List Loc) (x4 : Int32) (x5 : Int32) (x6 : Int32) (x8 : Int32) (s1 : Int32) (s2 : Int32) (ls : Array Slot), va_P (dC, dI) vwC (mW ad cA σ) H → va_D (mA ad) (mW ad cA σ) → va_S (mA ad) s.heap H locs → lv_has ls 10 [(0, .ref (ad 0)), (4, .int (x4)), (5, .int (x5)), (6, .int (x6)), (8, .int (x8))] → fCM_choose_b338 k288 σ x4 x5 x6 x8 s1 s2 = some r → W p l e rm_CM_choose s m args below meth c H locs 0 0 Q (F0 m 338 ls [.int (s2), .int (s1), .ref (ad 17)]) := by
  obtain ⟨hx, hb, hml, hown, hts⟩ := id C
  intro σ H locs x4 x5 x6 x8 s1 s2 ls hP hD hS hl h
  unfold fCM_choose_b338 at h
  obtain ⟨b25, h⟩ := gx_nb h
  refine va_zast hx hb hK hP hD hS 17 16 rfl rfl b25 dCM_choose_338 (fun H locs hP hD hS => ?_)
  obtain ⟨σ26, eσ26⟩ : ∃ z, z = sI σ 17 s1.toNatClampNeg (vp_nar .boolean s2) := ⟨_, rfl⟩
  have hP : va_P (dC, dI) vwC (mW ad cA σ26) H := by rw [eσ26]; exact hP
  have hD : va_D (mA ad) (mW ad cA σ26) := by rw [eσ26]; exact hD
  have h := nm_at eσ26 h
  refine lv_iinc (v := x8 + (1 : Int32)) (lv' := [(8, .int (x8 + (1 : Int32))), (0, .ref (ad 0)), (4, .int (x4)), (5, .int (x5)), (6, .int (x6))]) hx hb dCM_choose_339 hl (k := 4) rfl rfl (by decide) rfl (fun ls hl => ?_)
  refine lv_goto (tgt := 288) hx hb dCM_choose_342 (by decide) ?_
  exact hk288 _ _ _ _ _ _ _ _ hP hD hS (lv_sub hl [1, 2, 3, 4, 0] rfl) h
def fCM_choose_b337 (k288 : xSt → Int32 → Int32 → Int32 → Int32 → Option (Int32 × xSt)) (σ : xSt) (x4 : Int32) (x5 : Int32) (x6 : Int32) (x8 : Int32) (s1 : Int32) : Option (Int32 × xSt) :=
  fCM_choose_b338 k288 σ x4 x5 x6 x8 s1 (0 : Int32)
set_option maxHeartbeats 4000000 in
set_option maxRecDepth 100000 in
theorem wCM_choose_b337 {p : Program} {l : Launch} {e : Env} {s : State} {m : MethodId} {args : Array Value} {below : List Frame} {meth : Method} {c : Code} {Q : State → Prop} {dC : Nat → ClassId} {dI : Nat → Nat → Nat} {ad : Nat → Nat} {cA : Nat → ClassId} {r : (Int32 × xSt)} (C : CallFix p m c cCM_choose 10 s args wAll RCM) (hK : va_K (dC, dI) vwC (mT cA) s) (hend : ∀ (v : Int32) (σ : xSt) (H : Heap) (locs : List Loc) (pc : Nat) (ls : Array Slot), (v, σ) = r → va_P (dC, dI) vwC (mW ad cA σ) H → va_S (mA ad) s.heap H locs → decode cCM_choose pc = .ok (.ireturn, 1) → W p l e rm_CM_choose s m args below meth c H locs 0 0 Q (F0 m pc ls [.int v])) {k288 : xSt → Int32 → Int32 → Int32 → Int32 → Option (Int32 × xSt)} (hk288 : ∀ (σ : xSt) (H : Heap) (locs : List Loc) (x4 : Int32) (x5 : Int32) (x6 : Int32) (x8 : Int32) (ls : Array Slot), va_P (dC, dI) vwC (mW ad cA σ) H → va_D (mA ad) (mW ad cA σ) → va_S (mA ad) s.heap H locs → lv_has ls 10 [(0, .ref (ad 0)), (4, .int (x4)), (5, .int (x5)), (6, .int (x6)), (8, .int (x8))] → k288 σ x4 x5 x6 x8 = some r → W p l e rm_CM_choose s m args below meth c H locs 0 0 Q (F0 m 288 ls [])) :
    ∀ (σ : xSt) (H : Heap) (locs : List Loc) (x4 : Int32) (x5 : Int32) (x6 : Int32) (x8 : Int32) (s1 : Int32) (ls : Array Slot), va_P (dC, dI) vwC (mW ad cA σ) H → va_D (mA ad) (mW ad cA σ) → va_S (mA ad) s.heap H locs → lv_has ls 10 [(0, .ref (ad 0)), (4, .int (x4)), (5, .int (x5)), (6, .int (x6)), (8, .int (x8))] → fCM_choose_b337 k288 σ x4 x5 x6 x8 s1 = some r → W p l e rm_CM_choose s m args below meth c H locs 0 0 Q (F0 m 337 ls [.int (s1), .ref (ad 17)]) := by
  obtain ⟨hx, hb, hml, hown, hts⟩ := id C
  intro σ H locs x4 x5 x6 x8 s1 ls hP hD hS hl h
  unfold fCM_choose_b337 at h
  refine lv_iconst (v := (0 : Int32)) hx hb dCM_choose_337 (by decide) ?_
  exact wCM_choose_b338 C hK hend hk288 _ _ _ _ _ _ _ _ _ _ hP hD hS (lv_sub hl [0, 1, 2, 3, 4] rfl) h
def fCM_choose_b288 : Nat → xSt → Int32 → Int32 → Int32 → Int32 → Option (Int32 × xSt)
  | 0, _, _, _, _, _ => none
  | n + 1, σ, x4, x5, x6, x8 =>
    if (σ.1 0 6) ≤ x8 then
      fCM_choose_b348 gF σ x4 x5 x6 (0 : Int32)
    else
      if x8 < 0 ∨ 60 ≤ x8.toNatClampNeg then none else
      if (σ.1 17 x8.toNatClampNeg) = 0 then
        fCM_choose_b337 (fCM_choose_b288 n) σ x4 x5 x6 x8 x8
      else
        if (σ.1 0 19) ≤ 0 then
          fCM_choose_b337 (fCM_choose_b288 n) σ x4 x5 x6 x8 x8
        else
          gx_b2 (fCM_doesApply σ x8 (σ.1 0 19)) fun v27 σ28 =>
          if v27 = 0 then
            fCM_choose_b337 (fCM_choose_b288 n) σ28 x4 x5 x6 x8 x8
          else
            fCM_choose_b338 (fCM_choose_b288 n) σ28 x4 x5 x6 x8 x8 (1 : Int32)
set_option maxHeartbeats 4000000 in
set_option maxRecDepth 100000 in
theorem wCM_choose_b288 {p : Program} {l : Launch} {e : Env} {s : State} {m : MethodId} {args : Array Value} {below : List Frame} {meth : Method} {c : Code} {Q : State → Prop} {dC : Nat → ClassId} {dI : Nat → Nat → Nat} {ad : Nat → Nat} {cA : Nat → ClassId} {r : (Int32 × xSt)} (C : CallFix p m c cCM_choose 10 s args wAll RCM) (hK : va_K (dC, dI) vwC (mT cA) s) (hend : ∀ (v : Int32) (σ : xSt) (H : Heap) (locs : List Loc) (pc : Nat) (ls : Array Slot), (v, σ) = r → va_P (dC, dI) vwC (mW ad cA σ) H → va_S (mA ad) s.heap H locs → decode cCM_choose pc = .ok (.ireturn, 1) → W p l e rm_CM_choose s m args below meth c H locs 0 0 Q (F0 m pc ls [.int v])) :
    ∀ (n : Nat) (σ : xSt) (H : Heap) (locs : List Loc) (x4 : Int32) (x5 : Int32) (x6 : Int32) (x8 : Int32) (ls : Array Slot), va_P (dC, dI) vwC (mW ad cA σ) H → va_D (mA ad) (mW ad cA σ) → va_S (mA ad) s.heap H locs → lv_has ls 10 [(0, .ref (ad 0)), (4, .int (x4)), (5, .int (x5)), (6, .int (x6)), (8, .int (x8))] → fCM_choose_b288 n σ x4 x5 x6 x8 = some r → W p l e rm_CM_choose s m args below meth c H locs 0 0 Q (F0 m 288 ls []) := by
  obtain ⟨hx, hb, hml, hown, hts⟩ := id C
  intro n
  induction n with
  | zero =>
    intro σ H locs x4 x5 x6 x8 ls hP hD hS hl h
    rw [fCM_choose_b288] at h
    cases h
  | succ n ih =>
    intro σ H locs x4 x5 x6 x8 ls hP hD hS hl h
    rw [fCM_choose_b288] at h
    refine lv_iload hx hb dCM_choose_288 (lv_at hl 4 rfl) ?_
    refine lv_aload_n hx hb dCM_choose_290 rfl (lv_at hl 0 rfl) ?_
    refine va_get (D := (dC, dI)) (ci := 5) (v := .int (σ.1 0 6)) (C := RCM) (T := TCM) (N := 23) hx hb hts inCM hown hK hP 0 rfl rfl 6 (by decide) (hts _ mw_401) (fun _ h9 => h9) rfl dCM_choose_291 ?_
    refine lv_icmp_ge (tgt := 345) hx hb dCM_choose_294 (by decide) (fun c33 => ?_) (fun c33 => ?_)
    · have h := (if_pos c33).symm.trans h
      refine lv_iconst (v := (0 : Int32)) hx hb dCM_choose_345 (by decide) ?_
      refine lv_istore (lv' := [(8, .int ((0 : Int32))), (0, .ref (ad 0)), (4, .int (x4)), (5, .int (x5)), (6, .int (x6))]) hx hb dCM_choose_346 hl (by decide) rfl (fun ls hl => ?_)
      exact wCM_choose_b348 C hK hend _ _ _ _ _ _ _ _ _ hP hD hS (lv_sub hl [1, 2, 3, 4, 0] rfl) h
    · have h := (if_neg c33).symm.trans h
      refine lv_aload_n hx hb dCM_choose_297 rfl (lv_at hl 0 rfl) ?_
      refine va_get (D := (dC, dI)) (ci := 5) (v := .ref (ad 17)) (C := RCM) (T := TCM) (N := 23) hx hb hts inCM hown hK hP 0 rfl rfl 20 (by decide) (hts _ mw_449) (fun _ h9 => h9) rfl dCM_choose_298 ?_
      refine lv_iload hx hb dCM_choose_301 (lv_at hl 4 rfl) ?_
      refine lv_aload_n hx hb dCM_choose_303 rfl (lv_at hl 0 rfl) ?_
      refine va_get (D := (dC, dI)) (ci := 5) (v := .ref (ad 17)) (C := RCM) (T := TCM) (N := 23) hx hb hts inCM hown hK hP 0 rfl rfl 20 (by decide) (hts _ mw_449) (fun _ h9 => h9) rfl dCM_choose_304 ?_
      refine lv_iload hx hb dCM_choose_307 (lv_at hl 4 rfl) ?_
      obtain ⟨b24, h⟩ := gx_nb h
      refine va_zald hx hb hK hP 17 16 rfl rfl b24 dCM_choose_309 ?_
      refine lv_if_eq (tgt := 337) hx hb dCM_choose_310 (by decide) (fun c32 => ?_) (fun c32 => ?_)
      · have h := (if_pos c32).symm.trans h
        exact wCM_choose_b337 C hK hend ih _ _ _ _ _ _ _ _ _ hP hD hS (lv_sub hl [0, 1, 2, 3, 4] rfl) h
      · have h := (if_neg c32).symm.trans h
        refine lv_aload_n hx hb dCM_choose_313 rfl (lv_at hl 0 rfl) ?_
        refine va_get (D := (dC, dI)) (ci := 5) (v := .int (σ.1 0 19)) (C := RCM) (T := TCM) (N := 23) hx hb hts inCM hown hK hP 0 rfl rfl 19 (by decide) (hts _ mw_448) (fun _ h9 => h9) rfl dCM_choose_314 ?_
        refine lv_if_le (tgt := 337) hx hb dCM_choose_317 (by decide) (fun c31 => ?_) (fun c31 => ?_)
        · have h := (if_pos c31).symm.trans h
          exact wCM_choose_b337 C hK hend ih _ _ _ _ _ _ _ _ _ hP hD hS (lv_sub hl [0, 1, 2, 3, 4] rfl) h
        · have h := (if_neg c31).symm.trans h
          refine lv_aload_n hx hb dCM_choose_320 rfl (lv_at hl 0 rfl) ?_
          refine lv_iload hx hb dCM_choose_321 (lv_at hl 4 rfl) ?_
          refine lv_aload_n hx hb dCM_choose_323 rfl (lv_at hl 0 rfl) ?_
          refine va_get (D := (dC, dI)) (ci := 5) (v := .int (σ.1 0 19)) (C := RCM) (T := TCM) (N := 23) hx hb hts inCM hown hK hP 0 rfl rfl 19 (by decide) (hts _ mw_448) (fun _ h9 => h9) rfl dCM_choose_324 ?_
          obtain ⟨v27, σ28, ez29, h⟩ := gx_b2_at h
          refine gcall_i (wd := mW ad cA) (b := ad 0) (As := [.int (x8), .int (σ.1 0 19)]) (rest := [.int (x8), .ref (ad 17)]) mkeys C hK hP hD hS (ci := 5) (q0 := 0) rfl rfl (kCM_doesApply l dC dI ad cA σ x8 (σ.1 0 19) (v27, σ28) ez29) (cwV 2 hts (gw mw_479 mw_480 mw_481 mw_363 mw_482) rfl rfl rfl hdCM_doesApply ⟨Nat.le_of_ble_eq_true rfl, Nat.le_of_ble_eq_true rfl⟩) rfl hl.1 rfl (Nat.le_of_ble_eq_true rfl) dCM_choose_327 ⟨Nat.le_refl _, Nat.le_refl _⟩ (fun H locs hP hD hS => ?_)
          refine lv_if_eq (tgt := 337) hx hb dCM_choose_330 (by decide) (fun c30 => ?_) (fun c30 => ?_)
          · have h := (if_pos c30).symm.trans h
            exact wCM_choose_b337 C hK hend ih _ _ _ _ _ _ _ _ _ hP hD hS (lv_sub hl [0, 1, 2, 3, 4] rfl) h
          · have h := (if_neg c30).symm.trans h
            refine lv_iconst (v := (1 : Int32)) hx hb dCM_choose_333 (by decide) ?_
            refine lv_goto (tgt := 338) hx hb dCM_choose_334 (by decide) ?_
            exact wCM_choose_b338 C hK hend ih _ _ _ _ _ _ _ _ _ _ hP hD hS (lv_sub hl [0, 1, 2, 3, 4] rfl) h
def fCM_choose_b285 (σ : xSt) (x4 : Int32) (x5 : Int32) (x6 : Int32) : Option (Int32 × xSt) :=
  fCM_choose_b288 gF σ x4 x5 x6 (0 : Int32)
set_option maxHeartbeats 4000000 in
set_option maxRecDepth 100000 in
theorem wCM_choose_b285 {p : Program} {l : Launch} {e : Env} {s : State} {m : MethodId} {args : Array Value} {below : List Frame} {meth : Method} {c : Code} {Q : State → Prop} {dC : Nat → ClassId} {dI : Nat → Nat → Nat} {ad : Nat → Nat} {cA : Nat → ClassId} {r : (Int32 × xSt)} (C : CallFix p m c cCM_choose 10 s args wAll RCM) (hK : va_K (dC, dI) vwC (mT cA) s) (hend : ∀ (v : Int32) (σ : xSt) (H : Heap) (locs : List Loc) (pc : Nat) (ls : Array Slot), (v, σ) = r → va_P (dC, dI) vwC (mW ad cA σ) H → va_S (mA ad) s.heap H locs → decode cCM_choose pc = .ok (.ireturn, 1) → W p l e rm_CM_choose s m args below meth c H locs 0 0 Q (F0 m pc ls [.int v])) :
    ∀ (σ : xSt) (H : Heap) (locs : List Loc) (x4 : Int32) (x5 : Int32) (x6 : Int32) (ls : Array Slot), va_P (dC, dI) vwC (mW ad cA σ) H → va_D (mA ad) (mW ad cA σ) → va_S (mA ad) s.heap H locs → lv_has ls 10 [(0, .ref (ad 0)), (4, .int (x4)), (5, .int (x5)), (6, .int (x6))] → fCM_choose_b285 σ x4 x5 x6 = some r → W p l e rm_CM_choose s m args below meth c H locs 0 0 Q (F0 m 285 ls []) := by
  obtain ⟨hx, hb, hml, hown, hts⟩ := id C
  intro σ H locs x4 x5 x6 ls hP hD hS hl h
  unfold fCM_choose_b285 at h
  refine lv_iconst (v := (0 : Int32)) hx hb dCM_choose_285 (by decide) ?_
  refine lv_istore (lv' := [(8, .int ((0 : Int32))), (0, .ref (ad 0)), (4, .int (x4)), (5, .int (x5)), (6, .int (x6))]) hx hb dCM_choose_286 hl (by decide) rfl (fun ls hl => ?_)
  exact wCM_choose_b288 C hK hend _ _ _ _ _ _ _ _ _ hP hD hS (lv_sub hl [1, 2, 3, 4, 0] rfl) h
def fCM_choose_b276 (k195 : xSt → Int32 → Int32 → Int32 → Int32 → Int32 → Option (Int32 × xSt)) (σ : xSt) (x4 : Int32) (x5 : Int32) (x6 : Int32) (x7 : Int32) (x8 : Int32) (s1 : Int32) : Option (Int32 × xSt) :=
  nm (sI σ 0 19 s1) fun σ34 =>
  k195 σ34 x4 x5 x6 x7 (x8 + (1 : Int32))
set_option maxHeartbeats 4000000 in
set_option maxRecDepth 100000 in
theorem wCM_choose_b276 {p : Program} {l : Launch} {e : Env} {s : State} {m : MethodId} {args : Array Value} {below : List Frame} {meth : Method} {c : Code} {Q : State → Prop} {dC : Nat → ClassId} {dI : Nat → Nat → Nat} {ad : Nat → Nat} {cA : Nat → ClassId} {r : (Int32 × xSt)} (C : CallFix p m c cCM_choose 10 s args wAll RCM) (hK : va_K (dC, dI) vwC (mT cA) s) (hend : ∀ (v : Int32) (σ : xSt) (H : Heap) (locs : List Loc) (pc : Nat) (ls : Array Slot), (v, σ) = r → va_P (dC, dI) vwC (mW ad cA σ) H → va_S (mA ad) s.heap H locs → decode cCM_choose pc = .ok (.ireturn, 1) → W p l e rm_CM_choose s m args below meth c H locs 0 0 Q (F0 m pc ls [.int v])) {k195 : xSt → Int32 → Int32 → Int32 → Int32 → Int32 → Option (Int32 × xSt)} (hk195 : ∀ (σ : xSt) (H : Heap) (locs : List Loc) (x4 : Int32) (x5 : Int32) (x6 : Int32) (x7 : Int32) (x8 : Int32) (ls : Array Slot), va_P (dC, dI) vwC (mW ad cA σ) H → va_D (mA ad) (mW ad cA σ) → va_S (mA ad) s.heap H locs → lv_has ls 10 [(0, .ref (ad 0)), (4, .int (x4)), (5, .int (x5)), (6, .int (x6)), (7, .int (x7)), (8, .int (x8))] → k195 σ x4 x5 x6 x7 x8 = some r → W p l e rm_CM_choose s m args below meth c H locs 0 0 Q (F0 m 195 ls [])) :
    ∀ (σ : xSt) (H : Heap) (locs : List Loc) (x4 : Int32) (x5 : Int32) (x6 : Int32) (x7 : Int32) (x8 : Int32) (s1 : Int32) (ls : Array Slot), va_P (dC, dI) vwC (mW ad cA σ) H → va_D (mA ad) (mW ad cA σ) → va_S (mA ad) s.heap H locs → lv_has ls 10 [(0, .ref (ad 0)), (4, .int (x4)), (5, .int (x5)), (6, .int (x6)), (7, .int (x7)), (8, .int (x8))] → fCM_choose_b276 k195 σ x4 x5 x6 x7 x8 s1 = some r → W p l e rm_CM_choose s m args below meth c H locs 0 0 Q (F0 m 276 ls [.int (s1), .ref (ad 0)]) := by
  obtain ⟨hx, hb, hml, hown, hts⟩ := id C
  intro σ H locs x4 x5 x6 x7 x8 s1 ls hP hD hS hl h
  unfold fCM_choose_b276 at h
  refine va_put (D := (dC, dI)) (ci := 5) (v := .int (s1)) (ty := .int) (C := RCM) (T := TCM) (N := 23) hx hb hts inCM tyCM tyCM_ok nnCM hown hK hP hD hS 0 rfl rfl 19 (by decide) (hts _ mw_448) (fun _ h9 => h9) rfl (by decide +kernel) rfl rfl (Nat.le_of_ble_eq_true rfl) dCM_choose_276 (fun H locs hP hD hS => ?_)
  obtain ⟨σ34, eσ34⟩ : ∃ z, z = sI σ 0 19 s1 := ⟨_, rfl⟩
  have hP : va_P (dC, dI) vwC (mW ad cA σ34) H := by rw [eσ34]; exact hP
  have hD : va_D (mA ad) (mW ad cA σ34) := by rw [eσ34]; exact hD
  have h := nm_at eσ34 h
  refine lv_iinc (v := x8 + (1 : Int32)) (lv' := [(8, .int (x8 + (1 : Int32))), (0, .ref (ad 0)), (4, .int (x4)), (5, .int (x5)), (6, .int (x6)), (7, .int (x7))]) hx hb dCM_choose_279 hl (k := 5) rfl rfl (by decide) rfl (fun ls hl => ?_)
  refine lv_goto (tgt := 195) hx hb dCM_choose_282 (by decide) ?_
  exact hk195 _ _ _ _ _ _ _ _ _ hP hD hS (lv_sub hl [1, 2, 3, 4, 5, 0] rfl) h
def fCM_choose_b256 (k195 : xSt → Int32 → Int32 → Int32 → Int32 → Int32 → Option (Int32 × xSt)) (k214 : xSt → Int32 → Int32 → Int32 → Int32 → Int32 → Int32 → Option (Int32 × xSt)) (σ : xSt) (x4 : Int32) (x5 : Int32) (x6 : Int32) (x8 : Int32) (x9 : Int32) (s0 : Int32) : Option (Int32 × xSt) :=
  k214 σ x4 x5 x6 s0 x8 (x9 + (1 : Int32))
set_option maxHeartbeats 4000000 in
set_option maxRecDepth 100000 in
theorem wCM_choose_b256 {p : Program} {l : Launch} {e : Env} {s : State} {m : MethodId} {args : Array Value} {below : List Frame} {meth : Method} {c : Code} {Q : State → Prop} {dC : Nat → ClassId} {dI : Nat → Nat → Nat} {ad : Nat → Nat} {cA : Nat → ClassId} {r : (Int32 × xSt)} (C : CallFix p m c cCM_choose 10 s args wAll RCM) (hK : va_K (dC, dI) vwC (mT cA) s) (hend : ∀ (v : Int32) (σ : xSt) (H : Heap) (locs : List Loc) (pc : Nat) (ls : Array Slot), (v, σ) = r → va_P (dC, dI) vwC (mW ad cA σ) H → va_S (mA ad) s.heap H locs → decode cCM_choose pc = .ok (.ireturn, 1) → W p l e rm_CM_choose s m args below meth c H locs 0 0 Q (F0 m pc ls [.int v])) {k195 : xSt → Int32 → Int32 → Int32 → Int32 → Int32 → Option (Int32 × xSt)} {k214 : xSt → Int32 → Int32 → Int32 → Int32 → Int32 → Int32 → Option (Int32 × xSt)} (hk195 : ∀ (σ : xSt) (H : Heap) (locs : List Loc) (x4 : Int32) (x5 : Int32) (x6 : Int32) (x7 : Int32) (x8 : Int32) (ls : Array Slot), va_P (dC, dI) vwC (mW ad cA σ) H → va_D (mA ad) (mW ad cA σ) → va_S (mA ad) s.heap H locs → lv_has ls 10 [(0, .ref (ad 0)), (4, .int (x4)), (5, .int (x5)), (6, .int (x6)), (7, .int (x7)), (8, .int (x8))] → k195 σ x4 x5 x6 x7 x8 = some r → W p l e rm_CM_choose s m args below meth c H locs 0 0 Q (F0 m 195 ls [])) (hk214 : ∀ (σ : xSt) (H : Heap) (locs : List Loc) (x4 : Int32) (x5 : Int32) (x6 : Int32) (x7 : Int32) (x8 : Int32) (x9 : Int32) (ls : Array Slot), va_P (dC, dI) vwC (mW ad cA σ) H → va_D (mA ad) (mW ad cA σ) → va_S (mA ad) s.heap H locs → lv_has ls 10 [(0, .ref (ad 0)), (4, .int (x4)), (5, .int (x5)), (6, .int (x6)), (7, .int (x7)), (8, .int (x8)), (9, .int (x9))] → k214 σ x4 x5 x6 x7 x8 x9 = some r → W p l e rm_CM_choose s m args below meth c H locs 0 0 Q (F0 m 214 ls [])) :
    ∀ (σ : xSt) (H : Heap) (locs : List Loc) (x4 : Int32) (x5 : Int32) (x6 : Int32) (x8 : Int32) (x9 : Int32) (s0 : Int32) (ls : Array Slot), va_P (dC, dI) vwC (mW ad cA σ) H → va_D (mA ad) (mW ad cA σ) → va_S (mA ad) s.heap H locs → lv_has ls 10 [(0, .ref (ad 0)), (4, .int (x4)), (5, .int (x5)), (6, .int (x6)), (8, .int (x8)), (9, .int (x9))] → fCM_choose_b256 k195 k214 σ x4 x5 x6 x8 x9 s0 = some r → W p l e rm_CM_choose s m args below meth c H locs 0 0 Q (F0 m 256 ls [.int (s0)]) := by
  obtain ⟨hx, hb, hml, hown, hts⟩ := id C
  intro σ H locs x4 x5 x6 x8 x9 s0 ls hP hD hS hl h
  unfold fCM_choose_b256 at h
  refine lv_istore (lv' := [(7, .int (s0)), (0, .ref (ad 0)), (4, .int (x4)), (5, .int (x5)), (6, .int (x6)), (8, .int (x8)), (9, .int (x9))]) hx hb dCM_choose_256 hl (by decide) rfl (fun ls hl => ?_)
  refine lv_iinc (v := x9 + (1 : Int32)) (lv' := [(9, .int (x9 + (1 : Int32))), (7, .int (s0)), (0, .ref (ad 0)), (4, .int (x4)), (5, .int (x5)), (6, .int (x6)), (8, .int (x8))]) hx hb dCM_choose_258 hl (k := 6) rfl rfl (by decide) rfl (fun ls hl => ?_)
  refine lv_goto (tgt := 214) hx hb dCM_choose_261 (by decide) ?_
  exact hk214 _ _ _ _ _ _ _ _ _ _ hP hD hS (lv_sub hl [2, 3, 4, 5, 1, 6, 0] rfl) h
def fCM_choose_b254 (k195 : xSt → Int32 → Int32 → Int32 → Int32 → Int32 → Option (Int32 × xSt)) (k214 : xSt → Int32 → Int32 → Int32 → Int32 → Int32 → Int32 → Option (Int32 × xSt)) (σ : xSt) (x4 : Int32) (x5 : Int32) (x6 : Int32) (x7 : Int32) (x8 : Int32) (x9 : Int32) : Option (Int32 × xSt) :=
  fCM_choose_b256 k195 k214 σ x4 x5 x6 x8 x9 x7
set_option maxHeartbeats 4000000 in
set_option maxRecDepth 100000 in
theorem wCM_choose_b254 {p : Program} {l : Launch} {e : Env} {s : State} {m : MethodId} {args : Array Value} {below : List Frame} {meth : Method} {c : Code} {Q : State → Prop} {dC : Nat → ClassId} {dI : Nat → Nat → Nat} {ad : Nat → Nat} {cA : Nat → ClassId} {r : (Int32 × xSt)} (C : CallFix p m c cCM_choose 10 s args wAll RCM) (hK : va_K (dC, dI) vwC (mT cA) s) (hend : ∀ (v : Int32) (σ : xSt) (H : Heap) (locs : List Loc) (pc : Nat) (ls : Array Slot), (v, σ) = r → va_P (dC, dI) vwC (mW ad cA σ) H → va_S (mA ad) s.heap H locs → decode cCM_choose pc = .ok (.ireturn, 1) → W p l e rm_CM_choose s m args below meth c H locs 0 0 Q (F0 m pc ls [.int v])) {k195 : xSt → Int32 → Int32 → Int32 → Int32 → Int32 → Option (Int32 × xSt)} {k214 : xSt → Int32 → Int32 → Int32 → Int32 → Int32 → Int32 → Option (Int32 × xSt)} (hk195 : ∀ (σ : xSt) (H : Heap) (locs : List Loc) (x4 : Int32) (x5 : Int32) (x6 : Int32) (x7 : Int32) (x8 : Int32) (ls : Array Slot), va_P (dC, dI) vwC (mW ad cA σ) H → va_D (mA ad) (mW ad cA σ) → va_S (mA ad) s.heap H locs → lv_has ls 10 [(0, .ref (ad 0)), (4, .int (x4)), (5, .int (x5)), (6, .int (x6)), (7, .int (x7)), (8, .int (x8))] → k195 σ x4 x5 x6 x7 x8 = some r → W p l e rm_CM_choose s m args below meth c H locs 0 0 Q (F0 m 195 ls [])) (hk214 : ∀ (σ : xSt) (H : Heap) (locs : List Loc) (x4 : Int32) (x5 : Int32) (x6 : Int32) (x7 : Int32) (x8 : Int32) (x9 : Int32) (ls : Array Slot), va_P (dC, dI) vwC (mW ad cA σ) H → va_D (mA ad) (mW ad cA σ) → va_S (mA ad) s.heap H locs → lv_has ls 10 [(0, .ref (ad 0)), (4, .int (x4)), (5, .int (x5)), (6, .int (x6)), (7, .int (x7)), (8, .int (x8)), (9, .int (x9))] → k214 σ x4 x5 x6 x7 x8 x9 = some r → W p l e rm_CM_choose s m args below meth c H locs 0 0 Q (F0 m 214 ls [])) :
    ∀ (σ : xSt) (H : Heap) (locs : List Loc) (x4 : Int32) (x5 : Int32) (x6 : Int32) (x7 : Int32) (x8 : Int32) (x9 : Int32) (ls : Array Slot), va_P (dC, dI) vwC (mW ad cA σ) H → va_D (mA ad) (mW ad cA σ) → va_S (mA ad) s.heap H locs → lv_has ls 10 [(0, .ref (ad 0)), (4, .int (x4)), (5, .int (x5)), (6, .int (x6)), (7, .int (x7)), (8, .int (x8)), (9, .int (x9))] → fCM_choose_b254 k195 k214 σ x4 x5 x6 x7 x8 x9 = some r → W p l e rm_CM_choose s m args below meth c H locs 0 0 Q (F0 m 254 ls []) := by
  obtain ⟨hx, hb, hml, hown, hts⟩ := id C
  intro σ H locs x4 x5 x6 x7 x8 x9 ls hP hD hS hl h
  unfold fCM_choose_b254 at h
  refine lv_iload hx hb dCM_choose_254 (lv_at hl 4 rfl) ?_
  exact wCM_choose_b256 C hK hend hk195 hk214 _ _ _ _ _ _ _ _ _ _ hP hD hS (lv_sub hl [0, 1, 2, 3, 5, 6] rfl) h
def fCM_choose_b214 (k195 : xSt → Int32 → Int32 → Int32 → Int32 → Int32 → Option (Int32 × xSt)) : Nat → xSt → Int32 → Int32 → Int32 → Int32 → Int32 → Int32 → Option (Int32 × xSt)
  | 0, _, _, _, _, _, _, _ => none
  | n + 1, σ, x4, x5, x6, x7, x8, x9 =>
    if (σ.1 0 6) ≤ x9 then
      if 0 ≤ x7 then
        fCM_choose_b276 k195 σ x4 x5 x6 x7 x8 x8
      else
        fCM_choose_b276 k195 σ x4 x5 x6 x7 x8 (0 : Int32)
    else
      if 0 ≤ x7 then
        fCM_choose_b254 k195 (fCM_choose_b214 k195 n) σ x4 x5 x6 x7 x8 x9
      else
        if x9 < 0 ∨ 60 ≤ x9.toNatClampNeg then none else
        if (σ.1 17 x9.toNatClampNeg) = 0 then
          fCM_choose_b254 k195 (fCM_choose_b214 k195 n) σ x4 x5 x6 x7 x8 x9
        else
          gx_b2 (fCM_doesApply σ x9 x8) fun v37 σ38 =>
          if v37 = 0 then
            fCM_choose_b254 k195 (fCM_choose_b214 k195 n) σ38 x4 x5 x6 x7 x8 x9
          else
            fCM_choose_b256 k195 (fCM_choose_b214 k195 n) σ38 x4 x5 x6 x8 x9 x9
set_option maxHeartbeats 4000000 in
set_option maxRecDepth 100000 in
theorem wCM_choose_b214 {p : Program} {l : Launch} {e : Env} {s : State} {m : MethodId} {args : Array Value} {below : List Frame} {meth : Method} {c : Code} {Q : State → Prop} {dC : Nat → ClassId} {dI : Nat → Nat → Nat} {ad : Nat → Nat} {cA : Nat → ClassId} {r : (Int32 × xSt)} (C : CallFix p m c cCM_choose 10 s args wAll RCM) (hK : va_K (dC, dI) vwC (mT cA) s) (hend : ∀ (v : Int32) (σ : xSt) (H : Heap) (locs : List Loc) (pc : Nat) (ls : Array Slot), (v, σ) = r → va_P (dC, dI) vwC (mW ad cA σ) H → va_S (mA ad) s.heap H locs → decode cCM_choose pc = .ok (.ireturn, 1) → W p l e rm_CM_choose s m args below meth c H locs 0 0 Q (F0 m pc ls [.int v])) {k195 : xSt → Int32 → Int32 → Int32 → Int32 → Int32 → Option (Int32 × xSt)} (hk195 : ∀ (σ : xSt) (H : Heap) (locs : List Loc) (x4 : Int32) (x5 : Int32) (x6 : Int32) (x7 : Int32) (x8 : Int32) (ls : Array Slot), va_P (dC, dI) vwC (mW ad cA σ) H → va_D (mA ad) (mW ad cA σ) → va_S (mA ad) s.heap H locs → lv_has ls 10 [(0, .ref (ad 0)), (4, .int (x4)), (5, .int (x5)), (6, .int (x6)), (7, .int (x7)), (8, .int (x8))] → k195 σ x4 x5 x6 x7 x8 = some r → W p l e rm_CM_choose s m args below meth c H locs 0 0 Q (F0 m 195 ls [])) :
    ∀ (n : Nat) (σ : xSt) (H : Heap) (locs : List Loc) (x4 : Int32) (x5 : Int32) (x6 : Int32) (x7 : Int32) (x8 : Int32) (x9 : Int32) (ls : Array Slot), va_P (dC, dI) vwC (mW ad cA σ) H → va_D (mA ad) (mW ad cA σ) → va_S (mA ad) s.heap H locs → lv_has ls 10 [(0, .ref (ad 0)), (4, .int (x4)), (5, .int (x5)), (6, .int (x6)), (7, .int (x7)), (8, .int (x8)), (9, .int (x9))] → fCM_choose_b214 k195 n σ x4 x5 x6 x7 x8 x9 = some r → W p l e rm_CM_choose s m args below meth c H locs 0 0 Q (F0 m 214 ls []) := by
  obtain ⟨hx, hb, hml, hown, hts⟩ := id C
  intro n
  induction n with
  | zero =>
    intro σ H locs x4 x5 x6 x7 x8 x9 ls hP hD hS hl h
    rw [fCM_choose_b214] at h
    cases h
  | succ n ih =>
    intro σ H locs x4 x5 x6 x7 x8 x9 ls hP hD hS hl h
    rw [fCM_choose_b214] at h
    refine lv_iload hx hb dCM_choose_214 (lv_at hl 6 rfl) ?_
    refine lv_aload_n hx hb dCM_choose_216 rfl (lv_at hl 0 rfl) ?_
    refine va_get (D := (dC, dI)) (ci := 5) (v := .int (σ.1 0 6)) (C := RCM) (T := TCM) (N := 23) hx hb hts inCM hown hK hP 0 rfl rfl 6 (by decide) (hts _ mw_401) (fun _ h9 => h9) rfl dCM_choose_217 ?_
    refine lv_icmp_ge (tgt := 264) hx hb dCM_choose_220 (by decide) (fun c43 => ?_) (fun c43 => ?_)
    · have h := (if_pos c43).symm.trans h
      refine lv_aload_n hx hb dCM_choose_264 rfl (lv_at hl 0 rfl) ?_
      refine lv_iload hx hb dCM_choose_265 (lv_at hl 4 rfl) ?_
      refine lv_if_ge (tgt := 274) hx hb dCM_choose_267 (by decide) (fun c35 => ?_) (fun c35 => ?_)
      · have h := (if_pos c35).symm.trans h
        refine lv_iload hx hb dCM_choose_274 (lv_at hl 5 rfl) ?_
        exact wCM_choose_b276 C hK hend hk195 _ _ _ _ _ _ _ _ _ _ hP hD hS (lv_sub hl [0, 1, 2, 3, 4, 5] rfl) h
      · have h := (if_neg c35).symm.trans h
        refine lv_iconst (v := (0 : Int32)) hx hb dCM_choose_270 (by decide) ?_
        refine lv_goto (tgt := 276) hx hb dCM_choose_271 (by decide) ?_
        exact wCM_choose_b276 C hK hend hk195 _ _ _ _ _ _ _ _ _ _ hP hD hS (lv_sub hl [0, 1, 2, 3, 4, 5] rfl) h
    · have h := (if_neg c43).symm.trans h
      refine lv_iload hx hb dCM_choose_223 (lv_at hl 4 rfl) ?_
      refine lv_if_ge (tgt := 254) hx hb dCM_choose_225 (by decide) (fun c42 => ?_) (fun c42 => ?_)
      · have h := (if_pos c42).symm.trans h
        exact wCM_choose_b254 C hK hend hk195 ih _ _ _ _ _ _ _ _ _ _ hP hD hS (lv_sub hl [0, 1, 2, 3, 4, 5, 6] rfl) h
      · have h := (if_neg c42).symm.trans h
        refine lv_aload_n hx hb dCM_choose_228 rfl (lv_at hl 0 rfl) ?_
        refine va_get (D := (dC, dI)) (ci := 5) (v := .ref (ad 17)) (C := RCM) (T := TCM) (N := 23) hx hb hts inCM hown hK hP 0 rfl rfl 20 (by decide) (hts _ mw_449) (fun _ h9 => h9) rfl dCM_choose_229 ?_
        refine lv_iload hx hb dCM_choose_232 (lv_at hl 6 rfl) ?_
        obtain ⟨b36, h⟩ := gx_nb h
        refine va_zald hx hb hK hP 17 16 rfl rfl b36 dCM_choose_234 ?_
        refine lv_if_eq (tgt := 254) hx hb dCM_choose_235 (by decide) (fun c41 => ?_) (fun c41 => ?_)
        · have h := (if_pos c41).symm.trans h
          exact wCM_choose_b254 C hK hend hk195 ih _ _ _ _ _ _ _ _ _ _ hP hD hS (lv_sub hl [0, 1, 2, 3, 4, 5, 6] rfl) h
        · have h := (if_neg c41).symm.trans h
          refine lv_aload_n hx hb dCM_choose_238 rfl (lv_at hl 0 rfl) ?_
          refine lv_iload hx hb dCM_choose_239 (lv_at hl 6 rfl) ?_
          refine lv_iload hx hb dCM_choose_241 (lv_at hl 5 rfl) ?_
          obtain ⟨v37, σ38, ez39, h⟩ := gx_b2_at h
          refine gcall_i (wd := mW ad cA) (b := ad 0) (As := [.int (x9), .int (x8)]) (rest := []) mkeys C hK hP hD hS (ci := 5) (q0 := 0) rfl rfl (kCM_doesApply l dC dI ad cA σ x9 x8 (v37, σ38) ez39) (cwV 2 hts (gw mw_479 mw_480 mw_481 mw_363 mw_482) rfl rfl rfl hdCM_doesApply ⟨Nat.le_of_ble_eq_true rfl, Nat.le_of_ble_eq_true rfl⟩) rfl hl.1 rfl (Nat.le_of_ble_eq_true rfl) dCM_choose_243 ⟨Nat.le_refl _, Nat.le_refl _⟩ (fun H locs hP hD hS => ?_)
          refine lv_if_eq (tgt := 254) hx hb dCM_choose_246 (by decide) (fun c40 => ?_) (fun c40 => ?_)
          · have h := (if_pos c40).symm.trans h
            exact wCM_choose_b254 C hK hend hk195 ih _ _ _ _ _ _ _ _ _ _ hP hD hS (lv_sub hl [0, 1, 2, 3, 4, 5, 6] rfl) h
          · have h := (if_neg c40).symm.trans h
            refine lv_iload hx hb dCM_choose_249 (lv_at hl 6 rfl) ?_
            refine lv_goto (tgt := 256) hx hb dCM_choose_251 (by decide) ?_
            exact wCM_choose_b256 C hK hend hk195 ih _ _ _ _ _ _ _ _ _ _ hP hD hS (lv_sub hl [0, 1, 2, 3, 5, 6] rfl) h
def fCM_choose_b195 : Nat → xSt → Int32 → Int32 → Int32 → Int32 → Int32 → Option (Int32 × xSt)
  | 0, _, _, _, _, _, _ => none
  | n + 1, σ, x4, x5, x6, x7, x8 =>
    if (4 : Int32) ≤ x8 then
      fCM_choose_b285 σ x4 x5 x6
    else
      if x6 = 0 then
        fCM_choose_b285 σ x4 x5 x6
      else
        if 0 ≤ x7 then
          fCM_choose_b285 σ x4 x5 x6
        else
          fCM_choose_b214 (fCM_choose_b195 n) gF σ x4 x5 x6 x7 x8 (0 : Int32)
set_option maxHeartbeats 4000000 in
set_option maxRecDepth 100000 in
theorem wCM_choose_b195 {p : Program} {l : Launch} {e : Env} {s : State} {m : MethodId} {args : Array Value} {below : List Frame} {meth : Method} {c : Code} {Q : State → Prop} {dC : Nat → ClassId} {dI : Nat → Nat → Nat} {ad : Nat → Nat} {cA : Nat → ClassId} {r : (Int32 × xSt)} (C : CallFix p m c cCM_choose 10 s args wAll RCM) (hK : va_K (dC, dI) vwC (mT cA) s) (hend : ∀ (v : Int32) (σ : xSt) (H : Heap) (locs : List Loc) (pc : Nat) (ls : Array Slot), (v, σ) = r → va_P (dC, dI) vwC (mW ad cA σ) H → va_S (mA ad) s.heap H locs → decode cCM_choose pc = .ok (.ireturn, 1) → W p l e rm_CM_choose s m args below meth c H locs 0 0 Q (F0 m pc ls [.int v])) :
    ∀ (n : Nat) (σ : xSt) (H : Heap) (locs : List Loc) (x4 : Int32) (x5 : Int32) (x6 : Int32) (x7 : Int32) (x8 : Int32) (ls : Array Slot), va_P (dC, dI) vwC (mW ad cA σ) H → va_D (mA ad) (mW ad cA σ) → va_S (mA ad) s.heap H locs → lv_has ls 10 [(0, .ref (ad 0)), (4, .int (x4)), (5, .int (x5)), (6, .int (x6)), (7, .int (x7)), (8, .int (x8))] → fCM_choose_b195 n σ x4 x5 x6 x7 x8 = some r → W p l e rm_CM_choose s m args below meth c H locs 0 0 Q (F0 m 195 ls []) := by
  obtain ⟨hx, hb, hml, hown, hts⟩ := id C
  intro n
  induction n with
  | zero =>
    intro σ H locs x4 x5 x6 x7 x8 ls hP hD hS hl h
    rw [fCM_choose_b195] at h
    cases h
  | succ n ih =>
    intro σ H locs x4 x5 x6 x7 x8 ls hP hD hS hl h
    rw [fCM_choose_b195] at h
    refine lv_iload hx hb dCM_choose_195 (lv_at hl 5 rfl) ?_
    refine lv_iconst (v := (4 : Int32)) hx hb dCM_choose_197 (by decide) ?_
    refine lv_icmp_ge (tgt := 285) hx hb dCM_choose_198 (by decide) (fun c46 => ?_) (fun c46 => ?_)
    · have h := (if_pos c46).symm.trans h
      exact wCM_choose_b285 C hK hend _ _ _ _ _ _ _ hP hD hS (lv_sub hl [0, 1, 2, 3] rfl) h
    · have h := (if_neg c46).symm.trans h
      refine lv_iload hx hb dCM_choose_201 (lv_at hl 3 rfl) ?_
      refine lv_if_eq (tgt := 285) hx hb dCM_choose_203 (by decide) (fun c45 => ?_) (fun c45 => ?_)
      · have h := (if_pos c45).symm.trans h
        exact wCM_choose_b285 C hK hend _ _ _ _ _ _ _ hP hD hS (lv_sub hl [0, 1, 2, 3] rfl) h
      · have h := (if_neg c45).symm.trans h
        refine lv_iload hx hb dCM_choose_206 (lv_at hl 4 rfl) ?_
        refine lv_if_ge (tgt := 285) hx hb dCM_choose_208 (by decide) (fun c44 => ?_) (fun c44 => ?_)
        · have h := (if_pos c44).symm.trans h
          exact wCM_choose_b285 C hK hend _ _ _ _ _ _ _ hP hD hS (lv_sub hl [0, 1, 2, 3] rfl) h
        · have h := (if_neg c44).symm.trans h
          refine lv_iconst (v := (0 : Int32)) hx hb dCM_choose_211 (by decide) ?_
          refine lv_istore (lv' := [(9, .int ((0 : Int32))), (0, .ref (ad 0)), (4, .int (x4)), (5, .int (x5)), (6, .int (x6)), (7, .int (x7)), (8, .int (x8))]) hx hb dCM_choose_212 hl (by decide) rfl (fun ls hl => ?_)
          exact wCM_choose_b214 C hK hend ih _ _ _ _ _ _ _ _ _ _ _ hP hD hS (lv_sub hl [1, 2, 3, 4, 5, 6, 0] rfl) h
def fCM_choose_b168 : Nat → xSt → Int32 → Int32 → Int32 → Int32 → Option (Int32 × xSt)
  | 0, _, _, _, _, _ => none
  | n + 1, σ, x4, x5, x6, x7 =>
    if (60 : Int32) ≤ x7 then
      fCM_choose_b195 gF σ x4 x5 x6 (-1 : Int32) (1 : Int32)
    else
      if x7 < 0 ∨ 60 ≤ x7.toNatClampNeg then none else
      nm (sI σ 17 x7.toNatClampNeg (vp_nar .boolean (0 : Int32))) fun σ48 =>
      fCM_choose_b168 n σ48 x4 x5 x6 (x7 + (1 : Int32))
set_option maxHeartbeats 4000000 in
set_option maxRecDepth 100000 in
theorem wCM_choose_b168 {p : Program} {l : Launch} {e : Env} {s : State} {m : MethodId} {args : Array Value} {below : List Frame} {meth : Method} {c : Code} {Q : State → Prop} {dC : Nat → ClassId} {dI : Nat → Nat → Nat} {ad : Nat → Nat} {cA : Nat → ClassId} {r : (Int32 × xSt)} (C : CallFix p m c cCM_choose 10 s args wAll RCM) (hK : va_K (dC, dI) vwC (mT cA) s) (hend : ∀ (v : Int32) (σ : xSt) (H : Heap) (locs : List Loc) (pc : Nat) (ls : Array Slot), (v, σ) = r → va_P (dC, dI) vwC (mW ad cA σ) H → va_S (mA ad) s.heap H locs → decode cCM_choose pc = .ok (.ireturn, 1) → W p l e rm_CM_choose s m args below meth c H locs 0 0 Q (F0 m pc ls [.int v])) :
    ∀ (n : Nat) (σ : xSt) (H : Heap) (locs : List Loc) (x4 : Int32) (x5 : Int32) (x6 : Int32) (x7 : Int32) (ls : Array Slot), va_P (dC, dI) vwC (mW ad cA σ) H → va_D (mA ad) (mW ad cA σ) → va_S (mA ad) s.heap H locs → lv_has ls 10 [(0, .ref (ad 0)), (4, .int (x4)), (5, .int (x5)), (6, .int (x6)), (7, .int (x7))] → fCM_choose_b168 n σ x4 x5 x6 x7 = some r → W p l e rm_CM_choose s m args below meth c H locs 0 0 Q (F0 m 168 ls []) := by
  obtain ⟨hx, hb, hml, hown, hts⟩ := id C
  intro n
  induction n with
  | zero =>
    intro σ H locs x4 x5 x6 x7 ls hP hD hS hl h
    rw [fCM_choose_b168] at h
    cases h
  | succ n ih =>
    intro σ H locs x4 x5 x6 x7 ls hP hD hS hl h
    rw [fCM_choose_b168] at h
    refine lv_iload hx hb dCM_choose_168 (lv_at hl 4 rfl) ?_
    refine lv_bipush (v := (60 : Int32)) hx hb dCM_choose_170 (by decide) ?_
    refine lv_icmp_ge (tgt := 189) hx hb dCM_choose_172 (by decide) (fun c49 => ?_) (fun c49 => ?_)
    · have h := (if_pos c49).symm.trans h
      refine lv_iconst (v := (-1 : Int32)) hx hb dCM_choose_189 (by decide) ?_
      refine lv_istore (lv' := [(7, .int ((-1 : Int32))), (0, .ref (ad 0)), (4, .int (x4)), (5, .int (x5)), (6, .int (x6))]) hx hb dCM_choose_190 hl (by decide) rfl (fun ls hl => ?_)
      refine lv_iconst (v := (1 : Int32)) hx hb dCM_choose_192 (by decide) ?_
      refine lv_istore (lv' := [(8, .int ((1 : Int32))), (7, .int ((-1 : Int32))), (0, .ref (ad 0)), (4, .int (x4)), (5, .int (x5)), (6, .int (x6))]) hx hb dCM_choose_193 hl (by decide) rfl (fun ls hl => ?_)
      exact wCM_choose_b195 C hK hend _ _ _ _ _ _ _ _ _ _ hP hD hS (lv_sub hl [2, 3, 4, 5, 1, 0] rfl) h
    · have h := (if_neg c49).symm.trans h
      refine lv_aload_n hx hb dCM_choose_175 rfl (lv_at hl 0 rfl) ?_
      refine va_get (D := (dC, dI)) (ci := 5) (v := .ref (ad 17)) (C := RCM) (T := TCM) (N := 23) hx hb hts inCM hown hK hP 0 rfl rfl 20 (by decide) (hts _ mw_449) (fun _ h9 => h9) rfl dCM_choose_176 ?_
      refine lv_iload hx hb dCM_choose_179 (lv_at hl 4 rfl) ?_
      refine lv_iconst (v := (0 : Int32)) hx hb dCM_choose_181 (by decide) ?_
      obtain ⟨b47, h⟩ := gx_nb h
      refine va_zast hx hb hK hP hD hS 17 16 rfl rfl b47 dCM_choose_182 (fun H locs hP hD hS => ?_)
      obtain ⟨σ48, eσ48⟩ : ∃ z, z = sI σ 17 x7.toNatClampNeg (vp_nar .boolean (0 : Int32)) := ⟨_, rfl⟩
      have hP : va_P (dC, dI) vwC (mW ad cA σ48) H := by rw [eσ48]; exact hP
      have hD : va_D (mA ad) (mW ad cA σ48) := by rw [eσ48]; exact hD
      have h := nm_at eσ48 h
      refine lv_iinc (v := x7 + (1 : Int32)) (lv' := [(7, .int (x7 + (1 : Int32))), (0, .ref (ad 0)), (4, .int (x4)), (5, .int (x5)), (6, .int (x6))]) hx hb dCM_choose_183 hl (k := 4) rfl rfl (by decide) rfl (fun ls hl => ?_)
      refine lv_goto (tgt := 168) hx hb dCM_choose_186 (by decide) ?_
      exact ih _ _ _ _ _ _ _ _ hP hD hS (lv_sub hl [1, 2, 3, 4, 0] rfl) h
def fCM_choose_b154 (k38 : xSt → Int32 → Int32 → Int32 → Int32 → Int32 → Int32 → Int32 → Option (Int32 × xSt)) (σ : xSt) (x1 : Int32) (x2 : Int32) (x3 : Int32) (x4 : Int32) (x5 : Int32) (x7 : Int32) (s0 : Int32) : Option (Int32 × xSt) :=
  k38 σ x1 x2 x3 x4 x5 s0 (x7 + (1 : Int32))
set_option maxHeartbeats 4000000 in
set_option maxRecDepth 100000 in
theorem wCM_choose_b154 {p : Program} {l : Launch} {e : Env} {s : State} {m : MethodId} {args : Array Value} {below : List Frame} {meth : Method} {c : Code} {Q : State → Prop} {dC : Nat → ClassId} {dI : Nat → Nat → Nat} {ad : Nat → Nat} {cA : Nat → ClassId} {r : (Int32 × xSt)} (C : CallFix p m c cCM_choose 10 s args wAll RCM) (hK : va_K (dC, dI) vwC (mT cA) s) (hend : ∀ (v : Int32) (σ : xSt) (H : Heap) (locs : List Loc) (pc : Nat) (ls : Array Slot), (v, σ) = r → va_P (dC, dI) vwC (mW ad cA σ) H → va_S (mA ad) s.heap H locs → decode cCM_choose pc = .ok (.ireturn, 1) → W p l e rm_CM_choose s m args below meth c H locs 0 0 Q (F0 m pc ls [.int v])) {k38 : xSt → Int32 → Int32 → Int32 → Int32 → Int32 → Int32 → Int32 → Option (Int32 × xSt)} (hk38 : ∀ (σ : xSt) (H : Heap) (locs : List Loc) (x1 : Int32) (x2 : Int32) (x3 : Int32) (x4 : Int32) (x5 : Int32) (x6 : Int32) (x7 : Int32) (ls : Array Slot), va_P (dC, dI) vwC (mW ad cA σ) H → va_D (mA ad) (mW ad cA σ) → va_S (mA ad) s.heap H locs → lv_has ls 10 [(0, .ref (ad 0)), (1, .int (x1)), (2, .int (x2)), (3, .int (x3)), (4, .int (x4)), (5, .int (x5)), (6, .int (x6)), (7, .int (x7))] → k38 σ x1 x2 x3 x4 x5 x6 x7 = some r → W p l e rm_CM_choose s m args below meth c H locs 0 0 Q (F0 m 38 ls [])) :
    ∀ (σ : xSt) (H : Heap) (locs : List Loc) (x1 : Int32) (x2 : Int32) (x3 : Int32) (x4 : Int32) (x5 : Int32) (x7 : Int32) (s0 : Int32) (ls : Array Slot), va_P (dC, dI) vwC (mW ad cA σ) H → va_D (mA ad) (mW ad cA σ) → va_S (mA ad) s.heap H locs → lv_has ls 10 [(0, .ref (ad 0)), (1, .int (x1)), (2, .int (x2)), (3, .int (x3)), (4, .int (x4)), (5, .int (x5)), (7, .int (x7))] → fCM_choose_b154 k38 σ x1 x2 x3 x4 x5 x7 s0 = some r → W p l e rm_CM_choose s m args below meth c H locs 0 0 Q (F0 m 154 ls [.int (s0)]) := by
  obtain ⟨hx, hb, hml, hown, hts⟩ := id C
  intro σ H locs x1 x2 x3 x4 x5 x7 s0 ls hP hD hS hl h
  unfold fCM_choose_b154 at h
  refine lv_istore (lv' := [(6, .int (s0)), (0, .ref (ad 0)), (1, .int (x1)), (2, .int (x2)), (3, .int (x3)), (4, .int (x4)), (5, .int (x5)), (7, .int (x7))]) hx hb dCM_choose_154 hl (by decide) rfl (fun ls hl => ?_)
  refine lv_iinc (v := x7 + (1 : Int32)) (lv' := [(7, .int (x7 + (1 : Int32))), (6, .int (s0)), (0, .ref (ad 0)), (1, .int (x1)), (2, .int (x2)), (3, .int (x3)), (4, .int (x4)), (5, .int (x5))]) hx hb dCM_choose_156 hl (k := 7) rfl rfl (by decide) rfl (fun ls hl => ?_)
  refine lv_goto (tgt := 38) hx hb dCM_choose_159 (by decide) ?_
  exact hk38 _ _ _ _ _ _ _ _ _ _ _ hP hD hS (lv_sub hl [2, 3, 4, 5, 6, 7, 1, 0] rfl) h
def fCM_choose_b149 (k38 : xSt → Int32 → Int32 → Int32 → Int32 → Int32 → Int32 → Int32 → Option (Int32 × xSt)) (σ : xSt) (x1 : Int32) (x2 : Int32) (x3 : Int32) (x4 : Int32) (x5 : Int32) (x7 : Int32) : Option (Int32 × xSt) :=
  fCM_choose_b154 k38 σ x1 x2 x3 x4 x5 x7 (1 : Int32)
set_option maxHeartbeats 4000000 in
set_option maxRecDepth 100000 in
theorem wCM_choose_b149 {p : Program} {l : Launch} {e : Env} {s : State} {m : MethodId} {args : Array Value} {below : List Frame} {meth : Method} {c : Code} {Q : State → Prop} {dC : Nat → ClassId} {dI : Nat → Nat → Nat} {ad : Nat → Nat} {cA : Nat → ClassId} {r : (Int32 × xSt)} (C : CallFix p m c cCM_choose 10 s args wAll RCM) (hK : va_K (dC, dI) vwC (mT cA) s) (hend : ∀ (v : Int32) (σ : xSt) (H : Heap) (locs : List Loc) (pc : Nat) (ls : Array Slot), (v, σ) = r → va_P (dC, dI) vwC (mW ad cA σ) H → va_S (mA ad) s.heap H locs → decode cCM_choose pc = .ok (.ireturn, 1) → W p l e rm_CM_choose s m args below meth c H locs 0 0 Q (F0 m pc ls [.int v])) {k38 : xSt → Int32 → Int32 → Int32 → Int32 → Int32 → Int32 → Int32 → Option (Int32 × xSt)} (hk38 : ∀ (σ : xSt) (H : Heap) (locs : List Loc) (x1 : Int32) (x2 : Int32) (x3 : Int32) (x4 : Int32) (x5 : Int32) (x6 : Int32) (x7 : Int32) (ls : Array Slot), va_P (dC, dI) vwC (mW ad cA σ) H → va_D (mA ad) (mW ad cA σ) → va_S (mA ad) s.heap H locs → lv_has ls 10 [(0, .ref (ad 0)), (1, .int (x1)), (2, .int (x2)), (3, .int (x3)), (4, .int (x4)), (5, .int (x5)), (6, .int (x6)), (7, .int (x7))] → k38 σ x1 x2 x3 x4 x5 x6 x7 = some r → W p l e rm_CM_choose s m args below meth c H locs 0 0 Q (F0 m 38 ls [])) :
    ∀ (σ : xSt) (H : Heap) (locs : List Loc) (x1 : Int32) (x2 : Int32) (x3 : Int32) (x4 : Int32) (x5 : Int32) (x7 : Int32) (ls : Array Slot), va_P (dC, dI) vwC (mW ad cA σ) H → va_D (mA ad) (mW ad cA σ) → va_S (mA ad) s.heap H locs → lv_has ls 10 [(0, .ref (ad 0)), (1, .int (x1)), (2, .int (x2)), (3, .int (x3)), (4, .int (x4)), (5, .int (x5)), (7, .int (x7))] → fCM_choose_b149 k38 σ x1 x2 x3 x4 x5 x7 = some r → W p l e rm_CM_choose s m args below meth c H locs 0 0 Q (F0 m 149 ls []) := by
  obtain ⟨hx, hb, hml, hown, hts⟩ := id C
  intro σ H locs x1 x2 x3 x4 x5 x7 ls hP hD hS hl h
  unfold fCM_choose_b149 at h
  refine lv_iconst (v := (1 : Int32)) hx hb dCM_choose_149 (by decide) ?_
  refine lv_goto (tgt := 154) hx hb dCM_choose_150 (by decide) ?_
  exact wCM_choose_b154 C hK hend hk38 _ _ _ _ _ _ _ _ _ _ _ hP hD hS (lv_sub hl [0, 1, 2, 3, 4, 5, 6] rfl) h
def fCM_choose_b133 (k38 : xSt → Int32 → Int32 → Int32 → Int32 → Int32 → Int32 → Int32 → Option (Int32 × xSt)) (σ : xSt) (x1 : Int32) (x2 : Int32) (x3 : Int32) (x4 : Int32) (x5 : Int32) (x6 : Int32) (x7 : Int32) (s1 : Int32) (s2 : Int32) : Option (Int32 × xSt) :=
  if s1 < 0 ∨ 60 ≤ s1.toNatClampNeg then none else
  nm (sI σ 17 s1.toNatClampNeg (vp_nar .boolean s2)) fun σ55 =>
  if x6 = 0 then
    if x7 < 0 ∨ 60 ≤ x7.toNatClampNeg then none else
    if (σ55.1 17 x7.toNatClampNeg) = 0 then
      fCM_choose_b154 k38 σ55 x1 x2 x3 x4 x5 x7 (0 : Int32)
    else
      fCM_choose_b149 k38 σ55 x1 x2 x3 x4 x5 x7
  else
    fCM_choose_b149 k38 σ55 x1 x2 x3 x4 x5 x7
set_option maxHeartbeats 4000000 in
set_option maxRecDepth 100000 in
theorem wCM_choose_b133 {p : Program} {l : Launch} {e : Env} {s : State} {m : MethodId} {args : Array Value} {below : List Frame} {meth : Method} {c : Code} {Q : State → Prop} {dC : Nat → ClassId} {dI : Nat → Nat → Nat} {ad : Nat → Nat} {cA : Nat → ClassId} {r : (Int32 × xSt)} (C : CallFix p m c cCM_choose 10 s args wAll RCM) (hK : va_K (dC, dI) vwC (mT cA) s) (hend : ∀ (v : Int32) (σ : xSt) (H : Heap) (locs : List Loc) (pc : Nat) (ls : Array Slot), (v, σ) = r → va_P (dC, dI) vwC (mW ad cA σ) H → va_S (mA ad) s.heap H locs → decode cCM_choose pc = .ok (.ireturn, 1) → W p l e rm_CM_choose s m args below meth c H locs 0 0 Q (F0 m pc ls [.int v])) {k38 : xSt → Int32 → Int32 → Int32 → Int32 → Int32 → Int32 → Int32 → Option (Int32 × xSt)} (hk38 : ∀ (σ : xSt) (H : Heap) (locs : List Loc) (x1 : Int32) (x2 : Int32) (x3 : Int32) (x4 : Int32) (x5 : Int32) (x6 : Int32) (x7 : Int32) (ls : Array Slot), va_P (dC, dI) vwC (mW ad cA σ) H → va_D (mA ad) (mW ad cA σ) → va_S (mA ad) s.heap H locs → lv_has ls 10 [(0, .ref (ad 0)), (1, .int (x1)), (2, .int (x2)), (3, .int (x3)), (4, .int (x4)), (5, .int (x5)), (6, .int (x6)), (7, .int (x7))] → k38 σ x1 x2 x3 x4 x5 x6 x7 = some r → W p l e rm_CM_choose s m args below meth c H locs 0 0 Q (F0 m 38 ls [])) :
    ∀ (σ : xSt) (H : Heap) (locs : List Loc) (x1 : Int32) (x2 : Int32) (x3 : Int32) (x4 : Int32) (x5 : Int32) (x6 : Int32) (x7 : Int32) (s1 : Int32) (s2 : Int32) (ls : Array Slot), va_P (dC, dI) vwC (mW ad cA σ) H → va_D (mA ad) (mW ad cA σ) → va_S (mA ad) s.heap H locs → lv_has ls 10 [(0, .ref (ad 0)), (1, .int (x1)), (2, .int (x2)), (3, .int (x3)), (4, .int (x4)), (5, .int (x5)), (6, .int (x6)), (7, .int (x7))] → fCM_choose_b133 k38 σ x1 x2 x3 x4 x5 x6 x7 s1 s2 = some r → W p l e rm_CM_choose s m args below meth c H locs 0 0 Q (F0 m 133 ls [.int (s2), .int (s1), .ref (ad 17)]) := by
  obtain ⟨hx, hb, hml, hown, hts⟩ := id C
  intro σ H locs x1 x2 x3 x4 x5 x6 x7 s1 s2 ls hP hD hS hl h
  unfold fCM_choose_b133 at h
  obtain ⟨b54, h⟩ := gx_nb h
  refine va_zast hx hb hK hP hD hS 17 16 rfl rfl b54 dCM_choose_133 (fun H locs hP hD hS => ?_)
  obtain ⟨σ55, eσ55⟩ : ∃ z, z = sI σ 17 s1.toNatClampNeg (vp_nar .boolean s2) := ⟨_, rfl⟩
  have hP : va_P (dC, dI) vwC (mW ad cA σ55) H := by rw [eσ55]; exact hP
  have hD : va_D (mA ad) (mW ad cA σ55) := by rw [eσ55]; exact hD
  have h := nm_at eσ55 h
  refine lv_iload hx hb dCM_choose_134 (lv_at hl 6 rfl) ?_
  refine lv_if_ne (tgt := 149) hx hb dCM_choose_136 (by decide) (fun c58 => ?_) (fun c58 => ?_)
  · have h := (if_neg c58).symm.trans h
    exact wCM_choose_b149 C hK hend hk38 _ _ _ _ _ _ _ _ _ _ hP hD hS (lv_sub hl [0, 1, 2, 3, 4, 5, 7] rfl) h
  · have h := (if_pos c58).symm.trans h
    refine lv_aload_n hx hb dCM_choose_139 rfl (lv_at hl 0 rfl) ?_
    refine va_get (D := (dC, dI)) (ci := 5) (v := .ref (ad 17)) (C := RCM) (T := TCM) (N := 23) hx hb hts inCM hown hK hP 0 rfl rfl 20 (by decide) (hts _ mw_449) (fun _ h9 => h9) rfl dCM_choose_140 ?_
    refine lv_iload hx hb dCM_choose_143 (lv_at hl 7 rfl) ?_
    obtain ⟨b56, h⟩ := gx_nb h
    refine va_zald hx hb hK hP 17 16 rfl rfl b56 dCM_choose_145 ?_
    refine lv_if_eq (tgt := 153) hx hb dCM_choose_146 (by decide) (fun c57 => ?_) (fun c57 => ?_)
    · have h := (if_pos c57).symm.trans h
      refine lv_iconst (v := (0 : Int32)) hx hb dCM_choose_153 (by decide) ?_
      exact wCM_choose_b154 C hK hend hk38 _ _ _ _ _ _ _ _ _ _ _ hP hD hS (lv_sub hl [0, 1, 2, 3, 4, 5, 7] rfl) h
    · have h := (if_neg c57).symm.trans h
      exact wCM_choose_b149 C hK hend hk38 _ _ _ _ _ _ _ _ _ _ hP hD hS (lv_sub hl [0, 1, 2, 3, 4, 5, 7] rfl) h
def fCM_choose_b132 (k38 : xSt → Int32 → Int32 → Int32 → Int32 → Int32 → Int32 → Int32 → Option (Int32 × xSt)) (σ : xSt) (x1 : Int32) (x2 : Int32) (x3 : Int32) (x4 : Int32) (x5 : Int32) (x6 : Int32) (x7 : Int32) (s1 : Int32) : Option (Int32 × xSt) :=
  fCM_choose_b133 k38 σ x1 x2 x3 x4 x5 x6 x7 s1 (0 : Int32)
set_option maxHeartbeats 4000000 in
set_option maxRecDepth 100000 in
theorem wCM_choose_b132 {p : Program} {l : Launch} {e : Env} {s : State} {m : MethodId} {args : Array Value} {below : List Frame} {meth : Method} {c : Code} {Q : State → Prop} {dC : Nat → ClassId} {dI : Nat → Nat → Nat} {ad : Nat → Nat} {cA : Nat → ClassId} {r : (Int32 × xSt)} (C : CallFix p m c cCM_choose 10 s args wAll RCM) (hK : va_K (dC, dI) vwC (mT cA) s) (hend : ∀ (v : Int32) (σ : xSt) (H : Heap) (locs : List Loc) (pc : Nat) (ls : Array Slot), (v, σ) = r → va_P (dC, dI) vwC (mW ad cA σ) H → va_S (mA ad) s.heap H locs → decode cCM_choose pc = .ok (.ireturn, 1) → W p l e rm_CM_choose s m args below meth c H locs 0 0 Q (F0 m pc ls [.int v])) {k38 : xSt → Int32 → Int32 → Int32 → Int32 → Int32 → Int32 → Int32 → Option (Int32 × xSt)} (hk38 : ∀ (σ : xSt) (H : Heap) (locs : List Loc) (x1 : Int32) (x2 : Int32) (x3 : Int32) (x4 : Int32) (x5 : Int32) (x6 : Int32) (x7 : Int32) (ls : Array Slot), va_P (dC, dI) vwC (mW ad cA σ) H → va_D (mA ad) (mW ad cA σ) → va_S (mA ad) s.heap H locs → lv_has ls 10 [(0, .ref (ad 0)), (1, .int (x1)), (2, .int (x2)), (3, .int (x3)), (4, .int (x4)), (5, .int (x5)), (6, .int (x6)), (7, .int (x7))] → k38 σ x1 x2 x3 x4 x5 x6 x7 = some r → W p l e rm_CM_choose s m args below meth c H locs 0 0 Q (F0 m 38 ls [])) :
    ∀ (σ : xSt) (H : Heap) (locs : List Loc) (x1 : Int32) (x2 : Int32) (x3 : Int32) (x4 : Int32) (x5 : Int32) (x6 : Int32) (x7 : Int32) (s1 : Int32) (ls : Array Slot), va_P (dC, dI) vwC (mW ad cA σ) H → va_D (mA ad) (mW ad cA σ) → va_S (mA ad) s.heap H locs → lv_has ls 10 [(0, .ref (ad 0)), (1, .int (x1)), (2, .int (x2)), (3, .int (x3)), (4, .int (x4)), (5, .int (x5)), (6, .int (x6)), (7, .int (x7))] → fCM_choose_b132 k38 σ x1 x2 x3 x4 x5 x6 x7 s1 = some r → W p l e rm_CM_choose s m args below meth c H locs 0 0 Q (F0 m 132 ls [.int (s1), .ref (ad 17)]) := by
  obtain ⟨hx, hb, hml, hown, hts⟩ := id C
  intro σ H locs x1 x2 x3 x4 x5 x6 x7 s1 ls hP hD hS hl h
  unfold fCM_choose_b132 at h
  refine lv_iconst (v := (0 : Int32)) hx hb dCM_choose_132 (by decide) ?_
  exact wCM_choose_b133 C hK hend hk38 _ _ _ _ _ _ _ _ _ _ _ _ _ hP hD hS (lv_sub hl [0, 1, 2, 3, 4, 5, 6, 7] rfl) h
def fCM_choose_b101 (k38 : xSt → Int32 → Int32 → Int32 → Int32 → Int32 → Int32 → Int32 → Option (Int32 × xSt)) (σ : xSt) (x1 : Int32) (x2 : Int32) (x3 : Int32) (x4 : Int32) (x6 : Int32) (x7 : Int32) (s0 : Int32) : Option (Int32 × xSt) :=
  if x7 < 0 ∨ 60 ≤ x7.toNatClampNeg then none else
  if (σ.1 17 x7.toNatClampNeg) = 0 then
    fCM_choose_b132 k38 σ x1 x2 x3 x4 s0 x6 x7 x7
  else
    gx_b2 (fCM_isMeant σ x7) fun v59 σ60 =>
    if v59 = 0 then
      fCM_choose_b132 k38 σ60 x1 x2 x3 x4 s0 x6 x7 x7
    else
      fCM_choose_b133 k38 σ60 x1 x2 x3 x4 s0 x6 x7 x7 (1 : Int32)
set_option maxHeartbeats 4000000 in
set_option maxRecDepth 100000 in
theorem wCM_choose_b101 {p : Program} {l : Launch} {e : Env} {s : State} {m : MethodId} {args : Array Value} {below : List Frame} {meth : Method} {c : Code} {Q : State → Prop} {dC : Nat → ClassId} {dI : Nat → Nat → Nat} {ad : Nat → Nat} {cA : Nat → ClassId} {r : (Int32 × xSt)} (C : CallFix p m c cCM_choose 10 s args wAll RCM) (hK : va_K (dC, dI) vwC (mT cA) s) (hend : ∀ (v : Int32) (σ : xSt) (H : Heap) (locs : List Loc) (pc : Nat) (ls : Array Slot), (v, σ) = r → va_P (dC, dI) vwC (mW ad cA σ) H → va_S (mA ad) s.heap H locs → decode cCM_choose pc = .ok (.ireturn, 1) → W p l e rm_CM_choose s m args below meth c H locs 0 0 Q (F0 m pc ls [.int v])) {k38 : xSt → Int32 → Int32 → Int32 → Int32 → Int32 → Int32 → Int32 → Option (Int32 × xSt)} (hk38 : ∀ (σ : xSt) (H : Heap) (locs : List Loc) (x1 : Int32) (x2 : Int32) (x3 : Int32) (x4 : Int32) (x5 : Int32) (x6 : Int32) (x7 : Int32) (ls : Array Slot), va_P (dC, dI) vwC (mW ad cA σ) H → va_D (mA ad) (mW ad cA σ) → va_S (mA ad) s.heap H locs → lv_has ls 10 [(0, .ref (ad 0)), (1, .int (x1)), (2, .int (x2)), (3, .int (x3)), (4, .int (x4)), (5, .int (x5)), (6, .int (x6)), (7, .int (x7))] → k38 σ x1 x2 x3 x4 x5 x6 x7 = some r → W p l e rm_CM_choose s m args below meth c H locs 0 0 Q (F0 m 38 ls [])) :
    ∀ (σ : xSt) (H : Heap) (locs : List Loc) (x1 : Int32) (x2 : Int32) (x3 : Int32) (x4 : Int32) (x6 : Int32) (x7 : Int32) (s0 : Int32) (ls : Array Slot), va_P (dC, dI) vwC (mW ad cA σ) H → va_D (mA ad) (mW ad cA σ) → va_S (mA ad) s.heap H locs → lv_has ls 10 [(0, .ref (ad 0)), (1, .int (x1)), (2, .int (x2)), (3, .int (x3)), (4, .int (x4)), (6, .int (x6)), (7, .int (x7))] → fCM_choose_b101 k38 σ x1 x2 x3 x4 x6 x7 s0 = some r → W p l e rm_CM_choose s m args below meth c H locs 0 0 Q (F0 m 101 ls [.int (s0)]) := by
  obtain ⟨hx, hb, hml, hown, hts⟩ := id C
  intro σ H locs x1 x2 x3 x4 x6 x7 s0 ls hP hD hS hl h
  unfold fCM_choose_b101 at h
  refine lv_istore (lv' := [(5, .int (s0)), (0, .ref (ad 0)), (1, .int (x1)), (2, .int (x2)), (3, .int (x3)), (4, .int (x4)), (6, .int (x6)), (7, .int (x7))]) hx hb dCM_choose_101 hl (by decide) rfl (fun ls hl => ?_)
  refine lv_aload_n hx hb dCM_choose_103 rfl (lv_at hl 1 rfl) ?_
  refine va_get (D := (dC, dI)) (ci := 5) (v := .ref (ad 17)) (C := RCM) (T := TCM) (N := 23) hx hb hts inCM hown hK hP 0 rfl rfl 20 (by decide) (hts _ mw_449) (fun _ h9 => h9) rfl dCM_choose_104 ?_
  refine lv_iload hx hb dCM_choose_107 (lv_at hl 7 rfl) ?_
  refine lv_aload_n hx hb dCM_choose_109 rfl (lv_at hl 1 rfl) ?_
  refine va_get (D := (dC, dI)) (ci := 5) (v := .ref (ad 17)) (C := RCM) (T := TCM) (N := 23) hx hb hts inCM hown hK hP 0 rfl rfl 20 (by decide) (hts _ mw_449) (fun _ h9 => h9) rfl dCM_choose_110 ?_
  refine lv_iload hx hb dCM_choose_113 (lv_at hl 7 rfl) ?_
  obtain ⟨b53, h⟩ := gx_nb h
  refine va_zald hx hb hK hP 17 16 rfl rfl b53 dCM_choose_115 ?_
  refine lv_if_eq (tgt := 132) hx hb dCM_choose_116 (by decide) (fun c63 => ?_) (fun c63 => ?_)
  · have h := (if_pos c63).symm.trans h
    exact wCM_choose_b132 C hK hend hk38 _ _ _ _ _ _ _ _ _ _ _ _ hP hD hS (lv_sub hl [1, 2, 3, 4, 5, 0, 6, 7] rfl) h
  · have h := (if_neg c63).symm.trans h
    refine lv_aload_n hx hb dCM_choose_119 rfl (lv_at hl 1 rfl) ?_
    refine lv_iload hx hb dCM_choose_120 (lv_at hl 7 rfl) ?_
    obtain ⟨v59, σ60, ez61, h⟩ := gx_b2_at h
    refine gcall_i (wd := mW ad cA) (b := ad 0) (As := [.int (x7)]) (rest := [.int (x7), .ref (ad 17)]) mkeys C hK hP hD hS (ci := 5) (q0 := 0) rfl rfl (kCM_isMeant l dC dI ad cA σ x7 (v59, σ60) ez61) (cwV 1 hts (gw mw_483 mw_484 mw_485 mw_363 mw_486) rfl rfl rfl hdCM_isMeant ⟨Nat.le_of_ble_eq_true rfl, Nat.le_of_ble_eq_true rfl⟩) rfl hl.1 rfl (Nat.le_of_ble_eq_true rfl) dCM_choose_122 ⟨Nat.le_refl _, Nat.le_refl _⟩ (fun H locs hP hD hS => ?_)
    refine lv_if_eq (tgt := 132) hx hb dCM_choose_125 (by decide) (fun c62 => ?_) (fun c62 => ?_)
    · have h := (if_pos c62).symm.trans h
      exact wCM_choose_b132 C hK hend hk38 _ _ _ _ _ _ _ _ _ _ _ _ hP hD hS (lv_sub hl [1, 2, 3, 4, 5, 0, 6, 7] rfl) h
    · have h := (if_neg c62).symm.trans h
      refine lv_iconst (v := (1 : Int32)) hx hb dCM_choose_128 (by decide) ?_
      refine lv_goto (tgt := 133) hx hb dCM_choose_129 (by decide) ?_
      exact wCM_choose_b133 C hK hend hk38 _ _ _ _ _ _ _ _ _ _ _ _ _ hP hD hS (lv_sub hl [1, 2, 3, 4, 5, 0, 6, 7] rfl) h
def fCM_choose_b96 (k38 : xSt → Int32 → Int32 → Int32 → Int32 → Int32 → Int32 → Int32 → Option (Int32 × xSt)) (σ : xSt) (x1 : Int32) (x2 : Int32) (x3 : Int32) (x4 : Int32) (x6 : Int32) (x7 : Int32) : Option (Int32 × xSt) :=
  fCM_choose_b101 k38 σ x1 x2 x3 x4 x6 x7 (1 : Int32)
set_option maxHeartbeats 4000000 in
set_option maxRecDepth 100000 in
theorem wCM_choose_b96 {p : Program} {l : Launch} {e : Env} {s : State} {m : MethodId} {args : Array Value} {below : List Frame} {meth : Method} {c : Code} {Q : State → Prop} {dC : Nat → ClassId} {dI : Nat → Nat → Nat} {ad : Nat → Nat} {cA : Nat → ClassId} {r : (Int32 × xSt)} (C : CallFix p m c cCM_choose 10 s args wAll RCM) (hK : va_K (dC, dI) vwC (mT cA) s) (hend : ∀ (v : Int32) (σ : xSt) (H : Heap) (locs : List Loc) (pc : Nat) (ls : Array Slot), (v, σ) = r → va_P (dC, dI) vwC (mW ad cA σ) H → va_S (mA ad) s.heap H locs → decode cCM_choose pc = .ok (.ireturn, 1) → W p l e rm_CM_choose s m args below meth c H locs 0 0 Q (F0 m pc ls [.int v])) {k38 : xSt → Int32 → Int32 → Int32 → Int32 → Int32 → Int32 → Int32 → Option (Int32 × xSt)} (hk38 : ∀ (σ : xSt) (H : Heap) (locs : List Loc) (x1 : Int32) (x2 : Int32) (x3 : Int32) (x4 : Int32) (x5 : Int32) (x6 : Int32) (x7 : Int32) (ls : Array Slot), va_P (dC, dI) vwC (mW ad cA σ) H → va_D (mA ad) (mW ad cA σ) → va_S (mA ad) s.heap H locs → lv_has ls 10 [(0, .ref (ad 0)), (1, .int (x1)), (2, .int (x2)), (3, .int (x3)), (4, .int (x4)), (5, .int (x5)), (6, .int (x6)), (7, .int (x7))] → k38 σ x1 x2 x3 x4 x5 x6 x7 = some r → W p l e rm_CM_choose s m args below meth c H locs 0 0 Q (F0 m 38 ls [])) :
    ∀ (σ : xSt) (H : Heap) (locs : List Loc) (x1 : Int32) (x2 : Int32) (x3 : Int32) (x4 : Int32) (x6 : Int32) (x7 : Int32) (ls : Array Slot), va_P (dC, dI) vwC (mW ad cA σ) H → va_D (mA ad) (mW ad cA σ) → va_S (mA ad) s.heap H locs → lv_has ls 10 [(0, .ref (ad 0)), (1, .int (x1)), (2, .int (x2)), (3, .int (x3)), (4, .int (x4)), (6, .int (x6)), (7, .int (x7))] → fCM_choose_b96 k38 σ x1 x2 x3 x4 x6 x7 = some r → W p l e rm_CM_choose s m args below meth c H locs 0 0 Q (F0 m 96 ls []) := by
  obtain ⟨hx, hb, hml, hown, hts⟩ := id C
  intro σ H locs x1 x2 x3 x4 x6 x7 ls hP hD hS hl h
  unfold fCM_choose_b96 at h
  refine lv_iconst (v := (1 : Int32)) hx hb dCM_choose_96 (by decide) ?_
  refine lv_goto (tgt := 101) hx hb dCM_choose_97 (by decide) ?_
  exact wCM_choose_b101 C hK hend hk38 _ _ _ _ _ _ _ _ _ _ _ hP hD hS (lv_sub hl [0, 1, 2, 3, 4, 5, 6] rfl) h
def fCM_choose_b80 (k38 : xSt → Int32 → Int32 → Int32 → Int32 → Int32 → Int32 → Int32 → Option (Int32 × xSt)) (σ : xSt) (x1 : Int32) (x2 : Int32) (x3 : Int32) (x4 : Int32) (x5 : Int32) (x6 : Int32) (x7 : Int32) (s1 : Int32) (s2 : Int32) : Option (Int32 × xSt) :=
  if s1 < 0 ∨ 60 ≤ s1.toNatClampNeg then none else
  nm (sI σ 17 s1.toNatClampNeg (vp_nar .boolean s2)) fun σ52 =>
  if x5 = 0 then
    if x7 < 0 ∨ 60 ≤ x7.toNatClampNeg then none else
    if (σ52.1 17 x7.toNatClampNeg) = 0 then
      fCM_choose_b101 k38 σ52 x1 x2 x3 x4 x6 x7 (0 : Int32)
    else
      fCM_choose_b96 k38 σ52 x1 x2 x3 x4 x6 x7
  else
    fCM_choose_b96 k38 σ52 x1 x2 x3 x4 x6 x7
set_option maxHeartbeats 4000000 in
set_option maxRecDepth 100000 in
theorem wCM_choose_b80 {p : Program} {l : Launch} {e : Env} {s : State} {m : MethodId} {args : Array Value} {below : List Frame} {meth : Method} {c : Code} {Q : State → Prop} {dC : Nat → ClassId} {dI : Nat → Nat → Nat} {ad : Nat → Nat} {cA : Nat → ClassId} {r : (Int32 × xSt)} (C : CallFix p m c cCM_choose 10 s args wAll RCM) (hK : va_K (dC, dI) vwC (mT cA) s) (hend : ∀ (v : Int32) (σ : xSt) (H : Heap) (locs : List Loc) (pc : Nat) (ls : Array Slot), (v, σ) = r → va_P (dC, dI) vwC (mW ad cA σ) H → va_S (mA ad) s.heap H locs → decode cCM_choose pc = .ok (.ireturn, 1) → W p l e rm_CM_choose s m args below meth c H locs 0 0 Q (F0 m pc ls [.int v])) {k38 : xSt → Int32 → Int32 → Int32 → Int32 → Int32 → Int32 → Int32 → Option (Int32 × xSt)} (hk38 : ∀ (σ : xSt) (H : Heap) (locs : List Loc) (x1 : Int32) (x2 : Int32) (x3 : Int32) (x4 : Int32) (x5 : Int32) (x6 : Int32) (x7 : Int32) (ls : Array Slot), va_P (dC, dI) vwC (mW ad cA σ) H → va_D (mA ad) (mW ad cA σ) → va_S (mA ad) s.heap H locs → lv_has ls 10 [(0, .ref (ad 0)), (1, .int (x1)), (2, .int (x2)), (3, .int (x3)), (4, .int (x4)), (5, .int (x5)), (6, .int (x6)), (7, .int (x7))] → k38 σ x1 x2 x3 x4 x5 x6 x7 = some r → W p l e rm_CM_choose s m args below meth c H locs 0 0 Q (F0 m 38 ls [])) :
    ∀ (σ : xSt) (H : Heap) (locs : List Loc) (x1 : Int32) (x2 : Int32) (x3 : Int32) (x4 : Int32) (x5 : Int32) (x6 : Int32) (x7 : Int32) (s1 : Int32) (s2 : Int32) (ls : Array Slot), va_P (dC, dI) vwC (mW ad cA σ) H → va_D (mA ad) (mW ad cA σ) → va_S (mA ad) s.heap H locs → lv_has ls 10 [(0, .ref (ad 0)), (1, .int (x1)), (2, .int (x2)), (3, .int (x3)), (4, .int (x4)), (5, .int (x5)), (6, .int (x6)), (7, .int (x7))] → fCM_choose_b80 k38 σ x1 x2 x3 x4 x5 x6 x7 s1 s2 = some r → W p l e rm_CM_choose s m args below meth c H locs 0 0 Q (F0 m 80 ls [.int (s2), .int (s1), .ref (ad 17)]) := by
  obtain ⟨hx, hb, hml, hown, hts⟩ := id C
  intro σ H locs x1 x2 x3 x4 x5 x6 x7 s1 s2 ls hP hD hS hl h
  unfold fCM_choose_b80 at h
  obtain ⟨b51, h⟩ := gx_nb h
  refine va_zast hx hb hK hP hD hS 17 16 rfl rfl b51 dCM_choose_80 (fun H locs hP hD hS => ?_)
  obtain ⟨σ52, eσ52⟩ : ∃ z, z = sI σ 17 s1.toNatClampNeg (vp_nar .boolean s2) := ⟨_, rfl⟩
  have hP : va_P (dC, dI) vwC (mW ad cA σ52) H := by rw [eσ52]; exact hP
  have hD : va_D (mA ad) (mW ad cA σ52) := by rw [eσ52]; exact hD
  have h := nm_at eσ52 h
  refine lv_iload hx hb dCM_choose_81 (lv_at hl 5 rfl) ?_
  refine lv_if_ne (tgt := 96) hx hb dCM_choose_83 (by decide) (fun c66 => ?_) (fun c66 => ?_)
  · have h := (if_neg c66).symm.trans h
    exact wCM_choose_b96 C hK hend hk38 _ _ _ _ _ _ _ _ _ _ hP hD hS (lv_sub hl [0, 1, 2, 3, 4, 6, 7] rfl) h
  · have h := (if_pos c66).symm.trans h
    refine lv_aload_n hx hb dCM_choose_86 rfl (lv_at hl 0 rfl) ?_
    refine va_get (D := (dC, dI)) (ci := 5) (v := .ref (ad 17)) (C := RCM) (T := TCM) (N := 23) hx hb hts inCM hown hK hP 0 rfl rfl 20 (by decide) (hts _ mw_449) (fun _ h9 => h9) rfl dCM_choose_87 ?_
    refine lv_iload hx hb dCM_choose_90 (lv_at hl 7 rfl) ?_
    obtain ⟨b64, h⟩ := gx_nb h
    refine va_zald hx hb hK hP 17 16 rfl rfl b64 dCM_choose_92 ?_
    refine lv_if_eq (tgt := 100) hx hb dCM_choose_93 (by decide) (fun c65 => ?_) (fun c65 => ?_)
    · have h := (if_pos c65).symm.trans h
      refine lv_iconst (v := (0 : Int32)) hx hb dCM_choose_100 (by decide) ?_
      exact wCM_choose_b101 C hK hend hk38 _ _ _ _ _ _ _ _ _ _ _ hP hD hS (lv_sub hl [0, 1, 2, 3, 4, 6, 7] rfl) h
    · have h := (if_neg c65).symm.trans h
      exact wCM_choose_b96 C hK hend hk38 _ _ _ _ _ _ _ _ _ _ hP hD hS (lv_sub hl [0, 1, 2, 3, 4, 6, 7] rfl) h
def fCM_choose_b79 (k38 : xSt → Int32 → Int32 → Int32 → Int32 → Int32 → Int32 → Int32 → Option (Int32 × xSt)) (σ : xSt) (x1 : Int32) (x2 : Int32) (x3 : Int32) (x4 : Int32) (x5 : Int32) (x6 : Int32) (x7 : Int32) (s1 : Int32) : Option (Int32 × xSt) :=
  fCM_choose_b80 k38 σ x1 x2 x3 x4 x5 x6 x7 s1 (0 : Int32)
set_option maxHeartbeats 4000000 in
set_option maxRecDepth 100000 in
theorem wCM_choose_b79 {p : Program} {l : Launch} {e : Env} {s : State} {m : MethodId} {args : Array Value} {below : List Frame} {meth : Method} {c : Code} {Q : State → Prop} {dC : Nat → ClassId} {dI : Nat → Nat → Nat} {ad : Nat → Nat} {cA : Nat → ClassId} {r : (Int32 × xSt)} (C : CallFix p m c cCM_choose 10 s args wAll RCM) (hK : va_K (dC, dI) vwC (mT cA) s) (hend : ∀ (v : Int32) (σ : xSt) (H : Heap) (locs : List Loc) (pc : Nat) (ls : Array Slot), (v, σ) = r → va_P (dC, dI) vwC (mW ad cA σ) H → va_S (mA ad) s.heap H locs → decode cCM_choose pc = .ok (.ireturn, 1) → W p l e rm_CM_choose s m args below meth c H locs 0 0 Q (F0 m pc ls [.int v])) {k38 : xSt → Int32 → Int32 → Int32 → Int32 → Int32 → Int32 → Int32 → Option (Int32 × xSt)} (hk38 : ∀ (σ : xSt) (H : Heap) (locs : List Loc) (x1 : Int32) (x2 : Int32) (x3 : Int32) (x4 : Int32) (x5 : Int32) (x6 : Int32) (x7 : Int32) (ls : Array Slot), va_P (dC, dI) vwC (mW ad cA σ) H → va_D (mA ad) (mW ad cA σ) → va_S (mA ad) s.heap H locs → lv_has ls 10 [(0, .ref (ad 0)), (1, .int (x1)), (2, .int (x2)), (3, .int (x3)), (4, .int (x4)), (5, .int (x5)), (6, .int (x6)), (7, .int (x7))] → k38 σ x1 x2 x3 x4 x5 x6 x7 = some r → W p l e rm_CM_choose s m args below meth c H locs 0 0 Q (F0 m 38 ls [])) :
    ∀ (σ : xSt) (H : Heap) (locs : List Loc) (x1 : Int32) (x2 : Int32) (x3 : Int32) (x4 : Int32) (x5 : Int32) (x6 : Int32) (x7 : Int32) (s1 : Int32) (ls : Array Slot), va_P (dC, dI) vwC (mW ad cA σ) H → va_D (mA ad) (mW ad cA σ) → va_S (mA ad) s.heap H locs → lv_has ls 10 [(0, .ref (ad 0)), (1, .int (x1)), (2, .int (x2)), (3, .int (x3)), (4, .int (x4)), (5, .int (x5)), (6, .int (x6)), (7, .int (x7))] → fCM_choose_b79 k38 σ x1 x2 x3 x4 x5 x6 x7 s1 = some r → W p l e rm_CM_choose s m args below meth c H locs 0 0 Q (F0 m 79 ls [.int (s1), .ref (ad 17)]) := by
  obtain ⟨hx, hb, hml, hown, hts⟩ := id C
  intro σ H locs x1 x2 x3 x4 x5 x6 x7 s1 ls hP hD hS hl h
  unfold fCM_choose_b79 at h
  refine lv_iconst (v := (0 : Int32)) hx hb dCM_choose_79 (by decide) ?_
  exact wCM_choose_b80 C hK hend hk38 _ _ _ _ _ _ _ _ _ _ _ _ _ hP hD hS (lv_sub hl [0, 1, 2, 3, 4, 5, 6, 7] rfl) h
def fCM_choose_b38 : Nat → xSt → Int32 → Int32 → Int32 → Int32 → Int32 → Int32 → Int32 → Option (Int32 × xSt)
  | 0, _, _, _, _, _, _, _, _ => none
  | n + 1, σ, x1, x2, x3, x4, x5, x6, x7 =>
    if (σ.1 0 6) ≤ x7 then
      nm (σ.1 0 6) fun y3 =>
      fCM_choose_b168 gF σ x4 x5 x6 y3
    else
      if x7 < 0 ∨ 60 ≤ x7.toNatClampNeg then none else
      if (σ.1 7 x7.toNatClampNeg) = x2 then
        (fCM_isSeen σ x7 x1 x3).bind fun v67 =>
        if v67 = 0 then
          fCM_choose_b79 (fCM_choose_b38 n) σ x1 x2 x3 x4 x5 x6 x7 x7
        else
          fCM_choose_b80 (fCM_choose_b38 n) σ x1 x2 x3 x4 x5 x6 x7 x7 (1 : Int32)
      else
        fCM_choose_b79 (fCM_choose_b38 n) σ x1 x2 x3 x4 x5 x6 x7 x7
set_option maxHeartbeats 4000000 in
set_option maxRecDepth 100000 in
theorem wCM_choose_b38 {p : Program} {l : Launch} {e : Env} {s : State} {m : MethodId} {args : Array Value} {below : List Frame} {meth : Method} {c : Code} {Q : State → Prop} {dC : Nat → ClassId} {dI : Nat → Nat → Nat} {ad : Nat → Nat} {cA : Nat → ClassId} {r : (Int32 × xSt)} (C : CallFix p m c cCM_choose 10 s args wAll RCM) (hK : va_K (dC, dI) vwC (mT cA) s) (hend : ∀ (v : Int32) (σ : xSt) (H : Heap) (locs : List Loc) (pc : Nat) (ls : Array Slot), (v, σ) = r → va_P (dC, dI) vwC (mW ad cA σ) H → va_S (mA ad) s.heap H locs → decode cCM_choose pc = .ok (.ireturn, 1) → W p l e rm_CM_choose s m args below meth c H locs 0 0 Q (F0 m pc ls [.int v])) :
    ∀ (n : Nat) (σ : xSt) (H : Heap) (locs : List Loc) (x1 : Int32) (x2 : Int32) (x3 : Int32) (x4 : Int32) (x5 : Int32) (x6 : Int32) (x7 : Int32) (ls : Array Slot), va_P (dC, dI) vwC (mW ad cA σ) H → va_D (mA ad) (mW ad cA σ) → va_S (mA ad) s.heap H locs → lv_has ls 10 [(0, .ref (ad 0)), (1, .int (x1)), (2, .int (x2)), (3, .int (x3)), (4, .int (x4)), (5, .int (x5)), (6, .int (x6)), (7, .int (x7))] → fCM_choose_b38 n σ x1 x2 x3 x4 x5 x6 x7 = some r → W p l e rm_CM_choose s m args below meth c H locs 0 0 Q (F0 m 38 ls []) := by
  obtain ⟨hx, hb, hml, hown, hts⟩ := id C
  intro n
  induction n with
  | zero =>
    intro σ H locs x1 x2 x3 x4 x5 x6 x7 ls hP hD hS hl h
    rw [fCM_choose_b38] at h
    cases h
  | succ n ih =>
    intro σ H locs x1 x2 x3 x4 x5 x6 x7 ls hP hD hS hl h
    rw [fCM_choose_b38] at h
    refine lv_iload hx hb dCM_choose_38 (lv_at hl 7 rfl) ?_
    refine lv_aload_n hx hb dCM_choose_40 rfl (lv_at hl 0 rfl) ?_
    refine va_get (D := (dC, dI)) (ci := 5) (v := .int (σ.1 0 6)) (C := RCM) (T := TCM) (N := 23) hx hb hts inCM hown hK hP 0 rfl rfl 6 (by decide) (hts _ mw_401) (fun _ h9 => h9) rfl dCM_choose_41 ?_
    refine lv_icmp_ge (tgt := 162) hx hb dCM_choose_44 (by decide) (fun c70 => ?_) (fun c70 => ?_)
    · have h := (if_pos c70).symm.trans h
      refine lv_aload_n hx hb dCM_choose_162 rfl (lv_at hl 0 rfl) ?_
      refine va_get (D := (dC, dI)) (ci := 5) (v := .int (σ.1 0 6)) (C := RCM) (T := TCM) (N := 23) hx hb hts inCM hown hK hP 0 rfl rfl 6 (by decide) (hts _ mw_401) (fun _ h9 => h9) rfl dCM_choose_163 ?_
      refine lv_topi (fun y3 ey3 => ?_)
      have h := nm_at ey3 h
      refine lv_istore (lv' := [(7, .int (y3)), (0, .ref (ad 0)), (1, .int (x1)), (2, .int (x2)), (3, .int (x3)), (4, .int (x4)), (5, .int (x5)), (6, .int (x6))]) hx hb dCM_choose_166 hl (by decide) rfl (fun ls hl => ?_)
      exact wCM_choose_b168 C hK hend _ _ _ _ _ _ _ _ _ hP hD hS (lv_sub hl [1, 5, 6, 7, 0] rfl) h
    · have h := (if_neg c70).symm.trans h
      refine lv_aload_n hx hb dCM_choose_47 rfl (lv_at hl 0 rfl) ?_
      refine va_get (D := (dC, dI)) (ci := 5) (v := .ref (ad 17)) (C := RCM) (T := TCM) (N := 23) hx hb hts inCM hown hK hP 0 rfl rfl 20 (by decide) (hts _ mw_449) (fun _ h9 => h9) rfl dCM_choose_48 ?_
      refine lv_iload hx hb dCM_choose_51 (lv_at hl 7 rfl) ?_
      refine lv_aload_n hx hb dCM_choose_53 rfl (lv_at hl 0 rfl) ?_
      refine va_get (D := (dC, dI)) (ci := 5) (v := .ref (ad 7)) (C := RCM) (T := TCM) (N := 23) hx hb hts inCM hown hK hP 0 rfl rfl 8 (by decide) (hts _ mw_403) (fun _ h9 => h9) rfl dCM_choose_54 ?_
      refine lv_iload hx hb dCM_choose_57 (lv_at hl 7 rfl) ?_
      obtain ⟨b50, h⟩ := gx_nb h
      refine va_iald hx hb hK hP 7 6 rfl rfl b50 dCM_choose_59 ?_
      refine lv_iload_n hx hb dCM_choose_60 rfl (lv_at hl 2 rfl) ?_
      refine lv_icmp_ne (tgt := 79) hx hb dCM_choose_61 (by decide) (fun c69 => ?_) (fun c69 => ?_)
      · have h := (if_neg c69).symm.trans h
        exact wCM_choose_b79 C hK hend ih _ _ _ _ _ _ _ _ _ _ _ _ hP hD hS (lv_sub hl [0, 1, 2, 3, 4, 5, 6, 7] rfl) h
      · have h := (if_pos c69).symm.trans h
        refine lv_aload_n hx hb dCM_choose_64 rfl (lv_at hl 0 rfl) ?_
        refine lv_iload hx hb dCM_choose_65 (lv_at hl 7 rfl) ?_
        refine lv_iload_n hx hb dCM_choose_67 rfl (lv_at hl 1 rfl) ?_
        refine lv_iload_n hx hb dCM_choose_68 rfl (lv_at hl 3 rfl) ?_
        obtain ⟨v67, ev67, h⟩ := Option.bind_eq_some_iff.mp h
        refine gcall_r (b := ad 0) (As := [.int (x7), .int (x1), .int (x3)]) (rest := [.int (x7), .ref (ad 17)]) C hK hP (ci := 5) (q0 := 0) rfl rfl (kCM_isSeen l dC dI ad cA σ x7 x1 x3 v67 ev67) (cwV 3 hts (gw mw_426 mw_427 mw_428 mw_363 mw_429) rfl rfl rfl hdCM_isSeen ⟨Nat.le_of_ble_eq_true rfl, Nat.le_of_ble_eq_true rfl⟩) rfl hl.1 rfl (Nat.le_of_ble_eq_true rfl) dCM_choose_69 ⟨Nat.le_refl _, Nat.le_refl _⟩ ?_
        refine lv_if_eq (tgt := 79) hx hb dCM_choose_72 (by decide) (fun c68 => ?_) (fun c68 => ?_)
        · have h := (if_pos c68).symm.trans h
          exact wCM_choose_b79 C hK hend ih _ _ _ _ _ _ _ _ _ _ _ _ hP hD hS (lv_sub hl [0, 1, 2, 3, 4, 5, 6, 7] rfl) h
        · have h := (if_neg c68).symm.trans h
          refine lv_iconst (v := (1 : Int32)) hx hb dCM_choose_75 (by decide) ?_
          refine lv_goto (tgt := 80) hx hb dCM_choose_76 (by decide) ?_
          exact wCM_choose_b80 C hK hend ih _ _ _ _ _ _ _ _ _ _ _ _ _ hP hD hS (lv_sub hl [0, 1, 2, 3, 4, 5, 6, 7] rfl) h
def fCM_choose (σ : xSt) (x1 : Int32) (x2 : Int32) (x3 : Int32) (x4 : Int32) : Option (Int32 × xSt) :=
  (fCM_isAsked σ x1 x2 x3).bind fun v1 =>
  if v1 = 0 then
    some ((-2 : Int32), σ)
  else
    if x4 < 0 then
      some ((-2 : Int32), σ)
    else
      if x4 ≤ (1 : Int32) then
        nm (sI σ 0 19 (0 : Int32)) fun σ2 =>
        fCM_choose_b38 gF σ2 x1 x2 x3 x4 (0 : Int32) (0 : Int32) (0 : Int32)
      else
        some ((-2 : Int32), σ)
set_option maxHeartbeats 4000000 in
set_option maxRecDepth 100000 in
theorem wCM_choose {p : Program} {l : Launch} {e : Env} {s : State} {m : MethodId} {args : Array Value} {below : List Frame} {meth : Method} {c : Code} {Q : State → Prop} {dC : Nat → ClassId} {dI : Nat → Nat → Nat} {ad : Nat → Nat} {cA : Nat → ClassId} {r : (Int32 × xSt)} (C : CallFix p m c cCM_choose 10 s args wAll RCM) (hK : va_K (dC, dI) vwC (mT cA) s) (hend : ∀ (v : Int32) (σ : xSt) (H : Heap) (locs : List Loc) (pc : Nat) (ls : Array Slot), (v, σ) = r → va_P (dC, dI) vwC (mW ad cA σ) H → va_S (mA ad) s.heap H locs → decode cCM_choose pc = .ok (.ireturn, 1) → W p l e rm_CM_choose s m args below meth c H locs 0 0 Q (F0 m pc ls [.int v])) {H : Heap} {locs : List Loc} {σ : xSt} (hP : va_P (dC, dI) vwC (mW ad cA σ) H) (hD : va_D (mA ad) (mW ad cA σ)) (hS : va_S (mA ad) s.heap H locs) {x1 : Int32} {x2 : Int32} {x3 : Int32} {x4 : Int32} (ls : Array Slot) (hl : lv_has ls 10 [(0, .ref (ad 0)), (1, .int (x1)), (2, .int (x2)), (3, .int (x3)), (4, .int (x4))]) (h : fCM_choose σ x1 x2 x3 x4 = some r) : W p l e rm_CM_choose s m args below meth c H locs 0 0 Q (F0 m 0 ls []) := by
  obtain ⟨hx, hb, hml, hown, hts⟩ := id C
  unfold fCM_choose at h
  refine lv_aload_n hx hb dCM_choose_0 rfl (lv_at hl 0 rfl) ?_
  refine lv_iload_n hx hb dCM_choose_1 rfl (lv_at hl 1 rfl) ?_
  refine lv_iload_n hx hb dCM_choose_2 rfl (lv_at hl 2 rfl) ?_
  refine lv_iload_n hx hb dCM_choose_3 rfl (lv_at hl 3 rfl) ?_
  obtain ⟨v1, ev1, h⟩ := Option.bind_eq_some_iff.mp h
  refine gcall_r (b := ad 0) (As := [.int (x1), .int (x2), .int (x3)]) (rest := []) C hK hP (ci := 5) (q0 := 0) rfl rfl (kCM_isAsked l dC dI ad cA σ x1 x2 x3 v1 ev1) (cwV 3 hts (gw mw_438 mw_439 mw_440 mw_363 mw_441) rfl rfl rfl hdCM_isAsked ⟨Nat.le_of_ble_eq_true rfl, Nat.le_of_ble_eq_true rfl⟩) rfl hl.1 rfl (Nat.le_of_ble_eq_true rfl) dCM_choose_4 ⟨Nat.le_refl _, Nat.le_refl _⟩ ?_
  refine lv_if_eq (tgt := 21) hx hb dCM_choose_7 (by decide) (fun c73 => ?_) (fun c73 => ?_)
  · have h := (if_pos c73).symm.trans h
    refine lv_bipush (v := (-2 : Int32)) hx hb dCM_choose_21 (by decide) ?_
    exact hend _ _ _ _ _ _ (Option.some.inj h) hP hS dCM_choose_23
  · have h := (if_neg c73).symm.trans h
    refine lv_iload hx hb dCM_choose_10 (lv_at hl 4 rfl) ?_
    refine lv_if_lt (tgt := 21) hx hb dCM_choose_12 (by decide) (fun c72 => ?_) (fun c72 => ?_)
    · have h := (if_pos c72).symm.trans h
      refine lv_bipush (v := (-2 : Int32)) hx hb dCM_choose_21 (by decide) ?_
      exact hend _ _ _ _ _ _ (Option.some.inj h) hP hS dCM_choose_23
    · have h := (if_neg c72).symm.trans h
      refine lv_iload hx hb dCM_choose_15 (lv_at hl 4 rfl) ?_
      refine lv_iconst (v := (1 : Int32)) hx hb dCM_choose_17 (by decide) ?_
      refine lv_icmp_le (tgt := 24) hx hb dCM_choose_18 (by decide) (fun c71 => ?_) (fun c71 => ?_)
      · have h := (if_pos c71).symm.trans h
        refine lv_aload_n hx hb dCM_choose_24 rfl (lv_at hl 0 rfl) ?_
        refine lv_iconst (v := (0 : Int32)) hx hb dCM_choose_25 (by decide) ?_
        refine va_put (D := (dC, dI)) (ci := 5) (v := .int ((0 : Int32))) (ty := .int) (C := RCM) (T := TCM) (N := 23) hx hb hts inCM tyCM tyCM_ok nnCM hown hK hP hD hS 0 rfl rfl 19 (by decide) (hts _ mw_448) (fun _ h9 => h9) rfl (by decide +kernel) rfl rfl (Nat.le_of_ble_eq_true rfl) dCM_choose_26 (fun H locs hP hD hS => ?_)
        obtain ⟨σ2, eσ2⟩ : ∃ z, z = sI σ 0 19 (0 : Int32) := ⟨_, rfl⟩
        have hP : va_P (dC, dI) vwC (mW ad cA σ2) H := by rw [eσ2]; exact hP
        have hD : va_D (mA ad) (mW ad cA σ2) := by rw [eσ2]; exact hD
        have h := nm_at eσ2 h
        refine lv_iconst (v := (0 : Int32)) hx hb dCM_choose_29 (by decide) ?_
        refine lv_istore (lv' := [(5, .int ((0 : Int32))), (0, .ref (ad 0)), (1, .int (x1)), (2, .int (x2)), (3, .int (x3)), (4, .int (x4))]) hx hb dCM_choose_30 hl (by decide) rfl (fun ls hl => ?_)
        refine lv_iconst (v := (0 : Int32)) hx hb dCM_choose_32 (by decide) ?_
        refine lv_istore (lv' := [(6, .int ((0 : Int32))), (5, .int ((0 : Int32))), (0, .ref (ad 0)), (1, .int (x1)), (2, .int (x2)), (3, .int (x3)), (4, .int (x4))]) hx hb dCM_choose_33 hl (by decide) rfl (fun ls hl => ?_)
        refine lv_iconst (v := (0 : Int32)) hx hb dCM_choose_35 (by decide) ?_
        refine lv_istore (lv' := [(7, .int ((0 : Int32))), (6, .int ((0 : Int32))), (5, .int ((0 : Int32))), (0, .ref (ad 0)), (1, .int (x1)), (2, .int (x2)), (3, .int (x3)), (4, .int (x4))]) hx hb dCM_choose_36 hl (by decide) rfl (fun ls hl => ?_)
        exact wCM_choose_b38 C hK hend _ _ _ _ _ _ _ _ _ _ _ _ hP hD hS (lv_sub hl [3, 4, 5, 6, 7, 2, 1, 0] rfl) h
      · have h := (if_neg c71).symm.trans h
        refine lv_bipush (v := (-2 : Int32)) hx hb dCM_choose_21 (by decide) ?_
        exact hend _ _ _ _ _ _ (Option.some.inj h) hP hS dCM_choose_23
set_option maxHeartbeats 4000000 in
set_option maxRecDepth 100000 in
theorem kCM_choose (l : Launch) (dC : Nat → ClassId) (dI : Nat → Nat → Nat) (ad : Nat → Nat) (cA : Nat → ClassId) (σ : xSt) (x1 : Int32) (x2 : Int32) (x3 : Int32) (x4 : Int32) (r : (Int32 × xSt)) (h : fCM_choose σ x1 x2 x3 x4 = some r) : Met l yCM_choose wsCM_choose rm_CM_choose (va_Pc [.ref (ad 0), .int (x1), .int (x2), .int (x3), .int (x4)] (fun U => va_P (dC, dI) vwC (mW ad cA σ) U.heap ∧ va_K (dC, dI) vwC (mT cA) U ∧ va_D (mA ad) (mW ad cA σ))) (va_Qi (fun (v : Int32) (u : xSt) => (v, u) = r) (fun u t => va_P (dC, dI) vwC (mW ad cA u) t.heap) (mA ad)) 0 0 (mA ad) := by
  refine Met.ofW (cc := cCM_choose) (maxL := 10) (ret := (some .int)) (by decide) rfl ?_
  intro p e s m args below meth c s₁ B hml hv
  obtain ⟨rfl, hP, hK, hD⟩ := hv
  have hr := B.returns
  have hlocks := B.notSynchronized
  have hl := lv_entry ([.ref (ad 0), .int (x1), .int (x2), .int (x3), .int (x4)]) (n := 10) (Nat.le_of_ble_eq_true rfl)
  rw [lg_entry_eq]
  exact wCM_choose ⟨B.exec, B.bytes, hml, findClass_of_methodNamed B.named, fun w h => atoms_spec (ws := wsCM_choose) B.pre w (List.mem_cons_of_mem _ h)⟩ hK (fun v σ H locs pc ls hv hP hS hd => W.iret (v := v) B.exec B.bytes hr (fun t ht hW => ⟨⟨v, σ, rfl, hv, by show va_P _ _ _ t.heap; rw [ht]; exact hP⟩, hS.F ht⟩) hS.2.2 hd) hP hD va_S.rf _ hl h
