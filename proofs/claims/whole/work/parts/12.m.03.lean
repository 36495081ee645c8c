abbrev rm_CM_has : Room := { frames := 0, cells := 0, slots := 0, locals := 0 }
def fCM_has (σ : xSt) (x1 : Int32) (x2 : Int32) : Option Int32 :=
  if x1 < 0 ∨ 60 ≤ x1.toNatClampNeg then none else
  if ((σ.1 8 x1.toNatClampNeg) &&& x2) = 0 then
    some (0 : Int32)
  else
    some (1 : Int32)
set_option maxHeartbeats 4000000 in
set_option maxRecDepth 100000 in
theorem wCM_has {p : Program} {l : Launch} {e : Env} {s : State} {m : MethodId} {args : Array Value} {below : List Frame} {meth : Method} {c : Code} {Q : State → Prop} {dC : Nat → ClassId} {dI : Nat → Nat → Nat} {ad : Nat → Nat} {cA : Nat → ClassId} {r : Int32} {H : Heap} {locs : List Loc} {σ : xSt} (C : CallFix p m c cCM_has 3 s args wAll RCM) (hK : va_K (dC, dI) vwC (mT cA) s) (hP : va_P (dC, dI) vwC (mW ad cA σ) H) (hend : ∀ (v : Int32) (pc : Nat) (ls : Array Slot), v = r → narrow .boolean (.int v) = .int v → decode cCM_has pc = .ok (.ireturn, 1) → W p l e rm_CM_has s m args below meth c H locs 0 0 Q (F0 m pc ls [.int v])) {x1 : Int32} {x2 : Int32} (ls : Array Slot) (hl : lv_has ls 3 [(0, .ref (ad 0)), (1, .int (x1)), (2, .int (x2))]) (h : fCM_has σ x1 x2 = some r) : W p l e rm_CM_has s m args below meth c H locs 0 0 Q (F0 m 0 ls []) := by
  obtain ⟨hx, hb, hml, hown, hts⟩ := id C
  unfold fCM_has at h
  refine lv_aload_n hx hb dCM_has_0 rfl (lv_at hl 0 rfl) ?_
  refine va_get (D := (dC, dI)) (ci := 5) (v := .ref (ad 8)) (C := RCM) (T := TCM) (N := 23) hx hb hts inCM hown hK hP 0 rfl rfl 9 (by decide) (hts _ mw_404) (fun _ h9 => h9) rfl dCM_has_1 ?_
  refine lv_iload_n hx hb dCM_has_4 rfl (lv_at hl 1 rfl) ?_
  obtain ⟨b1, h⟩ := gx_nb h
  refine va_iald hx hb hK hP 8 7 rfl rfl b1 dCM_has_5 ?_
  refine lv_iload_n hx hb dCM_has_6 rfl (lv_at hl 2 rfl) ?_
  refine lv_iand hx hb dCM_has_7 ?_
  refine lv_if_eq (tgt := 15) hx hb dCM_has_8 (by decide) (fun c2 => ?_) (fun c2 => ?_)
  · have h := (if_pos c2).symm.trans h
    refine lv_iconst (v := (0 : Int32)) hx hb dCM_has_15 (by decide) ?_
    exact hend _ _ _ (Option.some.inj h) rfl dCM_has_16
  · have h := (if_neg c2).symm.trans h
    refine lv_iconst (v := (1 : Int32)) hx hb dCM_has_11 (by decide) ?_
    refine lv_goto (tgt := 16) hx hb dCM_has_12 (by decide) ?_
    exact hend _ _ _ (Option.some.inj h) rfl dCM_has_16
set_option maxHeartbeats 4000000 in
set_option maxRecDepth 100000 in
theorem kCM_has (l : Launch) (dC : Nat → ClassId) (dI : Nat → Nat → Nat) (ad : Nat → Nat) (cA : Nat → ClassId) (σ : xSt) (x1 : Int32) (x2 : Int32) (r : Int32) (h : fCM_has σ x1 x2 = some r) : Met l yCM_has wsCM_has rm_CM_has (va_Pc [.ref (ad 0), .int (x1), .int (x2)] (fun U => va_P (dC, dI) vwC (mW ad cA σ) U.heap ∧ va_K (dC, dI) vwC (mT cA) U)) (vp_Si (fun v => v = r)) 0 0 (fun _ => False) := by
  refine Met.ofW (cc := cCM_has) (maxL := 3) (ret := (some .boolean)) (by decide) rfl ?_
  intro p e s m args below meth c s₁ B hml hv
  obtain ⟨rfl, hP, hK⟩ := hv
  have hr := B.returns
  have hlocks := B.notSynchronized
  have hl := lv_entry ([.ref (ad 0), .int (x1), .int (x2)]) (n := 3) (Nat.le_of_ble_eq_true rfl)
  rw [lg_entry_eq]
  exact wCM_has ⟨B.exec, B.bytes, hml, findClass_of_methodNamed B.named, fun w h => atoms_spec (ws := wsCM_has) B.pre w (List.mem_cons_of_mem _ h)⟩ hK hP (fun v pc ls hv hn hd => W.zret (v := v) B.exec B.bytes hr hn (fun t ht hW => ⟨v, rfl, hv, ht⟩) (fun q hq => absurd hq List.not_mem_nil) hd) _ hl h
abbrev rm_CM_sameParams : Room := { frames := 0, cells := 0, slots := 0, locals := 0 }
def fCM_sameParams_b69 (k24 : Int32 → Int32 → Int32 → Int32 → Option Int32) (σ : xSt) (x1 : Int32) (x2 : Int32) (x4 : Int32) (s0 : Int32) : Option Int32 :=
  k24 x1 x2 s0 (x4 + (1 : Int32))
set_option maxHeartbeats 4000000 in
set_option maxRecDepth 100000 in
theorem wCM_sameParams_b69 {p : Program} {l : Launch} {e : Env} {s : State} {m : MethodId} {args : Array Value} {below : List Frame} {meth : Method} {c : Code} {Q : State → Prop} {dC : Nat → ClassId} {dI : Nat → Nat → Nat} {ad : Nat → Nat} {cA : Nat → ClassId} {r : Int32} {H : Heap} {locs : List Loc} {σ : xSt} (C : CallFix p m c cCM_sameParams 5 s args wAll RCM) (hK : va_K (dC, dI) vwC (mT cA) s) (hP : va_P (dC, dI) vwC (mW ad cA σ) H) (hend : ∀ (v : Int32) (pc : Nat) (ls : Array Slot), v = r → narrow .boolean (.int v) = .int v → decode cCM_sameParams pc = .ok (.ireturn, 1) → W p l e rm_CM_sameParams s m args below meth c H locs 0 0 Q (F0 m pc ls [.int v])) {k24 : Int32 → Int32 → Int32 → Int32 → Option Int32} (hk24 : ∀ (x1 : Int32) (x2 : Int32) (x3 : Int32) (x4 : Int32) (ls : Array Slot), lv_has ls 5 [(0, .ref (ad 0)), (1, .int (x1)), (2, .int (x2)), (3, .int (x3)), (4, .int (x4))] → k24 x1 x2 x3 x4 = some r → W p l e rm_CM_sameParams s m args below meth c H locs 0 0 Q (F0 m 24 ls [])) :
    ∀ (x1 : Int32) (x2 : Int32) (x4 : Int32) (s0 : Int32) (ls : Array Slot), lv_has ls 5 [(0, .ref (ad 0)), (1, .int (x1)), (2, .int (x2)), (4, .int (x4))] → fCM_sameParams_b69 k24 σ x1 x2 x4 s0 = some r → W p l e rm_CM_sameParams s m args below meth c H locs 0 0 Q (F0 m 69 ls [.int (s0)]) := by
  obtain ⟨hx, hb, hml, hown, hts⟩ := id C
  intro x1 x2 x4 s0 ls hl h
  unfold fCM_sameParams_b69 at h
  refine lv_istore_n (lv' := [(3, .int (s0)), (0, .ref (ad 0)), (1, .int (x1)), (2, .int (x2)), (4, .int (x4))]) hx hb dCM_sameParams_69 rfl hl (by decide) rfl (fun ls hl => ?_)
  refine lv_iinc (v := x4 + (1 : Int32)) (lv' := [(4, .int (x4 + (1 : Int32))), (3, .int (s0)), (0, .ref (ad 0)), (1, .int (x1)), (2, .int (x2))]) hx hb dCM_sameParams_70 hl (k := 4) rfl rfl (by decide) rfl (fun ls hl => ?_)
  refine lv_goto (tgt := 24) hx hb dCM_sameParams_73 (by decide) ?_
  exact hk24 _ _ _ _ _ (lv_sub hl [2, 3, 4, 1, 0] rfl) h
def fCM_sameParams_b24 (σ : xSt) : Nat → Int32 → Int32 → Int32 → Int32 → Option Int32
  | 0, _, _, _, _ => none
  | n + 1, x1, x2, x3, x4 =>
    if x1 < 0 ∨ 60 ≤ x1.toNatClampNeg then none else
    if (σ.1 10 x1.toNatClampNeg) ≤ x4 then
      if x3 &&& 1 = x3 then
        some x3
      else none
    else
      if x3 = 0 then
        if x3 &&& 1 = x3 then
          some x3
        else none
      else
        if (((4 : Int32) * x1) + x4) < 0 ∨ 240 ≤ (((4 : Int32) * x1) + x4).toNatClampNeg then none else
        if (((4 : Int32) * x2) + x4) < 0 ∨ 240 ≤ (((4 : Int32) * x2) + x4).toNatClampNeg then none else
        if (σ.1 11 (((4 : Int32) * x1) + x4).toNatClampNeg) = (σ.1 11 (((4 : Int32) * x2) + x4).toNatClampNeg) then
          fCM_sameParams_b69 (fCM_sameParams_b24 σ n) σ x1 x2 x4 (1 : Int32)
        else
          fCM_sameParams_b69 (fCM_sameParams_b24 σ n) σ x1 x2 x4 (0 : Int32)
set_option maxHeartbeats 4000000 in
set_option maxRecDepth 100000 in
theorem wCM_sameParams_b24 {p : Program} {l : Launch} {e : Env} {s : State} {m : MethodId} {args : Array Value} {below : List Frame} {meth : Method} {c : Code} {Q : State → Prop} {dC : Nat → ClassId} {dI : Nat → Nat → Nat} {ad : Nat → Nat} {cA : Nat → ClassId} {r : Int32} {H : Heap} {locs : List Loc} {σ : xSt} (C : CallFix p m c cCM_sameParams 5 s args wAll RCM) (hK : va_K (dC, dI) vwC (mT cA) s) (hP : va_P (dC, dI) vwC (mW ad cA σ) H) (hend : ∀ (v : Int32) (pc : Nat) (ls : Array Slot), v = r → narrow .boolean (.int v) = .int v → decode cCM_sameParams pc = .ok (.ireturn, 1) → W p l e rm_CM_sameParams s m args below meth c H locs 0 0 Q (F0 m pc ls [.int v])) :
    ∀ (n : Nat) (x1 : Int32) (x2 : Int32) (x3 : Int32) (x4 : Int32) (ls : Array Slot), lv_has ls 5 [(0, .ref (ad 0)), (1, .int (x1)), (2, .int (x2)), (3, .int (x3)), (4, .int (x4))] → fCM_sameParams_b24 σ n x1 x2 x3 x4 = some r → W p l e rm_CM_sameParams s m args below meth c H locs 0 0 Q (F0 m 24 ls []) := by
  obtain ⟨hx, hb, hml, hown, hts⟩ := id C
  intro n
  induction n with
  | zero =>
    intro x1 x2 x3 x4 ls hl h
    rw [fCM_sameParams_b24] at h
    cases h
  | succ n ih =>
    intro x1 x2 x3 x4 ls hl h
    rw [fCM_sameParams_b24] at h
    refine lv_iload hx hb dCM_sameParams_24 (lv_at hl 4 rfl) ?_
    refine lv_aload_n hx hb dCM_sameParams_26 rfl (lv_at hl 0 rfl) ?_
    refine va_get (D := (dC, dI)) (ci := 5) (v := .ref (ad 10)) (C := RCM) (T := TCM) (N := 23) hx hb hts inCM hown hK hP 0 rfl rfl 11 (by decide) (hts _ mw_406) (fun _ h9 => h9) rfl dCM_sameParams_27 ?_
    refine lv_iload_n hx hb dCM_sameParams_30 rfl (lv_at hl 1 rfl) ?_
    obtain ⟨b3, h⟩ := gx_nb h
    refine va_iald hx hb hK hP 10 9 rfl rfl b3 dCM_sameParams_31 ?_
    refine lv_icmp_ge (tgt := 76) hx hb dCM_sameParams_32 (by decide) (fun c10 => ?_) (fun c10 => ?_)
    · have h := (if_pos c10).symm.trans h
      refine lv_iload_n hx hb dCM_sameParams_76 rfl (lv_at hl 3 rfl) ?_
      obtain ⟨b4, h⟩ := gx_gd h
      exact hend _ _ _ (Option.some.inj h) (gx_nar b4) dCM_sameParams_77
    · have h := (if_neg c10).symm.trans h
      refine lv_iload_n hx hb dCM_sameParams_35 rfl (lv_at hl 3 rfl) ?_
      refine lv_if_eq (tgt := 76) hx hb dCM_sameParams_36 (by decide) (fun c9 => ?_) (fun c9 => ?_)
      · have h := (if_pos c9).symm.trans h
        refine lv_iload_n hx hb dCM_sameParams_76 rfl (lv_at hl 3 rfl) ?_
        obtain ⟨b5, h⟩ := gx_gd h
        exact hend _ _ _ (Option.some.inj h) (gx_nar b5) dCM_sameParams_77
      · have h := (if_neg c9).symm.trans h
        refine lv_aload_n hx hb dCM_sameParams_39 rfl (lv_at hl 0 rfl) ?_
        refine va_get (D := (dC, dI)) (ci := 5) (v := .ref (ad 11)) (C := RCM) (T := TCM) (N := 23) hx hb hts inCM hown hK hP 0 rfl rfl 12 (by decide) (hts _ mw_407) (fun _ h9 => h9) rfl dCM_sameParams_40 ?_
        refine lv_iconst (v := (4 : Int32)) hx hb dCM_sameParams_43 (by decide) ?_
        refine lv_iload_n hx hb dCM_sameParams_44 rfl (lv_at hl 1 rfl) ?_
        refine lv_imul hx hb dCM_sameParams_45 ?_
        refine lv_iload hx hb dCM_sameParams_46 (lv_at hl 4 rfl) ?_
        refine lv_iadd hx hb dCM_sameParams_48 ?_
        obtain ⟨b6, h⟩ := gx_nb h
        refine va_iald hx hb hK hP 11 10 rfl rfl b6 dCM_sameParams_49 ?_
        refine lv_aload_n hx hb dCM_sameParams_50 rfl (lv_at hl 0 rfl) ?_
        refine va_get (D := (dC, dI)) (ci := 5) (v := .ref (ad 11)) (C := RCM) (T := TCM) (N := 23) hx hb hts inCM hown hK hP 0 rfl rfl 12 (by decide) (hts _ mw_407) (fun _ h9 => h9) rfl dCM_sameParams_51 ?_
        refine lv_iconst (v := (4 : Int32)) hx hb dCM_sameParams_54 (by decide) ?_
        refine lv_iload_n hx hb dCM_sameParams_55 rfl (lv_at hl 2 rfl) ?_
        refine lv_imul hx hb dCM_sameParams_56 ?_
        refine lv_iload hx hb dCM_sameParams_57 (lv_at hl 4 rfl) ?_
        refine lv_iadd hx hb dCM_sameParams_59 ?_
        obtain ⟨b7, h⟩ := gx_nb h
        refine va_iald hx hb hK hP 11 10 rfl rfl b7 dCM_sameParams_60 ?_
        refine lv_icmp_ne (tgt := 68) hx hb dCM_sameParams_61 (by decide) (fun c8 => ?_) (fun c8 => ?_)
        · have h := (if_neg c8).symm.trans h
          refine lv_iconst (v := (0 : Int32)) hx hb dCM_sameParams_68 (by decide) ?_
          exact wCM_sameParams_b69 C hK hP hend ih _ _ _ _ _ (lv_sub hl [0, 1, 2, 4] rfl) h
        · have h := (if_pos c8).symm.trans h
          refine lv_iconst (v := (1 : Int32)) hx hb dCM_sameParams_64 (by decide) ?_
          refine lv_goto (tgt := 69) hx hb dCM_sameParams_65 (by decide) ?_
          exact wCM_sameParams_b69 C hK hP hend ih _ _ _ _ _ (lv_sub hl [0, 1, 2, 4] rfl) h
def fCM_sameParams_b20 (σ : xSt) (x1 : Int32) (x2 : Int32) (s0 : Int32) : Option Int32 :=
  fCM_sameParams_b24 σ gF x1 x2 s0 (0 : Int32)
set_option maxHeartbeats 4000000 in
set_option maxRecDepth 100000 in
theorem wCM_sameParams_b20 {p : Program} {l : Launch} {e : Env} {s : State} {m : MethodId} {args : Array Value} {below : List Frame} {meth : Method} {c : Code} {Q : State → Prop} {dC : Nat → ClassId} {dI : Nat → Nat → Nat} {ad : Nat → Nat} {cA : Nat → ClassId} {r : Int32} {H : Heap} {locs : List Loc} {σ : xSt} (C : CallFix p m c cCM_sameParams 5 s args wAll RCM) (hK : va_K (dC, dI) vwC (mT cA) s) (hP : va_P (dC, dI) vwC (mW ad cA σ) H) (hend : ∀ (v : Int32) (pc : Nat) (ls : Array Slot), v = r → narrow .boolean (.int v) = .int v → decode cCM_sameParams pc = .ok (.ireturn, 1) → W p l e rm_CM_sameParams s m args below meth c H locs 0 0 Q (F0 m pc ls [.int v])) :
    ∀ (x1 : Int32) (x2 : Int32) (s0 : Int32) (ls : Array Slot), lv_has ls 5 [(0, .ref (ad 0)), (1, .int (x1)), (2, .int (x2))] → fCM_sameParams_b20 σ x1 x2 s0 = some r → W p l e rm_CM_sameParams s m args below meth c H locs 0 0 Q (F0 m 20 ls [.int (s0)]) := by
  obtain ⟨hx, hb, hml, hown, hts⟩ := id C
  intro x1 x2 s0 ls hl h
  unfold fCM_sameParams_b20 at h
  refine lv_istore_n (lv' := [(3, .int (s0)), (0, .ref (ad 0)), (1, .int (x1)), (2, .int (x2))]) hx hb dCM_sameParams_20 rfl hl (by decide) rfl (fun ls hl => ?_)
  refine lv_iconst (v := (0 : Int32)) hx hb dCM_sameParams_21 (by decide) ?_
  refine lv_istore (lv' := [(4, .int ((0 : Int32))), (3, .int (s0)), (0, .ref (ad 0)), (1, .int (x1)), (2, .int (x2))]) hx hb dCM_sameParams_22 hl (by decide) rfl (fun ls hl => ?_)
  exact wCM_sameParams_b24 C hK hP hend _ _ _ _ _ _ (lv_sub hl [2, 3, 4, 1, 0] rfl) h
def fCM_sameParams (σ : xSt) (x1 : Int32) (x2 : Int32) : Option Int32 :=
  if x1 < 0 ∨ 60 ≤ x1.toNatClampNeg then none else
  if x2 < 0 ∨ 60 ≤ x2.toNatClampNeg then none else
  if (σ.1 10 x1.toNatClampNeg) = (σ.1 10 x2.toNatClampNeg) then
    fCM_sameParams_b20 σ x1 x2 (1 : Int32)
  else
    fCM_sameParams_b20 σ x1 x2 (0 : Int32)
set_option maxHeartbeats 4000000 in
set_option maxRecDepth 100000 in
theorem wCM_sameParams {p : Program} {l : Launch} {e : Env} {s : State} {m : MethodId} {args : Array Value} {below : List Frame} {meth : Method} {c : Code} {Q : State → Prop} {dC : Nat → ClassId} {dI : Nat → Nat → Nat} {ad : Nat → Nat} {cA : Nat → ClassId} {r : Int32} {H : Heap} {locs : List Loc} {σ : xSt} (C : CallFix p m c cCM_sameParams 5 s args wAll RCM) (hK : va_K (dC, dI) vwC (mT cA) s) (hP : va_P (dC, dI) vwC (mW ad cA σ) H) (hend : ∀ (v : Int32) (pc : Nat) (ls : Array Slot), v = r → narrow .boolean (.int v) = .int v → decode cCM_sameParams pc = .ok (.ireturn, 1) → W p l e rm_CM_sameParams s m args below meth c H locs 0 0 Q (F0 m pc ls [.int v])) {x1 : Int32} {x2 : Int32} (ls : Array Slot) (hl : lv_has ls 5 [(0, .ref (ad 0)), (1, .int (x1)), (2, .int (x2))]) (h : fCM_sameParams σ x1 x2 = some r) : W p l e rm_CM_sameParams s m args below meth c H locs 0 0 Q (F0 m 0 ls []) := by
  obtain ⟨hx, hb, hml, hown, hts⟩ := id C
  unfold fCM_sameParams at h
  refine lv_aload_n hx hb dCM_sameParams_0 rfl (lv_at hl 0 rfl) ?_
  refine va_get (D := (dC, dI)) (ci := 5) (v := .ref (ad 10)) (C := RCM) (T := TCM) (N := 23) hx hb hts inCM hown hK hP 0 rfl rfl 11 (by decide) (hts _ mw_406) (fun _ h9 => h9) rfl dCM_sameParams_1 ?_
  refine lv_iload_n hx hb dCM_sameParams_4 rfl (lv_at hl 1 rfl) ?_
  obtain ⟨b1, h⟩ := gx_nb h
  refine va_iald hx hb hK hP 10 9 rfl rfl b1 dCM_sameParams_5 ?_
  refine lv_aload_n hx hb dCM_sameParams_6 rfl (lv_at hl 0 rfl) ?_
  refine va_get (D := (dC, dI)) (ci := 5) (v := .ref (ad 10)) (C := RCM) (T := TCM) (N := 23) hx hb hts inCM hown hK hP 0 rfl rfl 11 (by decide) (hts _ mw_406) (fun _ h9 => h9) rfl dCM_sameParams_7 ?_
  refine lv_iload_n hx hb dCM_sameParams_10 rfl (lv_at hl 2 rfl) ?_
  obtain ⟨b2, h⟩ := gx_nb h
  refine va_iald hx hb hK hP 10 9 rfl rfl b2 dCM_sameParams_11 ?_
  refine lv_icmp_ne (tgt := 19) hx hb dCM_sameParams_12 (by decide) (fun c11 => ?_) (fun c11 => ?_)
  · have h := (if_neg c11).symm.trans h
    refine lv_iconst (v := (0 : Int32)) hx hb dCM_sameParams_19 (by decide) ?_
    exact wCM_sameParams_b20 C hK hP hend _ _ _ _ (lv_sub hl [0, 1, 2] rfl) h
  · have h := (if_pos c11).symm.trans h
    refine lv_iconst (v := (1 : Int32)) hx hb dCM_sameParams_15 (by decide) ?_
    refine lv_goto (tgt := 20) hx hb dCM_sameParams_16 (by decide) ?_
    exact wCM_sameParams_b20 C hK hP hend _ _ _ _ (lv_sub hl [0, 1, 2] rfl) h
set_option maxHeartbeats 4000000 in
set_option maxRecDepth 100000 in
theorem kCM_sameParams (l : Launch) (dC : Nat → ClassId) (dI : Nat → Nat → Nat) (ad : Nat → Nat) (cA : Nat → ClassId) (σ : xSt) (x1 : Int32) (x2 : Int32) (r : Int32) (h : fCM_sameParams σ x1 x2 = some r) : Met l yCM_sameParams wsCM_sameParams rm_CM_sameParams (va_Pc [.ref (ad 0), .int (x1), .int (x2)] (fun U => va_P (dC, dI) vwC (mW ad cA σ) U.heap ∧ va_K (dC, dI) vwC (mT cA) U)) (vp_Si (fun v => v = r)) 0 0 (fun _ => False) := by
  refine Met.ofW (cc := cCM_sameParams) (maxL := 5) (ret := (some .boolean)) (by decide) rfl ?_
  intro p e s m args below meth c s₁ B hml hv
  obtain ⟨rfl, hP, hK⟩ := hv
  have hr := B.returns
  have hlocks := B.notSynchronized
  have hl := lv_entry ([.ref (ad 0), .int (x1), .int (x2)]) (n := 5) (Nat.le_of_ble_eq_true rfl)
  rw [lg_entry_eq]
  exact wCM_sameParams ⟨B.exec, B.bytes, hml, findClass_of_methodNamed B.named, fun w h => atoms_spec (ws := wsCM_sameParams) B.pre w (List.mem_cons_of_mem _ h)⟩ hK hP (fun v pc ls hv hn hd => W.zret (v := v) B.exec B.bytes hr hn (fun t ht hW => ⟨v, rfl, hv, ht⟩) (fun q hq => absurd hq List.not_mem_nil) hd) _ hl h
abbrev rm_CM_isSeen : Room := { frames := 3, cells := 0, slots := 0, locals := 65 }
def fCM_isSeen_b178 (k58 : Int32 → Int32 → Int32 → Option Int32) (σ : xSt) (x1 : Int32) (x2 : Int32) (x4 : Int32) : Option Int32 :=
  k58 x1 x2 (x4 + (1 : Int32))
set_option maxHeartbeats 4000000 in
set_option maxRecDepth 100000 in
theorem wCM_isSeen_b178 {p : Program} {l : Launch} {e : Env} {s : State} {m : MethodId} {args : Array Value} {below : List Frame} {meth : Method} {c : Code} {Q : State → Prop} {dC : Nat → ClassId} {dI : Nat → Nat → Nat} {ad : Nat → Nat} {cA : Nat → ClassId} {r : Int32} {H : Heap} {locs : List Loc} {σ : xSt} (C : CallFix p m c cCM_isSeen 6 s args wAll RCM) (hK : va_K (dC, dI) vwC (mT cA) s) (hP : va_P (dC, dI) vwC (mW ad cA σ) H) (hend : ∀ (v : Int32) (pc : Nat) (ls : Array Slot), v = r → narrow .boolean (.int v) = .int v → decode cCM_isSeen pc = .ok (.ireturn, 1) → W p l e rm_CM_isSeen s m args below meth c H locs 0 0 Q (F0 m pc ls [.int v])) {k58 : Int32 → Int32 → Int32 → Option Int32} (hk58 : ∀ (x1 : Int32) (x2 : Int32) (x4 : Int32) (ls : Array Slot), lv_has ls 6 [(0, .ref (ad 0)), (1, .int (x1)), (2, .int (x2)), (4, .int (x4))] → k58 x1 x2 x4 = some r → W p l e rm_CM_isSeen s m args below meth c H locs 0 0 Q (F0 m 58 ls [])) :
    ∀ (x1 : Int32) (x2 : Int32) (x4 : Int32) (ls : Array Slot), lv_has ls 6 [(0, .ref (ad 0)), (1, .int (x1)), (2, .int (x2)), (4, .int (x4))] → fCM_isSeen_b178 k58 σ x1 x2 x4 = some r → W p l e rm_CM_isSeen s m args below meth c H locs 0 0 Q (F0 m 178 ls []) := by
  obtain ⟨hx, hb, hml, hown, hts⟩ := id C
  intro x1 x2 x4 ls hl h
  unfold fCM_isSeen_b178 at h
  refine lv_iinc (v := x4 + (1 : Int32)) (lv' := [(4, .int (x4 + (1 : Int32))), (0, .ref (ad 0)), (1, .int (x1)), (2, .int (x2))]) hx hb dCM_isSeen_178 hl (k := 3) rfl rfl (by decide) rfl (fun ls hl => ?_)
  refine lv_goto (tgt := 58) hx hb dCM_isSeen_181 (by decide) ?_
  exact hk58 _ _ _ _ (lv_sub hl [1, 2, 3, 0] rfl) h
def fCM_isSeen_b134 (k58 : Int32 → Int32 → Int32 → Option Int32) (σ : xSt) (x1 : Int32) (x2 : Int32) (x4 : Int32) (s0 : Int32) : Option Int32 :=
  if s0 = 0 then
    fCM_isSeen_b178 k58 σ x1 x2 x4
  else
    if x4 < 0 ∨ 60 ≤ x4.toNatClampNeg then none else
    (fCM_isIt σ x2 (σ.1 6 x4.toNatClampNeg)).bind fun v9 =>
    if v9 = 0 then
      fCM_isSeen_b178 k58 σ x1 x2 x4
    else
      if x4 < 0 ∨ 60 ≤ x4.toNatClampNeg then none else
      if x1 < 0 ∨ 60 ≤ x1.toNatClampNeg then none else
      (fCM_isIt σ (σ.1 6 x4.toNatClampNeg) (σ.1 6 x1.toNatClampNeg)).bind fun v12 =>
      if v12 = 0 then
        fCM_isSeen_b178 k58 σ x1 x2 x4
      else
        some (0 : Int32)
set_option maxHeartbeats 4000000 in
set_option maxRecDepth 100000 in
theorem wCM_isSeen_b134 {p : Program} {l : Launch} {e : Env} {s : State} {m : MethodId} {args : Array Value} {below : List Frame} {meth : Method} {c : Code} {Q : State → Prop} {dC : Nat → ClassId} {dI : Nat → Nat → Nat} {ad : Nat → Nat} {cA : Nat → ClassId} {r : Int32} {H : Heap} {locs : List Loc} {σ : xSt} (C : CallFix p m c cCM_isSeen 6 s args wAll RCM) (hK : va_K (dC, dI) vwC (mT cA) s) (hP : va_P (dC, dI) vwC (mW ad cA σ) H) (hend : ∀ (v : Int32) (pc : Nat) (ls : Array Slot), v = r → narrow .boolean (.int v) = .int v → decode cCM_isSeen pc = .ok (.ireturn, 1) → W p l e rm_CM_isSeen s m args below meth c H locs 0 0 Q (F0 m pc ls [.int v])) {k58 : Int32 → Int32 → Int32 → Option Int32} (hk58 : ∀ (x1 : Int32) (x2 : Int32) (x4 : Int32) (ls : Array Slot), lv_has ls 6 [(0, .ref (ad 0)), (1, .int (x1)), (2, .int (x2)), (4, .int (x4))] → k58 x1 x2 x4 = some r → W p l e rm_CM_isSeen s m args below meth c H locs 0 0 Q (F0 m 58 ls [])) :
    ∀ (x1 : Int32) (x2 : Int32) (x4 : Int32) (s0 : Int32) (ls : Array Slot), lv_has ls 6 [(0, .ref (ad 0)), (1, .int (x1)), (2, .int (x2)), (4, .int (x4))] → fCM_isSeen_b134 k58 σ x1 x2 x4 s0 = some r → W p l e rm_CM_isSeen s m args below meth c H locs 0 0 Q (F0 m 134 ls [.int (s0)]) := by
  obtain ⟨hx, hb, hml, hown, hts⟩ := id C
  intro x1 x2 x4 s0 ls hl h
  unfold fCM_isSeen_b134 at h
  refine lv_istore (lv' := [(5, .int (s0)), (0, .ref (ad 0)), (1, .int (x1)), (2, .int (x2)), (4, .int (x4))]) hx hb dCM_isSeen_134 hl (by decide) rfl (fun ls hl => ?_)
  refine lv_iload hx hb dCM_isSeen_136 (lv_at hl 0 rfl) ?_
  refine lv_if_eq (tgt := 178) hx hb dCM_isSeen_138 (by decide) (fun c15 => ?_) (fun c15 => ?_)
  · have h := (if_pos c15).symm.trans h
    exact wCM_isSeen_b178 C hK hP hend hk58 _ _ _ _ (lv_sub hl [1, 2, 3, 4] rfl) h
  · have h := (if_neg c15).symm.trans h
    refine lv_aload_n hx hb dCM_isSeen_141 rfl (lv_at hl 1 rfl) ?_
    refine lv_iload_n hx hb dCM_isSeen_142 rfl (lv_at hl 3 rfl) ?_
    refine lv_aload_n hx hb dCM_isSeen_143 rfl (lv_at hl 1 rfl) ?_
    refine va_get (D := (dC, dI)) (ci := 5) (v := .ref (ad 6)) (C := RCM) (T := TCM) (N := 23) hx hb hts inCM hown hK hP 0 rfl rfl 7 (by decide) (hts _ mw_402) (fun _ h9 => h9) rfl dCM_isSeen_144 ?_
    refine lv_iload hx hb dCM_isSeen_147 (lv_at hl 4 rfl) ?_
    obtain ⟨b8, h⟩ := gx_nb h
    refine va_iald hx hb hK hP 6 5 rfl rfl b8 dCM_isSeen_149 ?_
    obtain ⟨v9, ev9, h⟩ := Option.bind_eq_some_iff.mp h
    refine gcall_r (b := ad 0) (As := [.int (x2), .int (σ.1 6 x4.toNatClampNeg)]) (rest := []) C hK hP (ci := 5) (q0 := 0) rfl rfl (kCM_isIt l dC dI ad cA σ x2 (σ.1 6 x4.toNatClampNeg) v9 ev9) (cwV 2 hts (gw mw_390 mw_391 mw_392 mw_363 mw_393) rfl rfl rfl hdCM_isIt ⟨Nat.le_of_ble_eq_true rfl, Nat.le_of_ble_eq_true rfl⟩) rfl hl.1 rfl (Nat.le_of_ble_eq_true rfl) dCM_isSeen_150 ⟨Nat.le_refl _, Nat.le_refl _⟩ ?_
    refine lv_if_eq (tgt := 178) hx hb dCM_isSeen_153 (by decide) (fun c14 => ?_) (fun c14 => ?_)
    · have h := (if_pos c14).symm.trans h
      exact wCM_isSeen_b178 C hK hP hend hk58 _ _ _ _ (lv_sub hl [1, 2, 3, 4] rfl) h
    · have h := (if_neg c14).symm.trans h
      refine lv_aload_n hx hb dCM_isSeen_156 rfl (lv_at hl 1 rfl) ?_
      refine lv_aload_n hx hb dCM_isSeen_157 rfl (lv_at hl 1 rfl) ?_
      refine va_get (D := (dC, dI)) (ci := 5) (v := .ref (ad 6)) (C := RCM) (T := TCM) (N := 23) hx hb hts inCM hown hK hP 0 rfl rfl 7 (by decide) (hts _ mw_402) (fun _ h9 => h9) rfl dCM_isSeen_158 ?_
      refine lv_iload hx hb dCM_isSeen_161 (lv_at hl 4 rfl) ?_
      obtain ⟨b10, h⟩ := gx_nb h
      refine va_iald hx hb hK hP 6 5 rfl rfl b10 dCM_isSeen_163 ?_
      refine lv_aload_n hx hb dCM_isSeen_164 rfl (lv_at hl 1 rfl) ?_
      refine va_get (D := (dC, dI)) (ci := 5) (v := .ref (ad 6)) (C := RCM) (T := TCM) (N := 23) hx hb hts inCM hown hK hP 0 rfl rfl 7 (by decide) (hts _ mw_402) (fun _ h9 => h9) rfl dCM_isSeen_165 ?_
      refine lv_iload_n hx hb dCM_isSeen_168 rfl (lv_at hl 2 rfl) ?_
      obtain ⟨b11, h⟩ := gx_nb h
      refine va_iald hx hb hK hP 6 5 rfl rfl b11 dCM_isSeen_169 ?_
      obtain ⟨v12, ev12, h⟩ := Option.bind_eq_some_iff.mp h
      refine gcall_r (b := ad 0) (As := [.int (σ.1 6 x4.toNatClampNeg), .int (σ.1 6 x1.toNatClampNeg)]) (rest := []) C hK hP (ci := 5) (q0 := 0) rfl rfl (kCM_isIt l dC dI ad cA σ (σ.1 6 x4.toNatClampNeg) (σ.1 6 x1.toNatClampNeg) v12 ev12) (cwV 2 hts (gw mw_390 mw_391 mw_392 mw_363 mw_393) rfl rfl rfl hdCM_isIt ⟨Nat.le_of_ble_eq_true rfl, Nat.le_of_ble_eq_true rfl⟩) rfl hl.1 rfl (Nat.le_of_ble_eq_true rfl) dCM_isSeen_170 ⟨Nat.le_refl _, Nat.le_refl _⟩ ?_
      refine lv_if_eq (tgt := 178) hx hb dCM_isSeen_173 (by decide) (fun c13 => ?_) (fun c13 => ?_)
      · have h := (if_pos c13).symm.trans h
        exact wCM_isSeen_b178 C hK hP hend hk58 _ _ _ _ (lv_sub hl [1, 2, 3, 4] rfl) h
      · have h := (if_neg c13).symm.trans h
        refine lv_iconst (v := (0 : Int32)) hx hb dCM_isSeen_176 (by decide) ?_
        exact hend _ _ _ (Option.some.inj h) rfl dCM_isSeen_177
def fCM_isSeen_b133 (k58 : Int32 → Int32 → Int32 → Option Int32) (σ : xSt) (x1 : Int32) (x2 : Int32) (x4 : Int32) : Option Int32 :=
  fCM_isSeen_b134 k58 σ x1 x2 x4 (0 : Int32)
set_option maxHeartbeats 4000000 in
set_option maxRecDepth 100000 in
theorem wCM_isSeen_b133 {p : Program} {l : Launch} {e : Env} {s : State} {m : MethodId} {args : Array Value} {below : List Frame} {meth : Method} {c : Code} {Q : State → Prop} {dC : Nat → ClassId} {dI : Nat → Nat → Nat} {ad : Nat → Nat} {cA : Nat → ClassId} {r : Int32} {H : Heap} {locs : List Loc} {σ : xSt} (C : CallFix p m c cCM_isSeen 6 s args wAll RCM) (hK : va_K (dC, dI) vwC (mT cA) s) (hP : va_P (dC, dI) vwC (mW ad cA σ) H) (hend : ∀ (v : Int32) (pc : Nat) (ls : Array Slot), v = r → narrow .boolean (.int v) = .int v → decode cCM_isSeen pc = .ok (.ireturn, 1) → W p l e rm_CM_isSeen s m args below meth c H locs 0 0 Q (F0 m pc ls [.int v])) {k58 : Int32 → Int32 → Int32 → Option Int32} (hk58 : ∀ (x1 : Int32) (x2 : Int32) (x4 : Int32) (ls : Array Slot), lv_has ls 6 [(0, .ref (ad 0)), (1, .int (x1)), (2, .int (x2)), (4, .int (x4))] → k58 x1 x2 x4 = some r → W p l e rm_CM_isSeen s m args below meth c H locs 0 0 Q (F0 m 58 ls [])) :
    ∀ (x1 : Int32) (x2 : Int32) (x4 : Int32) (ls : Array Slot), lv_has ls 6 [(0, .ref (ad 0)), (1, .int (x1)), (2, .int (x2)), (4, .int (x4))] → fCM_isSeen_b133 k58 σ x1 x2 x4 = some r → W p l e rm_CM_isSeen s m args below meth c H locs 0 0 Q (F0 m 133 ls []) := by
  obtain ⟨hx, hb, hml, hown, hts⟩ := id C
  intro x1 x2 x4 ls hl h
  unfold fCM_isSeen_b133 at h
  refine lv_iconst (v := (0 : Int32)) hx hb dCM_isSeen_133 (by decide) ?_
  exact wCM_isSeen_b134 C hK hP hend hk58 _ _ _ _ _ (lv_sub hl [0, 1, 2, 3] rfl) h
def fCM_isSeen_b58 (σ : xSt) : Nat → Int32 → Int32 → Int32 → Option Int32
  | 0, _, _, _ => none
  | n + 1, x1, x2, x4 =>
    if (σ.1 0 6) ≤ x4 then
      some (1 : Int32)
    else
      if x4 < 0 ∨ 60 ≤ x4.toNatClampNeg then none else
      if x1 < 0 ∨ 60 ≤ x1.toNatClampNeg then none else
      if (σ.1 6 x4.toNatClampNeg) = (σ.1 6 x1.toNatClampNeg) then
        fCM_isSeen_b133 (fCM_isSeen_b58 σ n) σ x1 x2 x4
      else
        if x4 < 0 ∨ 60 ≤ x4.toNatClampNeg then none else
        if x1 < 0 ∨ 60 ≤ x1.toNatClampNeg then none else
        if (σ.1 7 x4.toNatClampNeg) = (σ.1 7 x1.toNatClampNeg) then
          (fCM_has σ x4 (1 : Int32)).bind fun v18 =>
          if v18 = 0 then
            (fCM_has σ x4 (2 : Int32)).bind fun v19 =>
            if v19 = 0 then
              (fCM_sameParams σ x1 x4).bind fun v20 =>
              if v20 = 0 then
                fCM_isSeen_b133 (fCM_isSeen_b58 σ n) σ x1 x2 x4
              else
                fCM_isSeen_b134 (fCM_isSeen_b58 σ n) σ x1 x2 x4 (1 : Int32)
            else
              fCM_isSeen_b133 (fCM_isSeen_b58 σ n) σ x1 x2 x4
          else
            fCM_isSeen_b133 (fCM_isSeen_b58 σ n) σ x1 x2 x4
        else
          fCM_isSeen_b133 (fCM_isSeen_b58 σ n) σ x1 x2 x4
set_option maxHeartbeats 4000000 in
set_option maxRecDepth 100000 in
theorem wCM_isSeen_b58 {p : Program} {l : Launch} {e : Env} {s : State} {m : MethodId} {args : Array Value} {below : List Frame} {meth : Method} {c : Code} {Q : State → Prop} {dC : Nat → ClassId} {dI : Nat → Nat → Nat} {ad : Nat → Nat} {cA : Nat → ClassId} {r : Int32} {H : Heap} {locs : List Loc} {σ : xSt} (C : CallFix p m c cCM_isSeen 6 s args wAll RCM) (hK : va_K (dC, dI) vwC (mT cA) s) (hP : va_P (dC, dI) vwC (mW ad cA σ) H) (hend : ∀ (v : Int32) (pc : Nat) (ls : Array Slot), v = r → narrow .boolean (.int v) = .int v → decode cCM_isSeen pc = .ok (.ireturn, 1) → W p l e rm_CM_isSeen s m args below meth c H locs 0 0 Q (F0 m pc ls [.int v])) :
    ∀ (n : Nat) (x1 : Int32) (x2 : Int32) (x4 : Int32) (ls : Array Slot), lv_has ls 6 [(0, .ref (ad 0)), (1, .int (x1)), (2, .int (x2)), (4, .int (x4))] → fCM_isSeen_b58 σ n x1 x2 x4 = some r → W p l e rm_CM_isSeen s m args below meth c H locs 0 0 Q (F0 m 58 ls []) := by
  obtain ⟨hx, hb, hml, hown, hts⟩ := id C
  intro n
  induction n with
  | zero =>
    intro x1 x2 x4 ls hl h
    rw [fCM_isSeen_b58] at h
    cases h
  | succ n ih =>
    intro x1 x2 x4 ls hl h
    rw [fCM_isSeen_b58] at h
    refine lv_iload hx hb dCM_isSeen_58 (lv_at hl 3 rfl) ?_
    refine lv_aload_n hx hb dCM_isSeen_60 rfl (lv_at hl 0 rfl) ?_
    refine va_get (D := (dC, dI)) (ci := 5) (v := .int (σ.1 0 6)) (C := RCM) (T := TCM) (N := 23) hx hb hts inCM hown hK hP 0 rfl rfl 6 (by decide) (hts _ mw_401) (fun _ h9 => h9) rfl dCM_isSeen_61 ?_
    refine lv_icmp_ge (tgt := 184) hx hb dCM_isSeen_64 (by decide) (fun c26 => ?_) (fun c26 => ?_)
    · have h := (if_pos c26).symm.trans h
      refine lv_iconst (v := (1 : Int32)) hx hb dCM_isSeen_184 (by decide) ?_
      exact hend _ _ _ (Option.some.inj h) rfl dCM_isSeen_185
    · have h := (if_neg c26).symm.trans h
      refine lv_aload_n hx hb dCM_isSeen_67 rfl (lv_at hl 0 rfl) ?_
      refine va_get (D := (dC, dI)) (ci := 5) (v := .ref (ad 6)) (C := RCM) (T := TCM) (N := 23) hx hb hts inCM hown hK hP 0 rfl rfl 7 (by decide) (hts _ mw_402) (fun _ h9 => h9) rfl dCM_isSeen_68 ?_
      refine lv_iload hx hb dCM_isSeen_71 (lv_at hl 3 rfl) ?_
      obtain ⟨b6, h⟩ := gx_nb h
      refine va_iald hx hb hK hP 6 5 rfl rfl b6 dCM_isSeen_73 ?_
      refine lv_aload_n hx hb dCM_isSeen_74 rfl (lv_at hl 0 rfl) ?_
      refine va_get (D := (dC, dI)) (ci := 5) (v := .ref (ad 6)) (C := RCM) (T := TCM) (N := 23) hx hb hts inCM hown hK hP 0 rfl rfl 7 (by decide) (hts _ mw_402) (fun _ h9 => h9) rfl dCM_isSeen_75 ?_
      refine lv_iload_n hx hb dCM_isSeen_78 rfl (lv_at hl 1 rfl) ?_
      obtain ⟨b7, h⟩ := gx_nb h
      refine va_iald hx hb hK hP 6 5 rfl rfl b7 dCM_isSeen_79 ?_
      refine lv_icmp_eq (tgt := 133) hx hb dCM_isSeen_80 (by decide) (fun c25 => ?_) (fun c25 => ?_)
      · have h := (if_pos c25).symm.trans h
        exact wCM_isSeen_b133 C hK hP hend ih _ _ _ _ (lv_sub hl [0, 1, 2, 3] rfl) h
      · have h := (if_neg c25).symm.trans h
        refine lv_aload_n hx hb dCM_isSeen_83 rfl (lv_at hl 0 rfl) ?_
        refine va_get (D := (dC, dI)) (ci := 5) (v := .ref (ad 7)) (C := RCM) (T := TCM) (N := 23) hx hb hts inCM hown hK hP 0 rfl rfl 8 (by decide) (hts _ mw_403) (fun _ h9 => h9) rfl dCM_isSeen_84 ?_
        refine lv_iload hx hb dCM_isSeen_87 (lv_at hl 3 rfl) ?_
        obtain ⟨b16, h⟩ := gx_nb h
        refine va_iald hx hb hK hP 7 6 rfl rfl b16 dCM_isSeen_89 ?_
        refine lv_aload_n hx hb dCM_isSeen_90 rfl (lv_at hl 0 rfl) ?_
        refine va_get (D := (dC, dI)) (ci := 5) (v := .ref (ad 7)) (C := RCM) (T := TCM) (N := 23) hx hb hts inCM hown hK hP 0 rfl rfl 8 (by decide) (hts _ mw_403) (fun _ h9 => h9) rfl dCM_isSeen_91 ?_
        refine lv_iload_n hx hb dCM_isSeen_94 rfl (lv_at hl 1 rfl) ?_
        obtain ⟨b17, h⟩ := gx_nb h
        refine va_iald hx hb hK hP 7 6 rfl rfl b17 dCM_isSeen_95 ?_
        refine lv_icmp_ne (tgt := 133) hx hb dCM_isSeen_96 (by decide) (fun c24 => ?_) (fun c24 => ?_)
        · have h := (if_neg c24).symm.trans h
          exact wCM_isSeen_b133 C hK hP hend ih _ _ _ _ (lv_sub hl [0, 1, 2, 3] rfl) h
        · have h := (if_pos c24).symm.trans h
          refine lv_aload_n hx hb dCM_isSeen_99 rfl (lv_at hl 0 rfl) ?_
          refine lv_iload hx hb dCM_isSeen_100 (lv_at hl 3 rfl) ?_
          refine lv_iconst (v := (1 : Int32)) hx hb dCM_isSeen_102 (by decide) ?_
          obtain ⟨v18, ev18, h⟩ := Option.bind_eq_some_iff.mp h
          refine gcall_r (b := ad 0) (As := [.int (x4), .int ((1 : Int32))]) (rest := []) C hK hP (ci := 5) (q0 := 0) rfl rfl (kCM_has l dC dI ad cA σ x4 (1 : Int32) v18 ev18) (cwV 2 hts (gw mw_418 mw_419 mw_420 mw_363 mw_421) rfl rfl rfl hdCM_has ⟨Nat.le_of_ble_eq_true rfl, Nat.le_of_ble_eq_true rfl⟩) rfl hl.1 rfl (Nat.le_of_ble_eq_true rfl) dCM_isSeen_103 ⟨Nat.le_refl _, Nat.le_refl _⟩ ?_
          refine lv_if_ne (tgt := 133) hx hb dCM_isSeen_106 (by decide) (fun c23 => ?_) (fun c23 => ?_)
          · have h := (if_neg c23).symm.trans h
            exact wCM_isSeen_b133 C hK hP hend ih _ _ _ _ (lv_sub hl [0, 1, 2, 3] rfl) h
          · have h := (if_pos c23).symm.trans h
            refine lv_aload_n hx hb dCM_isSeen_109 rfl (lv_at hl 0 rfl) ?_
            refine lv_iload hx hb dCM_isSeen_110 (lv_at hl 3 rfl) ?_
            refine lv_iconst (v := (2 : Int32)) hx hb dCM_isSeen_112 (by decide) ?_
            obtain ⟨v19, ev19, h⟩ := Option.bind_eq_some_iff.mp h
            refine gcall_r (b := ad 0) (As := [.int (x4), .int ((2 : Int32))]) (rest := []) C hK hP (ci := 5) (q0 := 0) rfl rfl (kCM_has l dC dI ad cA σ x4 (2 : Int32) v19 ev19) (cwV 2 hts (gw mw_418 mw_419 mw_420 mw_363 mw_421) rfl rfl rfl hdCM_has ⟨Nat.le_of_ble_eq_true rfl, Nat.le_of_ble_eq_true rfl⟩) rfl hl.1 rfl (Nat.le_of_ble_eq_true rfl) dCM_isSeen_113 ⟨Nat.le_refl _, Nat.le_refl _⟩ ?_
            refine lv_if_ne (tgt := 133) hx hb dCM_isSeen_116 (by decide) (fun c22 => ?_) (fun c22 => ?_)
            · have h := (if_neg c22).symm.trans h
              exact wCM_isSeen_b133 C hK hP hend ih _ _ _ _ (lv_sub hl [0, 1, 2, 3] rfl) h
            · have h := (if_pos c22).symm.trans h
              refine lv_aload_n hx hb dCM_isSeen_119 rfl (lv_at hl 0 rfl) ?_
              refine lv_iload_n hx hb dCM_isSeen_120 rfl (lv_at hl 1 rfl) ?_
              refine lv_iload hx hb dCM_isSeen_121 (lv_at hl 3 rfl) ?_
              obtain ⟨v20, ev20, h⟩ := Option.bind_eq_some_iff.mp h
              refine gcall_r (b := ad 0) (As := [.int (x1), .int (x4)]) (rest := []) C hK hP (ci := 5) (q0 := 0) rfl rfl (kCM_sameParams l dC dI ad cA σ x1 x4 v20 ev20) (cwV 2 hts (gw mw_422 mw_423 mw_424 mw_363 mw_425) rfl rfl rfl hdCM_sameParams ⟨Nat.le_of_ble_eq_true rfl, Nat.le_of_ble_eq_true rfl⟩) rfl hl.1 rfl (Nat.le_of_ble_eq_true rfl) dCM_isSeen_123 ⟨Nat.le_refl _, Nat.le_refl _⟩ ?_
              refine lv_if_eq (tgt := 133) hx hb dCM_isSeen_126 (by decide) (fun c21 => ?_) (fun c21 => ?_)
              · have h := (if_pos c21).symm.trans h
                exact wCM_isSeen_b133 C hK hP hend ih _ _ _ _ (lv_sub hl [0, 1, 2, 3] rfl) h
              · have h := (if_neg c21).symm.trans h
                refine lv_iconst (v := (1 : Int32)) hx hb dCM_isSeen_129 (by decide) ?_
                refine lv_goto (tgt := 134) hx hb dCM_isSeen_130 (by decide) ?_
                exact wCM_isSeen_b134 C hK hP hend ih _ _ _ _ _ (lv_sub hl [0, 1, 2, 3] rfl) h
def fCM_isSeen_b35 (σ : xSt) (x1 : Int32) (x2 : Int32) : Option Int32 :=
  (fCM_has σ x1 (1 : Int32)).bind fun v4 =>
  if v4 = 0 then
    (fCM_has σ x1 (2 : Int32)).bind fun v5 =>
    if v5 = 0 then
      fCM_isSeen_b58 σ gF x1 x2 (0 : Int32)
    else
      some (1 : Int32)
  else
    some (1 : Int32)
set_option maxHeartbeats 4000000 in
set_option maxRecDepth 100000 in
theorem wCM_isSeen_b35 {p : Program} {l : Launch} {e : Env} {s : State} {m : MethodId} {args : Array Value} {below : List Frame} {meth : Method} {c : Code} {Q : State → Prop} {dC : Nat → ClassId} {dI : Nat → Nat → Nat} {ad : Nat → Nat} {cA : Nat → ClassId} {r : Int32} {H : Heap} {locs : List Loc} {σ : xSt} (C : CallFix p m c cCM_isSeen 6 s args wAll RCM) (hK : va_K (dC, dI) vwC (mT cA) s) (hP : va_P (dC, dI) vwC (mW ad cA σ) H) (hend : ∀ (v : Int32) (pc : Nat) (ls : Array Slot), v = r → narrow .boolean (.int v) = .int v → decode cCM_isSeen pc = .ok (.ireturn, 1) → W p l e rm_CM_isSeen s m args below meth c H locs 0 0 Q (F0 m pc ls [.int v])) :
    ∀ (x1 : Int32) (x2 : Int32) (ls : Array Slot), lv_has ls 6 [(0, .ref (ad 0)), (1, .int (x1)), (2, .int (x2))] → fCM_isSeen_b35 σ x1 x2 = some r → W p l e rm_CM_isSeen s m args below meth c H locs 0 0 Q (F0 m 35 ls []) := by
  obtain ⟨hx, hb, hml, hown, hts⟩ := id C
  intro x1 x2 ls hl h
  unfold fCM_isSeen_b35 at h
  refine lv_aload_n hx hb dCM_isSeen_35 rfl (lv_at hl 0 rfl) ?_
  refine lv_iload_n hx hb dCM_isSeen_36 rfl (lv_at hl 1 rfl) ?_
  refine lv_iconst (v := (1 : Int32)) hx hb dCM_isSeen_37 (by decide) ?_
  obtain ⟨v4, ev4, h⟩ := Option.bind_eq_some_iff.mp h
  refine gcall_r (b := ad 0) (As := [.int (x1), .int ((1 : Int32))]) (rest := []) C hK hP (ci := 5) (q0 := 0) rfl rfl (kCM_has l dC dI ad cA σ x1 (1 : Int32) v4 ev4) (cwV 2 hts (gw mw_418 mw_419 mw_420 mw_363 mw_421) rfl rfl rfl hdCM_has ⟨Nat.le_of_ble_eq_true rfl, Nat.le_of_ble_eq_true rfl⟩) rfl hl.1 rfl (Nat.le_of_ble_eq_true rfl) dCM_isSeen_38 ⟨Nat.le_refl _, Nat.le_refl _⟩ ?_
  refine lv_if_ne (tgt := 53) hx hb dCM_isSeen_41 (by decide) (fun c28 => ?_) (fun c28 => ?_)
  · have h := (if_neg c28).symm.trans h
    refine lv_iconst (v := (1 : Int32)) hx hb dCM_isSeen_53 (by decide) ?_
    exact hend _ _ _ (Option.some.inj h) rfl dCM_isSeen_54
  · have h := (if_pos c28).symm.trans h
    refine lv_aload_n hx hb dCM_isSeen_44 rfl (lv_at hl 0 rfl) ?_
    refine lv_iload_n hx hb dCM_isSeen_45 rfl (lv_at hl 1 rfl) ?_
    refine lv_iconst (v := (2 : Int32)) hx hb dCM_isSeen_46 (by decide) ?_
    obtain ⟨v5, ev5, h⟩ := Option.bind_eq_some_iff.mp h
    refine gcall_r (b := ad 0) (As := [.int (x1), .int ((2 : Int32))]) (rest := []) C hK hP (ci := 5) (q0 := 0) rfl rfl (kCM_has l dC dI ad cA σ x1 (2 : Int32) v5 ev5) (cwV 2 hts (gw mw_418 mw_419 mw_420 mw_363 mw_421) rfl rfl rfl hdCM_has ⟨Nat.le_of_ble_eq_true rfl, Nat.le_of_ble_eq_true rfl⟩) rfl hl.1 rfl (Nat.le_of_ble_eq_true rfl) dCM_isSeen_47 ⟨Nat.le_refl _, Nat.le_refl _⟩ ?_
    refine lv_if_eq (tgt := 55) hx hb dCM_isSeen_50 (by decide) (fun c27 => ?_) (fun c27 => ?_)
    · have h := (if_pos c27).symm.trans h
      refine lv_iconst (v := (0 : Int32)) hx hb dCM_isSeen_55 (by decide) ?_
      refine lv_istore (lv' := [(4, .int ((0 : Int32))), (0, .ref (ad 0)), (1, .int (x1)), (2, .int (x2))]) hx hb dCM_isSeen_56 hl (by decide) rfl (fun ls hl => ?_)
      exact wCM_isSeen_b58 C hK hP hend _ _ _ _ _ (lv_sub hl [1, 2, 3, 0] rfl) h
    · have h := (if_neg c27).symm.trans h
      refine lv_iconst (v := (1 : Int32)) hx hb dCM_isSeen_53 (by decide) ?_
      exact hend _ _ _ (Option.some.inj h) rfl dCM_isSeen_54
def fCM_isSeen (σ : xSt) (x1 : Int32) (x2 : Int32) (x3 : Int32) : Option Int32 :=
  if x1 < 0 ∨ 60 ≤ x1.toNatClampNeg then none else
  (fCM_isIt σ x2 (σ.1 6 x1.toNatClampNeg)).bind fun v2 =>
  if v2 = 0 then
    some (0 : Int32)
  else
    (fCM_has σ x1 (2 : Int32)).bind fun v3 =>
    if v3 = 0 then
      fCM_isSeen_b35 σ x1 x2
    else
      if x1 < 0 ∨ 60 ≤ x1.toNatClampNeg then none else
      if (σ.1 6 x1.toNatClampNeg) = x3 then
        fCM_isSeen_b35 σ x1 x2
      else
        some (0 : Int32)
set_option maxHeartbeats 4000000 in
set_option maxRecDepth 100000 in
theorem wCM_isSeen {p : Program} {l : Launch} {e : Env} {s : State} {m : MethodId} {args : Array Value} {below : List Frame} {meth : Method} {c : Code} {Q : State → Prop} {dC : Nat → ClassId} {dI : Nat → Nat → Nat} {ad : Nat → Nat} {cA : Nat → ClassId} {r : Int32} {H : Heap} {locs : List Loc} {σ : xSt} (C : CallFix p m c cCM_isSeen 6 s args wAll RCM) (hK : va_K (dC, dI) vwC (mT cA) s) (hP : va_P (dC, dI) vwC (mW ad cA σ) H) (hend : ∀ (v : Int32) (pc : Nat) (ls : Array Slot), v = r → narrow .boolean (.int v) = .int v → decode cCM_isSeen pc = .ok (.ireturn, 1) → W p l e rm_CM_isSeen s m args below meth c H locs 0 0 Q (F0 m pc ls [.int v])) {x1 : Int32} {x2 : Int32} {x3 : Int32} (ls : Array Slot) (hl : lv_has ls 6 [(0, .ref (ad 0)), (1, .int (x1)), (2, .int (x2)), (3, .int (x3))]) (h : fCM_isSeen σ x1 x2 x3 = some r) : W p l e rm_CM_isSeen s m args below meth c H locs 0 0 Q (F0 m 0 ls []) := by
  obtain ⟨hx, hb, hml, hown, hts⟩ := id C
  unfold fCM_isSeen at h
  refine lv_aload_n hx hb dCM_isSeen_0 rfl (lv_at hl 0 rfl) ?_
  refine lv_iload_n hx hb dCM_isSeen_1 rfl (lv_at hl 2 rfl) ?_
  refine lv_aload_n hx hb dCM_isSeen_2 rfl (lv_at hl 0 rfl) ?_
  refine va_get (D := (dC, dI)) (ci := 5) (v := .ref (ad 6)) (C := RCM) (T := TCM) (N := 23) hx hb hts inCM hown hK hP 0 rfl rfl 7 (by decide) (hts _ mw_402) (fun _ h9 => h9) rfl dCM_isSeen_3 ?_
  refine lv_iload_n hx hb dCM_isSeen_6 rfl (lv_at hl 1 rfl) ?_
  obtain ⟨b1, h⟩ := gx_nb h
  refine va_iald hx hb hK hP 6 5 rfl rfl b1 dCM_isSeen_7 ?_
  obtain ⟨v2, ev2, h⟩ := Option.bind_eq_some_iff.mp h
  refine gcall_r (b := ad 0) (As := [.int (x2), .int (σ.1 6 x1.toNatClampNeg)]) (rest := []) C hK hP (ci := 5) (q0 := 0) rfl rfl (kCM_isIt l dC dI ad cA σ x2 (σ.1 6 x1.toNatClampNeg) v2 ev2) (cwV 2 hts (gw mw_390 mw_391 mw_392 mw_363 mw_393) rfl rfl rfl hdCM_isIt ⟨Nat.le_of_ble_eq_true rfl, Nat.le_of_ble_eq_true rfl⟩) rfl hl.1 rfl (Nat.le_of_ble_eq_true rfl) dCM_isSeen_8 ⟨Nat.le_refl _, Nat.le_refl _⟩ ?_
  refine lv_if_eq (tgt := 33) hx hb dCM_isSeen_11 (by decide) (fun c32 => ?_) (fun c32 => ?_)
  · have h := (if_pos c32).symm.trans h
    refine lv_iconst (v := (0 : Int32)) hx hb dCM_isSeen_33 (by decide) ?_
    exact hend _ _ _ (Option.some.inj h) rfl dCM_isSeen_34
  · have h := (if_neg c32).symm.trans h
    refine lv_aload_n hx hb dCM_isSeen_14 rfl (lv_at hl 0 rfl) ?_
    refine lv_iload_n hx hb dCM_isSeen_15 rfl (lv_at hl 1 rfl) ?_
    refine lv_iconst (v := (2 : Int32)) hx hb dCM_isSeen_16 (by decide) ?_
    obtain ⟨v3, ev3, h⟩ := Option.bind_eq_some_iff.mp h
    refine gcall_r (b := ad 0) (As := [.int (x1), .int ((2 : Int32))]) (rest := []) C hK hP (ci := 5) (q0 := 0) rfl rfl (kCM_has l dC dI ad cA σ x1 (2 : Int32) v3 ev3) (cwV 2 hts (gw mw_418 mw_419 mw_420 mw_363 mw_421) rfl rfl rfl hdCM_has ⟨Nat.le_of_ble_eq_true rfl, Nat.le_of_ble_eq_true rfl⟩) rfl hl.1 rfl (Nat.le_of_ble_eq_true rfl) dCM_isSeen_17 ⟨Nat.le_refl _, Nat.le_refl _⟩ ?_
    refine lv_if_eq (tgt := 35) hx hb dCM_isSeen_20 (by decide) (fun c31 => ?_) (fun c31 => ?_)
    · have h := (if_pos c31).symm.trans h
      exact wCM_isSeen_b35 C hK hP hend _ _ _ (lv_sub hl [0, 1, 2] rfl) h
    · have h := (if_neg c31).symm.trans h
      refine lv_aload_n hx hb dCM_isSeen_23 rfl (lv_at hl 0 rfl) ?_
      refine va_get (D := (dC, dI)) (ci := 5) (v := .ref (ad 6)) (C := RCM) (T := TCM) (N := 23) hx hb hts inCM hown hK hP 0 rfl rfl 7 (by decide) (hts _ mw_402) (fun _ h9 => h9) rfl dCM_isSeen_24 ?_
      refine lv_iload_n hx hb dCM_isSeen_27 rfl (lv_at hl 1 rfl) ?_
      obtain ⟨b29, h⟩ := gx_nb h
      refine va_iald hx hb hK hP 6 5 rfl rfl b29 dCM_isSeen_28 ?_
      refine lv_iload_n hx hb dCM_isSeen_29 rfl (lv_at hl 3 rfl) ?_
      refine lv_icmp_eq (tgt := 35) hx hb dCM_isSeen_30 (by decide) (fun c30 => ?_) (fun c30 => ?_)
      · have h := (if_pos c30).symm.trans h
        exact wCM_isSeen_b35 C hK hP hend _ _ _ (lv_sub hl [0, 1, 2] rfl) h
      · have h := (if_neg c30).symm.trans h
        refine lv_iconst (v := (0 : Int32)) hx hb dCM_isSeen_33 (by decide) ?_
        exact hend _ _ _ (Option.some.inj h) rfl dCM_isSeen_34
set_option maxHeartbeats 4000000 in
set_option maxRecDepth 100000 in
theorem kCM_isSeen (l : Launch) (dC : Nat → ClassId) (dI : Nat → Nat → Nat) (ad : Nat → Nat) (cA : Nat → ClassId) (σ : xSt) (x1 : Int32) (x2 : Int32) (x3 : Int32) (r : Int32) (h : fCM_isSeen σ x1 x2 x3 = some r) : Met l yCM_isSeen wsCM_isSeen rm_CM_isSeen (va_Pc [.ref (ad 0), .int (x1), .int (x2), .int (x3)] (fun U => va_P (dC, dI) vwC (mW ad cA σ) U.heap ∧ va_K (dC, dI) vwC (mT cA) U)) (vp_Si (fun v => v = r)) 0 0 (fun _ => False) := by
  refine Met.ofW (cc := cCM_isSeen) (maxL := 6) (ret := (some .boolean)) (by decide) rfl ?_
  intro p e s m args below meth c s₁ B hml hv
  obtain ⟨rfl, hP, hK⟩ := hv
  have hr := B.returns
  have hlocks := B.notSynchronized
  have hl := lv_entry ([.ref (ad 0), .int (x1), .int (x2), .int (x3)]) (n := 6) (Nat.le_of_ble_eq_true rfl)
  rw [lg_entry_eq]
  exact wCM_isSeen ⟨B.exec, B.bytes, hml, findClass_of_methodNamed B.named, fun w h => atoms_spec (ws := wsCM_isSeen) B.pre w (List.mem_cons_of_mem _ h)⟩ hK hP (fun v pc ls hv hn hd => W.zret (v := v) B.exec B.bytes hr hn (fun t ht hW => ⟨v, rfl, hv, ht⟩) (fun q hq => absurd hq List.not_mem_nil) hd) _ hl h
abbrev rm_CM_findFunction : Room := { frames := 4, cells := 0, slots := 0, locals := 90 }
def fCM_findFunction_b71 (k4 : Int32 → Int32 → Int32 → Option Int32) (σ : xSt) (x1 : Int32) (x2 : Int32) (x3 : Int32) : Option Int32 :=
  k4 x1 x2 (x3 + (1 : Int32))
set_option maxHeartbeats 4000000 in
set_option maxRecDepth 100000 in
theorem wCM_findFunction_b71 {p : Program} {l : Launch} {e : Env} {s : State} {m : MethodId} {args : Array Value} {below : List Frame} {meth : Method} {c : Code} {Q : State → Prop} {dC : Nat → ClassId} {dI : Nat → Nat → Nat} {ad : Nat → Nat} {cA : Nat → ClassId} {r : Int32} {H : Heap} {locs : List Loc} {σ : xSt} (C : CallFix p m c cCM_findFunction 4 s args wAll RCM) (hK : va_K (dC, dI) vwC (mT cA) s) (hP : va_P (dC, dI) vwC (mW ad cA σ) H) (hend : ∀ (v : Int32) (pc : Nat) (ls : Array Slot), v = r → decode cCM_findFunction pc = .ok (.ireturn, 1) → W p l e rm_CM_findFunction s m args below meth c H locs 0 0 Q (F0 m pc ls [.int v])) {k4 : Int32 → Int32 → Int32 → Option Int32} (hk4 : ∀ (x1 : Int32) (x2 : Int32) (x3 : Int32) (ls : Array Slot), lv_has ls 4 [(0, .ref (ad 0)), (1, .int (x1)), (2, .int (x2)), (3, .int (x3))] → k4 x1 x2 x3 = some r → W p l e rm_CM_findFunction s m args below meth c H locs 0 0 Q (F0 m 4 ls [])) :
    ∀ (x1 : Int32) (x2 : Int32) (x3 : Int32) (ls : Array Slot), lv_has ls 4 [(0, .ref (ad 0)), (1, .int (x1)), (2, .int (x2)), (3, .int (x3))] → fCM_findFunction_b71 k4 σ x1 x2 x3 = some r → W p l e rm_CM_findFunction s m args below meth c H locs 0 0 Q (F0 m 71 ls []) := by
  obtain ⟨hx, hb, hml, hown, hts⟩ := id C
  intro x1 x2 x3 ls hl h
  unfold fCM_findFunction_b71 at h
  refine lv_iinc (v := x3 + (1 : Int32)) (lv' := [(3, .int (x3 + (1 : Int32))), (0, .ref (ad 0)), (1, .int (x1)), (2, .int (x2))]) hx hb dCM_findFunction_71 hl (k := 3) rfl rfl (by decide) rfl (fun ls hl => ?_)
  refine lv_goto (tgt := 4) hx hb dCM_findFunction_74 (by decide) ?_
  exact hk4 _ _ _ _ (lv_sub hl [1, 2, 3, 0] rfl) h
def fCM_findFunction_b70 (k4 : Int32 → Int32 → Int32 → Option Int32) (σ : xSt) (x1 : Int32) (x3 : Int32) (s0 : Int32) : Option Int32 :=
  fCM_findFunction_b71 k4 σ x1 s0 x3
set_option maxHeartbeats 4000000 in
set_option maxRecDepth 100000 in
theorem wCM_findFunction_b70 {p : Program} {l : Launch} {e : Env} {s : State} {m : MethodId} {args : Array Value} {below : List Frame} {meth : Method} {c : Code} {Q : State → Prop} {dC : Nat → ClassId} {dI : Nat → Nat → Nat} {ad : Nat → Nat} {cA : Nat → ClassId} {r : Int32} {H : Heap} {locs : List Loc} {σ : xSt} (C : CallFix p m c cCM_findFunction 4 s args wAll RCM) (hK : va_K (dC, dI) vwC (mT cA) s) (hP : va_P (dC, dI) vwC (mW ad cA σ) H) (hend : ∀ (v : Int32) (pc : Nat) (ls : Array Slot), v = r → decode cCM_findFunction pc = .ok (.ireturn, 1) → W p l e rm_CM_findFunction s m args below meth c H locs 0 0 Q (F0 m pc ls [.int v])) {k4 : Int32 → Int32 → Int32 → Option Int32} (hk4 : ∀ (x1 : Int32) (x2 : Int32) (x3 : Int32) (ls : Array Slot), lv_has ls 4 [(0, .ref (ad 0)), (1, .int (x1)), (2, .int (x2)), (3, .int (x3))] → k4 x1 x2 x3 = some r → W p l e rm_CM_findFunction s m args below meth c H locs 0 0 Q (F0 m 4 ls [])) :
    ∀ (x1 : Int32) (x3 : Int32) (s0 : Int32) (ls : Array Slot), lv_has ls 4 [(0, .ref (ad 0)), (1, .int (x1)), (3, .int (x3))] → fCM_findFunction_b70 k4 σ x1 x3 s0 = some r → W p l e rm_CM_findFunction s m args below meth c H locs 0 0 Q (F0 m 70 ls [.int (s0)]) := by
  obtain ⟨hx, hb, hml, hown, hts⟩ := id C
  intro x1 x3 s0 ls hl h
  unfold fCM_findFunction_b70 at h
  refine lv_istore_n (lv' := [(2, .int (s0)), (0, .ref (ad 0)), (1, .int (x1)), (3, .int (x3))]) hx hb dCM_findFunction_70 rfl hl (by decide) rfl (fun ls hl => ?_)
  exact wCM_findFunction_b71 C hK hP hend hk4 _ _ _ _ (lv_sub hl [1, 2, 0, 3] rfl) h
def fCM_findFunction_b61 (k4 : Int32 → Int32 → Int32 → Option Int32) (σ : xSt) (x1 : Int32) (x2 : Int32) (x3 : Int32) : Option Int32 :=
  if 0 ≤ x2 then
    fCM_findFunction_b70 k4 σ x1 x3 x2
  else
    fCM_findFunction_b70 k4 σ x1 x3 x3
set_option maxHeartbeats 4000000 in
set_option maxRecDepth 100000 in
theorem wCM_findFunction_b61 {p : Program} {l : Launch} {e : Env} {s : State} {m : MethodId} {args : Array Value} {below : List Frame} {meth : Method} {c : Code} {Q : State → Prop} {dC : Nat → ClassId} {dI : Nat → Nat → Nat} {ad : Nat → Nat} {cA : Nat → ClassId} {r : Int32} {H : Heap} {locs : List Loc} {σ : xSt} (C : CallFix p m c cCM_findFunction 4 s args wAll RCM) (hK : va_K (dC, dI) vwC (mT cA) s) (hP : va_P (dC, dI) vwC (mW ad cA σ) H) (hend : ∀ (v : Int32) (pc : Nat) (ls : Array Slot), v = r → decode cCM_findFunction pc = .ok (.ireturn, 1) → W p l e rm_CM_findFunction s m args below meth c H locs 0 0 Q (F0 m pc ls [.int v])) {k4 : Int32 → Int32 → Int32 → Option Int32} (hk4 : ∀ (x1 : Int32) (x2 : Int32) (x3 : Int32) (ls : Array Slot), lv_has ls 4 [(0, .ref (ad 0)), (1, .int (x1)), (2, .int (x2)), (3, .int (x3))] → k4 x1 x2 x3 = some r → W p l e rm_CM_findFunction s m args below meth c H locs 0 0 Q (F0 m 4 ls [])) :
    ∀ (x1 : Int32) (x2 : Int32) (x3 : Int32) (ls : Array Slot), lv_has ls 4 [(0, .ref (ad 0)), (1, .int (x1)), (2, .int (x2)), (3, .int (x3))] → fCM_findFunction_b61 k4 σ x1 x2 x3 = some r → W p l e rm_CM_findFunction s m args below meth c H locs 0 0 Q (F0 m 61 ls []) := by
  obtain ⟨hx, hb, hml, hown, hts⟩ := id C
  intro x1 x2 x3 ls hl h
  unfold fCM_findFunction_b61 at h
  refine lv_iload_n hx hb dCM_findFunction_61 rfl (lv_at hl 2 rfl) ?_
  refine lv_if_ge (tgt := 69) hx hb dCM_findFunction_62 (by decide) (fun c3 => ?_) (fun c3 => ?_)
  · have h := (if_pos c3).symm.trans h
    refine lv_iload_n hx hb dCM_findFunction_69 rfl (lv_at hl 2 rfl) ?_
    exact wCM_findFunction_b70 C hK hP hend hk4 _ _ _ _ (lv_sub hl [0, 1, 3] rfl) h
  · have h := (if_neg c3).symm.trans h
    refine lv_iload_n hx hb dCM_findFunction_65 rfl (lv_at hl 3 rfl) ?_
    refine lv_goto (tgt := 70) hx hb dCM_findFunction_66 (by decide) ?_
    exact wCM_findFunction_b70 C hK hP hend hk4 _ _ _ _ (lv_sub hl [0, 1, 3] rfl) h
def fCM_findFunction_b4 (σ : xSt) : Nat → Int32 → Int32 → Int32 → Option Int32
  | 0, _, _, _ => none
  | n + 1, x1, x2, x3 =>
    if (σ.1 0 6) ≤ x3 then
      some x2
    else
      (fCM_has σ x3 (4 : Int32)).bind fun v1 =>
      if v1 = 0 then
        fCM_findFunction_b71 (fCM_findFunction_b4 σ n) σ x1 x2 x3
      else
        (fCM_isSeen σ x3 x1 x1).bind fun v2 =>
        if v2 = 0 then
          fCM_findFunction_b71 (fCM_findFunction_b4 σ n) σ x1 x2 x3
        else
          if x2 < 0 then
            fCM_findFunction_b61 (fCM_findFunction_b4 σ n) σ x1 x2 x3
          else
            if x3 < 0 ∨ 60 ≤ x3.toNatClampNeg then none else
            if x2 < 0 ∨ 60 ≤ x2.toNatClampNeg then none else
            if (σ.1 7 x3.toNatClampNeg) = (σ.1 7 x2.toNatClampNeg) then
              (fCM_sameParams σ x3 x2).bind fun v6 =>
              if v6 = 0 then
                some (-1 : Int32)
              else
                fCM_findFunction_b61 (fCM_findFunction_b4 σ n) σ x1 x2 x3
            else
              some (-1 : Int32)
set_option maxHeartbeats 4000000 in
set_option maxRecDepth 100000 in
theorem wCM_findFunction_b4 {p : Program} {l : Launch} {e : Env} {s : State} {m : MethodId} {args : Array Value} {below : List Frame} {meth : Method} {c : Code} {Q : State → Prop} {dC : Nat → ClassId} {dI : Nat → Nat → Nat} {ad : Nat → Nat} {cA : Nat → ClassId} {r : Int32} {H : Heap} {locs : List Loc} {σ : xSt} (C : CallFix p m c cCM_findFunction 4 s args wAll RCM) (hK : va_K (dC, dI) vwC (mT cA) s) (hP : va_P (dC, dI) vwC (mW ad cA σ) H) (hend : ∀ (v : Int32) (pc : Nat) (ls : Array Slot), v = r → decode cCM_findFunction pc = .ok (.ireturn, 1) → W p l e rm_CM_findFunction s m args below meth c H locs 0 0 Q (F0 m pc ls [.int v])) :
    ∀ (n : Nat) (x1 : Int32) (x2 : Int32) (x3 : Int32) (ls : Array Slot), lv_has ls 4 [(0, .ref (ad 0)), (1, .int (x1)), (2, .int (x2)), (3, .int (x3))] → fCM_findFunction_b4 σ n x1 x2 x3 = some r → W p l e rm_CM_findFunction s m args below meth c H locs 0 0 Q (F0 m 4 ls []) := by
  obtain ⟨hx, hb, hml, hown, hts⟩ := id C
  intro n
  induction n with
  | zero =>
    intro x1 x2 x3 ls hl h
    rw [fCM_findFunction_b4] at h
    cases h
  | succ n ih =>
    intro x1 x2 x3 ls hl h
    rw [fCM_findFunction_b4] at h
    refine lv_iload_n hx hb dCM_findFunction_4 rfl (lv_at hl 3 rfl) ?_
    refine lv_aload_n hx hb dCM_findFunction_5 rfl (lv_at hl 0 rfl) ?_
    refine va_get (D := (dC, dI)) (ci := 5) (v := .int (σ.1 0 6)) (C := RCM) (T := TCM) (N := 23) hx hb hts inCM hown hK hP 0 rfl rfl 6 (by decide) (hts _ mw_401) (fun _ h9 => h9) rfl dCM_findFunction_6 ?_
    refine lv_icmp_ge (tgt := 77) hx hb dCM_findFunction_9 (by decide) (fun c12 => ?_) (fun c12 => ?_)
    · have h := (if_pos c12).symm.trans h
      refine lv_iload_n hx hb dCM_findFunction_77 rfl (lv_at hl 2 rfl) ?_
      exact hend _ _ _ (Option.some.inj h) dCM_findFunction_78
    · have h := (if_neg c12).symm.trans h
      refine lv_aload_n hx hb dCM_findFunction_12 rfl (lv_at hl 0 rfl) ?_
      refine lv_iload_n hx hb dCM_findFunction_13 rfl (lv_at hl 3 rfl) ?_
      refine lv_iconst (v := (4 : Int32)) hx hb dCM_findFunction_14 (by decide) ?_
      obtain ⟨v1, ev1, h⟩ := Option.bind_eq_some_iff.mp h
      refine gcall_r (b := ad 0) (As := [.int (x3), .int ((4 : Int32))]) (rest := []) C hK hP (ci := 5) (q0 := 0) rfl rfl (kCM_has l dC dI ad cA σ x3 (4 : Int32) v1 ev1) (cwV 2 hts (gw mw_418 mw_419 mw_420 mw_363 mw_421) rfl rfl rfl hdCM_has ⟨Nat.le_of_ble_eq_true rfl, Nat.le_of_ble_eq_true rfl⟩) rfl hl.1 rfl (Nat.le_of_ble_eq_true rfl) dCM_findFunction_15 ⟨Nat.le_refl _, Nat.le_refl _⟩ ?_
      refine lv_if_eq (tgt := 71) hx hb dCM_findFunction_18 (by decide) (fun c11 => ?_) (fun c11 => ?_)
      · have h := (if_pos c11).symm.trans h
        exact wCM_findFunction_b71 C hK hP hend ih _ _ _ _ (lv_sub hl [0, 1, 2, 3] rfl) h
      · have h := (if_neg c11).symm.trans h
        refine lv_aload_n hx hb dCM_findFunction_21 rfl (lv_at hl 0 rfl) ?_
        refine lv_iload_n hx hb dCM_findFunction_22 rfl (lv_at hl 3 rfl) ?_
        refine lv_iload_n hx hb dCM_findFunction_23 rfl (lv_at hl 1 rfl) ?_
        refine lv_iload_n hx hb dCM_findFunction_24 rfl (lv_at hl 1 rfl) ?_
        obtain ⟨v2, ev2, h⟩ := Option.bind_eq_some_iff.mp h
        refine gcall_r (b := ad 0) (As := [.int (x3), .int (x1), .int (x1)]) (rest := []) C hK hP (ci := 5) (q0 := 0) rfl rfl (kCM_isSeen l dC dI ad cA σ x3 x1 x1 v2 ev2) (cwV 3 hts (gw mw_426 mw_427 mw_428 mw_363 mw_429) rfl rfl rfl hdCM_isSeen ⟨Nat.le_of_ble_eq_true rfl, Nat.le_of_ble_eq_true rfl⟩) rfl hl.1 rfl (Nat.le_of_ble_eq_true rfl) dCM_findFunction_25 ⟨Nat.le_refl _, Nat.le_refl _⟩ ?_
        refine lv_if_eq (tgt := 71) hx hb dCM_findFunction_28 (by decide) (fun c10 => ?_) (fun c10 => ?_)
        · have h := (if_pos c10).symm.trans h
          exact wCM_findFunction_b71 C hK hP hend ih _ _ _ _ (lv_sub hl [0, 1, 2, 3] rfl) h
        · have h := (if_neg c10).symm.trans h
          refine lv_iload_n hx hb dCM_findFunction_31 rfl (lv_at hl 2 rfl) ?_
          refine lv_if_lt (tgt := 61) hx hb dCM_findFunction_32 (by decide) (fun c9 => ?_) (fun c9 => ?_)
          · have h := (if_pos c9).symm.trans h
            exact wCM_findFunction_b61 C hK hP hend ih _ _ _ _ (lv_sub hl [0, 1, 2, 3] rfl) h
          · have h := (if_neg c9).symm.trans h
            refine lv_aload_n hx hb dCM_findFunction_35 rfl (lv_at hl 0 rfl) ?_
            refine va_get (D := (dC, dI)) (ci := 5) (v := .ref (ad 7)) (C := RCM) (T := TCM) (N := 23) hx hb hts inCM hown hK hP 0 rfl rfl 8 (by decide) (hts _ mw_403) (fun _ h9 => h9) rfl dCM_findFunction_36 ?_
            refine lv_iload_n hx hb dCM_findFunction_39 rfl (lv_at hl 3 rfl) ?_
            obtain ⟨b4, h⟩ := gx_nb h
            refine va_iald hx hb hK hP 7 6 rfl rfl b4 dCM_findFunction_40 ?_
            refine lv_aload_n hx hb dCM_findFunction_41 rfl (lv_at hl 0 rfl) ?_
            refine va_get (D := (dC, dI)) (ci := 5) (v := .ref (ad 7)) (C := RCM) (T := TCM) (N := 23) hx hb hts inCM hown hK hP 0 rfl rfl 8 (by decide) (hts _ mw_403) (fun _ h9 => h9) rfl dCM_findFunction_42 ?_
            refine lv_iload_n hx hb dCM_findFunction_45 rfl (lv_at hl 2 rfl) ?_
            obtain ⟨b5, h⟩ := gx_nb h
            refine va_iald hx hb hK hP 7 6 rfl rfl b5 dCM_findFunction_46 ?_
            refine lv_icmp_ne (tgt := 59) hx hb dCM_findFunction_47 (by decide) (fun c8 => ?_) (fun c8 => ?_)
            · have h := (if_neg c8).symm.trans h
              refine lv_iconst (v := (-1 : Int32)) hx hb dCM_findFunction_59 (by decide) ?_
              exact hend _ _ _ (Option.some.inj h) dCM_findFunction_60
            · have h := (if_pos c8).symm.trans h
              refine lv_aload_n hx hb dCM_findFunction_50 rfl (lv_at hl 0 rfl) ?_
              refine lv_iload_n hx hb dCM_findFunction_51 rfl (lv_at hl 3 rfl) ?_
              refine lv_iload_n hx hb dCM_findFunction_52 rfl (lv_at hl 2 rfl) ?_
              obtain ⟨v6, ev6, h⟩ := Option.bind_eq_some_iff.mp h
              refine gcall_r (b := ad 0) (As := [.int (x3), .int (x2)]) (rest := []) C hK hP (ci := 5) (q0 := 0) rfl rfl (kCM_sameParams l dC dI ad cA σ x3 x2 v6 ev6) (cwV 2 hts (gw mw_422 mw_423 mw_424 mw_363 mw_425) rfl rfl rfl hdCM_sameParams ⟨Nat.le_of_ble_eq_true rfl, Nat.le_of_ble_eq_true rfl⟩) rfl hl.1 rfl (Nat.le_of_ble_eq_true rfl) dCM_findFunction_53 ⟨Nat.le_refl _, Nat.le_refl _⟩ ?_
              refine lv_if_ne (tgt := 61) hx hb dCM_findFunction_56 (by decide) (fun c7 => ?_) (fun c7 => ?_)
              · have h := (if_neg c7).symm.trans h
                exact wCM_findFunction_b61 C hK hP hend ih _ _ _ _ (lv_sub hl [0, 1, 2, 3] rfl) h
              · have h := (if_pos c7).symm.trans h
                refine lv_iconst (v := (-1 : Int32)) hx hb dCM_findFunction_59 (by decide) ?_
                exact hend _ _ _ (Option.some.inj h) dCM_findFunction_60
def fCM_findFunction (σ : xSt) (x1 : Int32) : Option Int32 :=
  fCM_findFunction_b4 σ gF x1 (-1 : Int32) (0 : Int32)
set_option maxHeartbeats 4000000 in
set_option maxRecDepth 100000 in
theorem wCM_findFunction {p : Program} {l : Launch} {e : Env} {s : State} {m : MethodId} {args : Array Value} {below : List Frame} {meth : Method} {c : Code} {Q : State → Prop} {dC : Nat → ClassId} {dI : Nat → Nat → Nat} {ad : Nat → Nat} {cA : Nat → ClassId} {r : Int32} {H : Heap} {locs : List Loc} {σ : xSt} (C : CallFix p m c cCM_findFunction 4 s args wAll RCM) (hK : va_K (dC, dI) vwC (mT cA) s) (hP : va_P (dC, dI) vwC (mW ad cA σ) H) (hend : ∀ (v : Int32) (pc : Nat) (ls : Array Slot), v = r → decode cCM_findFunction pc = .ok (.ireturn, 1) → W p l e rm_CM_findFunction s m args below meth c H locs 0 0 Q (F0 m pc ls [.int v])) {x1 : Int32} (ls : Array Slot) (hl : lv_has ls 4 [(0, .ref (ad 0)), (1, .int (x1))]) (h : fCM_findFunction σ x1 = some r) : W p l e rm_CM_findFunction s m args below meth c H locs 0 0 Q (F0 m 0 ls []) := by
  obtain ⟨hx, hb, hml, hown, hts⟩ := id C
  unfold fCM_findFunction at h
  refine lv_iconst (v := (-1 : Int32)) hx hb dCM_findFunction_0 (by decide) ?_
  refine lv_istore_n (lv' := [(2, .int ((-1 : Int32))), (0, .ref (ad 0)), (1, .int (x1))]) hx hb dCM_findFunction_1 rfl hl (by decide) rfl (fun ls hl => ?_)
  refine lv_iconst (v := (0 : Int32)) hx hb dCM_findFunction_2 (by decide) ?_
  refine lv_istore_n (lv' := [(3, .int ((0 : Int32))), (2, .int ((-1 : Int32))), (0, .ref (ad 0)), (1, .int (x1))]) hx hb dCM_findFunction_3 rfl hl (by decide) rfl (fun ls hl => ?_)
  exact wCM_findFunction_b4 C hK hP hend _ _ _ _ _ (lv_sub hl [2, 3, 1, 0] rfl) h
set_option maxHeartbeats 4000000 in
set_option maxRecDepth 100000 in
theorem kCM_findFunction (l : Launch) (dC : Nat → ClassId) (dI : Nat → Nat → Nat) (ad : Nat → Nat) (cA : Nat → ClassId) (σ : xSt) (x1 : Int32) (r : Int32) (h : fCM_findFunction σ x1 = some r) : Met l yCM_findFunction wsCM_findFunction rm_CM_findFunction (va_Pc [.ref (ad 0), .int (x1)] (fun U => va_P (dC, dI) vwC (mW ad cA σ) U.heap ∧ va_K (dC, dI) vwC (mT cA) U)) (vp_Si (fun v => v = r)) 0 0 (fun _ => False) := by
  refine Met.ofW (cc := cCM_findFunction) (maxL := 4) (ret := (some .int)) (by decide) rfl ?_
  intro p e s m args below meth c s₁ B hml hv
  obtain ⟨rfl, hP, hK⟩ := hv
  have hr := B.returns
  have hlocks := B.notSynchronized
  have hl := lv_entry ([.ref (ad 0), .int (x1)]) (n := 4) (Nat.le_of_ble_eq_true rfl)
  rw [lg_entry_eq]
  exact wCM_findFunction ⟨B.exec, B.bytes, hml, findClass_of_methodNamed B.named, fun w h => atoms_spec (ws := wsCM_findFunction) B.pre w (List.mem_cons_of_mem _ h)⟩ hK hP (fun v pc ls hv hd => W.iret (v := v) B.exec B.bytes hr (fun t ht hW => ⟨v, rfl, hv, ht⟩) (fun q hq => absurd hq List.not_mem_nil) hd) _ hl h
abbrev rm_CM_functionOf : Room := { frames := 5, cells := 0, slots := 0, locals := 113 }
def fCM_functionOf_b50 (σ : xSt) (x1 : Int32) : Option (Int32 × xSt) :=
  if (x1 - (16 : Int32)) < 0 ∨ 24 ≤ (x1 - (16 : Int32)).toNatClampNeg then none else
  some (σ.1 19 (x1 - (16 : Int32)).toNatClampNeg, σ)
set_option maxHeartbeats 4000000 in
set_option maxRecDepth 100000 in
theorem wCM_functionOf_b50 {p : Program} {l : Launch} {e : Env} {s : State} {m : MethodId} {args : Array Value} {below : List Frame} {meth : Method} {c : Code} {Q : State → Prop} {dC : Nat → ClassId} {dI : Nat → Nat → Nat} {ad : Nat → Nat} {cA : Nat → ClassId} {r : (Int32 × xSt)} (C : CallFix p m c cCM_functionOf 2 s args wAll RCM) (hK : va_K (dC, dI) vwC (mT cA) s) (hend : ∀ (v : Int32) (σ : xSt) (H : Heap) (locs : List Loc) (pc : Nat) (ls : Array Slot), (v, σ) = r → va_P (dC, dI) vwC (mW ad cA σ) H → va_S (mA ad) s.heap H locs → decode cCM_functionOf pc = .ok (.ireturn, 1) → W p l e rm_CM_functionOf s m args below meth c H locs 0 0 Q (F0 m pc ls [.int v])) :
    ∀ (σ : xSt) (H : Heap) (locs : List Loc) (x1 : Int32) (ls : Array Slot), va_P (dC, dI) vwC (mW ad cA σ) H → va_D (mA ad) (mW ad cA σ) → va_S (mA ad) s.heap H locs → lv_has ls 2 [(0, .ref (ad 0)), (1, .int (x1))] → fCM_functionOf_b50 σ x1 = some r → W p l e rm_CM_functionOf s m args below meth c H locs 0 0 Q (F0 m 50 ls []) := by
  obtain ⟨hx, hb, hml, hown, hts⟩ := id C
  intro σ H locs x1 ls hP hD hS hl h
  unfold fCM_functionOf_b50 at h
  refine lv_aload_n hx hb dCM_functionOf_50 rfl (lv_at hl 0 rfl) ?_
  refine va_get (D := (dC, dI)) (ci := 5) (v := .ref (ad 19)) (C := RCM) (T := TCM) (N := 23) hx hb hts inCM hown hK hP 0 rfl rfl 22 (by decide) (hts _ mw_359) (fun _ h9 => h9) rfl dCM_functionOf_51 ?_
  refine lv_iload_n hx hb dCM_functionOf_54 rfl (lv_at hl 1 rfl) ?_
  refine lv_bipush (v := (16 : Int32)) hx hb dCM_functionOf_55 (by decide) ?_
  refine lv_isub hx hb dCM_functionOf_57 ?_
  obtain ⟨b4, h⟩ := gx_nb h
  refine va_iald hx hb hK hP 19 18 rfl rfl b4 dCM_functionOf_58 ?_
  exact hend _ _ _ _ _ _ (Option.some.inj h) hP hS dCM_functionOf_59
def fCM_functionOf (σ : xSt) (x1 : Int32) : Option (Int32 × xSt) :=
  (fCM_isTold σ x1).bind fun v1 =>
  if v1 = 0 then
    some ((-1 : Int32), σ)
  else
    if (x1 - (16 : Int32)) < 0 ∨ 24 ≤ (x1 - (16 : Int32)).toNatClampNeg then none else
    if (σ.1 1 (x1 - (16 : Int32)).toNatClampNeg) = 0 then
      some ((-1 : Int32), σ)
    else
      if (x1 - (16 : Int32)) < 0 ∨ 24 ≤ (x1 - (16 : Int32)).toNatClampNeg then none else
      if (σ.1 19 (x1 - (16 : Int32)).toNatClampNeg) = (-2 : Int32) then
        (fCM_findFunction σ x1).bind fun v5 =>
        if (x1 - (16 : Int32)) < 0 ∨ 24 ≤ (x1 - (16 : Int32)).toNatClampNeg then none else
        nm (sI σ 19 (x1 - (16 : Int32)).toNatClampNeg v5) fun σ7 =>
        fCM_functionOf_b50 σ7 x1
      else
        fCM_functionOf_b50 σ x1
set_option maxHeartbeats 4000000 in
set_option maxRecDepth 100000 in
theorem wCM_functionOf {p : Program} {l : Launch} {e : Env} {s : State} {m : MethodId} {args : Array Value} {below : List Frame} {meth : Method} {c : Code} {Q : State → Prop} {dC : Nat → ClassId} {dI : Nat → Nat → Nat} {ad : Nat → Nat} {cA : Nat → ClassId} {r : (Int32 × xSt)} (C : CallFix p m c cCM_functionOf 2 s args wAll RCM) (hK : va_K (dC, dI) vwC (mT cA) s) (hend : ∀ (v : Int32) (σ : xSt) (H : Heap) (locs : List Loc) (pc : Nat) (ls : Array Slot), (v, σ) = r → va_P (dC, dI) vwC (mW ad cA σ) H → va_S (mA ad) s.heap H locs → decode cCM_functionOf pc = .ok (.ireturn, 1) → W p l e rm_CM_functionOf s m args below meth c H locs 0 0 Q (F0 m pc ls [.int v])) {H : Heap} {locs : List Loc} {σ : xSt} (hP : va_P (dC, dI) vwC (mW ad cA σ) H) (hD : va_D (mA ad) (mW ad cA σ)) (hS : va_S (mA ad) s.heap H locs) {x1 : Int32} (ls : Array Slot) (hl : lv_has ls 2 [(0, .ref (ad 0)), (1, .int (x1))]) (h : fCM_functionOf σ x1 = some r) : W p l e rm_CM_functionOf s m args below meth c H locs 0 0 Q (F0 m 0 ls []) := by
  obtain ⟨hx, hb, hml, hown, hts⟩ := id C
  unfold fCM_functionOf at h
  refine lv_aload_n hx hb dCM_functionOf_0 rfl (lv_at hl 0 rfl) ?_
  refine lv_iload_n hx hb dCM_functionOf_1 rfl (lv_at hl 1 rfl) ?_
  obtain ⟨v1, ev1, h⟩ := Option.bind_eq_some_iff.mp h
  refine gcall_r (b := ad 0) (As := [.int (x1)]) (rest := []) C hK hP (ci := 5) (q0 := 0) rfl rfl (kCM_isTold l dC dI ad cA σ x1 v1 ev1) (cwV 1 hts (gw mw_371 mw_372 mw_373 mw_363 mw_374) rfl rfl rfl hdCM_isTold ⟨Nat.le_of_ble_eq_true rfl, Nat.le_of_ble_eq_true rfl⟩) rfl hl.1 rfl (Nat.le_of_ble_eq_true rfl) dCM_functionOf_2 ⟨Nat.le_refl _, Nat.le_refl _⟩ ?_
  refine lv_if_eq (tgt := 20) hx hb dCM_functionOf_5 (by decide) (fun c10 => ?_) (fun c10 => ?_)
  · have h := (if_pos c10).symm.trans h
    refine lv_iconst (v := (-1 : Int32)) hx hb dCM_functionOf_20 (by decide) ?_
    exact hend _ _ _ _ _ _ (Option.some.inj h) hP hS dCM_functionOf_21
  · have h := (if_neg c10).symm.trans h
    refine lv_aload_n hx hb dCM_functionOf_8 rfl (lv_at hl 0 rfl) ?_
    refine va_get (D := (dC, dI)) (ci := 5) (v := .ref (ad 1)) (C := RCM) (T := TCM) (N := 23) hx hb hts inCM hown hK hP 0 rfl rfl 1 (by decide) (hts _ mw_357) (fun _ h9 => h9) rfl dCM_functionOf_9 ?_
    refine lv_iload_n hx hb dCM_functionOf_12 rfl (lv_at hl 1 rfl) ?_
    refine lv_bipush (v := (16 : Int32)) hx hb dCM_functionOf_13 (by decide) ?_
    refine lv_isub hx hb dCM_functionOf_15 ?_
    obtain ⟨b2, h⟩ := gx_nb h
    refine va_zald hx hb hK hP 1 0 rfl rfl b2 dCM_functionOf_16 ?_
    refine lv_if_ne (tgt := 22) hx hb dCM_functionOf_17 (by decide) (fun c9 => ?_) (fun c9 => ?_)
    · have h := (if_neg c9).symm.trans h
      refine lv_aload_n hx hb dCM_functionOf_22 rfl (lv_at hl 0 rfl) ?_
      refine va_get (D := (dC, dI)) (ci := 5) (v := .ref (ad 19)) (C := RCM) (T := TCM) (N := 23) hx hb hts inCM hown hK hP 0 rfl rfl 22 (by decide) (hts _ mw_359) (fun _ h9 => h9) rfl dCM_functionOf_23 ?_
      refine lv_iload_n hx hb dCM_functionOf_26 rfl (lv_at hl 1 rfl) ?_
      refine lv_bipush (v := (16 : Int32)) hx hb dCM_functionOf_27 (by decide) ?_
      refine lv_isub hx hb dCM_functionOf_29 ?_
      obtain ⟨b3, h⟩ := gx_nb h
      refine va_iald hx hb hK hP 19 18 rfl rfl b3 dCM_functionOf_30 ?_
      refine lv_bipush (v := (-2 : Int32)) hx hb dCM_functionOf_31 (by decide) ?_
      refine lv_icmp_ne (tgt := 50) hx hb dCM_functionOf_33 (by decide) (fun c8 => ?_) (fun c8 => ?_)
      · have h := (if_neg c8).symm.trans h
        exact wCM_functionOf_b50 C hK hend _ _ _ _ _ hP hD hS (lv_sub hl [0, 1] rfl) h
      · have h := (if_pos c8).symm.trans h
        refine lv_aload_n hx hb dCM_functionOf_36 rfl (lv_at hl 0 rfl) ?_
        refine va_get (D := (dC, dI)) (ci := 5) (v := .ref (ad 19)) (C := RCM) (T := TCM) (N := 23) hx hb hts inCM hown hK hP 0 rfl rfl 22 (by decide) (hts _ mw_359) (fun _ h9 => h9) rfl dCM_functionOf_37 ?_
        refine lv_iload_n hx hb dCM_functionOf_40 rfl (lv_at hl 1 rfl) ?_
        refine lv_bipush (v := (16 : Int32)) hx hb dCM_functionOf_41 (by decide) ?_
        refine lv_isub hx hb dCM_functionOf_43 ?_
        refine lv_aload_n hx hb dCM_functionOf_44 rfl (lv_at hl 0 rfl) ?_
        refine lv_iload_n hx hb dCM_functionOf_45 rfl (lv_at hl 1 rfl) ?_
        obtain ⟨v5, ev5, h⟩ := Option.bind_eq_some_iff.mp h
        refine gcall_r (b := ad 0) (As := [.int (x1)]) (rest := [.int (x1 - (16 : Int32)), .ref (ad 19)]) C hK hP (ci := 5) (q0 := 0) rfl rfl (kCM_findFunction l dC dI ad cA σ x1 v5 ev5) (cwV 1 hts (gw mw_430 mw_431 mw_432 mw_363 mw_433) rfl rfl rfl hdCM_findFunction ⟨Nat.le_of_ble_eq_true rfl, Nat.le_of_ble_eq_true rfl⟩) rfl hl.1 rfl (Nat.le_of_ble_eq_true rfl) dCM_functionOf_46 ⟨Nat.le_refl _, Nat.le_refl _⟩ ?_
        obtain ⟨b6, h⟩ := gx_nb h
        refine va_iast hx hb hK hP hD hS 19 18 rfl rfl b6 dCM_functionOf_49 (fun H locs hP hD hS => ?_)
        obtain ⟨σ7, eσ7⟩ : ∃ z, z = sI σ 19 (x1 - (16 : Int32)).toNatClampNeg v5 := ⟨_, rfl⟩
        have hP : va_P (dC, dI) vwC (mW ad cA σ7) H := by rw [eσ7]; exact hP
        have hD : va_D (mA ad) (mW ad cA σ7) := by rw [eσ7]; exact hD
        have h := nm_at eσ7 h
        exact wCM_functionOf_b50 C hK hend _ _ _ _ _ hP hD hS (lv_sub hl [0, 1] rfl) h
    · have h := (if_pos c9).symm.trans h
      refine lv_iconst (v := (-1 : Int32)) hx hb dCM_functionOf_20 (by decide) ?_
      exact hend _ _ _ _ _ _ (Option.some.inj h) hP hS dCM_functionOf_21
set_option maxHeartbeats 4000000 in
set_option maxRecDepth 100000 in
theorem kCM_functionOf (l : Launch) (dC : Nat → ClassId) (dI : Nat → Nat → Nat) (ad : Nat → Nat) (cA : Nat → ClassId) (σ : xSt) (x1 : Int32) (r : (Int32 × xSt)) (h : fCM_functionOf σ x1 = some r) : Met l yCM_functionOf wsCM_functionOf rm_CM_functionOf (va_Pc [.ref (ad 0), .int (x1)] (fun U => va_P (dC, dI) vwC (mW ad cA σ) U.heap ∧ va_K (dC, dI) vwC (mT cA) U ∧ va_D (mA ad) (mW ad cA σ))) (va_Qi (fun (v : Int32) (u : xSt) => (v, u) = r) (fun u t => va_P (dC, dI) vwC (mW ad cA u) t.heap) (mA ad)) 0 0 (mA ad) := by
  refine Met.ofW (cc := cCM_functionOf) (maxL := 2) (ret := (some .int)) (by decide) rfl ?_
  intro p e s m args below meth c s₁ B hml hv
  obtain ⟨rfl, hP, hK, hD⟩ := hv
  have hr := B.returns
  have hlocks := B.notSynchronized
  have hl := lv_entry ([.ref (ad 0), .int (x1)]) (n := 2) (Nat.le_of_ble_eq_true rfl)
  rw [lg_entry_eq]
  exact wCM_functionOf ⟨B.exec, B.bytes, hml, findClass_of_methodNamed B.named, fun w h => atoms_spec (ws := wsCM_functionOf) B.pre w (List.mem_cons_of_mem _ h)⟩ hK (fun v σ H locs pc ls hv hP hS hd => W.iret (v := v) B.exec B.bytes hr (fun t ht hW => ⟨⟨v, σ, rfl, hv, by show va_P _ _ _ t.heap; rw [ht]; exact hP⟩, hS.F ht⟩) hS.2.2 hd) hP hD va_S.rf _ hl h
abbrev rm_CM_function : Room := { frames := 6, cells := 0, slots := 0, locals := 134 }
def fCM_function (σ : xSt) (x1 : Int32) : Option (Int32 × xSt) :=
  (fCM_isType σ x1).bind fun v1 =>
  if v1 = 0 then
    some ((-2 : Int32), σ)
  else
    gx_b2 (fCM_functionOf σ x1) fun v2 σ3 =>
    some (v2, σ3)
set_option maxHeartbeats 4000000 in
set_option maxRecDepth 100000 in
theorem wCM_function {p : Program} {l : Launch} {e : Env} {s : State} {m : MethodId} {args : Array Value} {below : List Frame} {meth : Method} {c : Code} {Q : State → Prop} {dC : Nat → ClassId} {dI : Nat → Nat → Nat} {ad : Nat → Nat} {cA : Nat → ClassId} {r : (Int32 × xSt)} (C : CallFix p m c cCM_function 2 s args wAll RCM) (hK : va_K (dC, dI) vwC (mT cA) s) (hend : ∀ (v : Int32) (σ : xSt) (H : Heap) (locs : List Loc) (pc : Nat) (ls : Array Slot), (v, σ) = r → va_P (dC, dI) vwC (mW ad cA σ) H → va_S (mA ad) s.heap H locs → decode cCM_function pc = .ok (.ireturn, 1) → W p l e rm_CM_function s m args below meth c H locs 0 0 Q (F0 m pc ls [.int v])) {H : Heap} {locs : List Loc} {σ : xSt} (hP : va_P (dC, dI) vwC (mW ad cA σ) H) (hD : va_D (mA ad) (mW ad cA σ)) (hS : va_S (mA ad) s.heap H locs) {x1 : Int32} (ls : Array Slot) (hl : lv_has ls 2 [(0, .ref (ad 0)), (1, .int (x1))]) (h : fCM_function σ x1 = some r) : W p l e rm_CM_function s m args below meth c H locs 0 0 Q (F0 m 0 ls []) := by
  obtain ⟨hx, hb, hml, hown, hts⟩ := id C
  unfold fCM_function at h
  refine lv_aload_n hx hb dCM_function_0 rfl (lv_at hl 0 rfl) ?_
  refine lv_iload_n hx hb dCM_function_1 rfl (lv_at hl 1 rfl) ?_
  obtain ⟨v1, ev1, h⟩ := Option.bind_eq_some_iff.mp h
  refine gcall_r (b := ad 0) (As := [.int (x1)]) (rest := []) C hK hP (ci := 5) (q0 := 0) rfl rfl (kCM_isType l dC dI ad cA σ x1 v1 ev1) (cwV 1 hts (gw mw_379 mw_380 mw_381 mw_363 mw_382) rfl rfl rfl hdCM_isType ⟨Nat.le_of_ble_eq_true rfl, Nat.le_of_ble_eq_true rfl⟩) rfl hl.1 rfl (Nat.le_of_ble_eq_true rfl) dCM_function_2 ⟨Nat.le_refl _, Nat.le_refl _⟩ ?_
  refine lv_if_eq (tgt := 16) hx hb dCM_function_5 (by decide) (fun c5 => ?_) (fun c5 => ?_)
  · have h := (if_pos c5).symm.trans h
    refine lv_bipush (v := (-2 : Int32)) hx hb dCM_function_16 (by decide) ?_
    exact hend _ _ _ _ _ _ (Option.some.inj h) hP hS dCM_function_18
  · have h := (if_neg c5).symm.trans h
    refine lv_aload_n hx hb dCM_function_8 rfl (lv_at hl 0 rfl) ?_
    refine lv_iload_n hx hb dCM_function_9 rfl (lv_at hl 1 rfl) ?_
    obtain ⟨v2, σ3, ez4, h⟩ := gx_b2_at h
    refine gcall_i (wd := mW ad cA) (b := ad 0) (As := [.int (x1)]) (rest := []) mkeys C hK hP hD hS (ci := 5) (q0 := 0) rfl rfl (kCM_functionOf l dC dI ad cA σ x1 (v2, σ3) ez4) (cwV 1 hts (gw mw_434 mw_435 mw_436 mw_363 mw_437) rfl rfl rfl hdCM_functionOf ⟨Nat.le_of_ble_eq_true rfl, Nat.le_of_ble_eq_true rfl⟩) rfl hl.1 rfl (Nat.le_of_ble_eq_true rfl) dCM_function_10 ⟨Nat.le_refl _, Nat.le_refl _⟩ (fun H locs hP hD hS => ?_)
    refine lv_goto (tgt := 18) hx hb dCM_function_13 (by decide) ?_
    exact hend _ _ _ _ _ _ (Option.some.inj h) hP hS dCM_function_18
set_option maxHeartbeats 4000000 in
set_option maxRecDepth 100000 in
theorem kCM_function (l : Launch) (dC : Nat → ClassId) (dI : Nat → Nat → Nat) (ad : Nat → Nat) (cA : Nat → ClassId) (σ : xSt) (x1 : Int32) (r : (Int32 × xSt)) (h : fCM_function σ x1 = some r) : Met l yCM_function wsCM_function rm_CM_function (va_Pc [.ref (ad 0), .int (x1)] (fun U => va_P (dC, dI) vwC (mW ad cA σ) U.heap ∧ va_K (dC, dI) vwC (mT cA) U ∧ va_D (mA ad) (mW ad cA σ))) (va_Qi (fun (v : Int32) (u : xSt) => (v, u) = r) (fun u t => va_P (dC, dI) vwC (mW ad cA u) t.heap) (mA ad)) 0 0 (mA ad) := by
  refine Met.ofW (cc := cCM_function) (maxL := 2) (ret := (some .int)) (by decide) rfl ?_
  intro p e s m args below meth c s₁ B hml hv
  obtain ⟨rfl, hP, hK, hD⟩ := hv
  have hr := B.returns
  have hlocks := B.notSynchronized
  have hl := lv_entry ([.ref (ad 0), .int (x1)]) (n := 2) (Nat.le_of_ble_eq_true rfl)
  rw [lg_entry_eq]
  exact wCM_function ⟨B.exec, B.bytes, hml, findClass_of_methodNamed B.named, fun w h => atoms_spec (ws := wsCM_function) B.pre w (List.mem_cons_of_mem _ h)⟩ hK (fun v σ H locs pc ls hv hP hS hd => W.iret (v := v) B.exec B.bytes hr (fun t ht hW => ⟨⟨v, σ, rfl, hv, by show va_P _ _ _ t.heap; rw [ht]; exact hP⟩, hS.F ht⟩) hS.2.2 hd) hP hD va_S.rf _ hl h
abbrev rm_CM_isAsked : Room := { frames := 1, cells := 0, slots := 0, locals := 21 }
def fCM_isAsked (σ : xSt) (x1 : Int32) (x2 : Int32) (x3 : Int32) : Option Int32 :=
  (fCM_isTold σ x1).bind fun v1 =>
  if v1 = 0 then
    some (0 : Int32)
  else
    (fCM_isName σ x2).bind fun v2 =>
    if v2 = 0 then
      some (0 : Int32)
    else
      if x3 = (-1 : Int32) then
        some (1 : Int32)
      else
        (fCM_isTold σ x3).bind fun v3 =>
        if v3 = 0 then
          some (0 : Int32)
        else
          some (1 : Int32)
set_option maxHeartbeats 4000000 in
set_option maxRecDepth 100000 in
theorem wCM_isAsked {p : Program} {l : Launch} {e : Env} {s : State} {m : MethodId} {args : Array Value} {below : List Frame} {meth : Method} {c : Code} {Q : State → Prop} {dC : Nat → ClassId} {dI : Nat → Nat → Nat} {ad : Nat → Nat} {cA : Nat → ClassId} {r : Int32} {H : Heap} {locs : List Loc} {σ : xSt} (C : CallFix p m c cCM_isAsked 4 s args wAll RCM) (hK : va_K (dC, dI) vwC (mT cA) s) (hP : va_P (dC, dI) vwC (mW ad cA σ) H) (hend : ∀ (v : Int32) (pc : Nat) (ls : Array Slot), v = r → narrow .boolean (.int v) = .int v → decode cCM_isAsked pc = .ok (.ireturn, 1) → W p l e rm_CM_isAsked s m args below meth c H locs 0 0 Q (F0 m pc ls [.int v])) {x1 : Int32} {x2 : Int32} {x3 : Int32} (ls : Array Slot) (hl : lv_has ls 4 [(0, .ref (ad 0)), (1, .int (x1)), (2, .int (x2)), (3, .int (x3))]) (h : fCM_isAsked σ x1 x2 x3 = some r) : W p l e rm_CM_isAsked s m args below meth c H locs 0 0 Q (F0 m 0 ls []) := by
  obtain ⟨hx, hb, hml, hown, hts⟩ := id C
  unfold fCM_isAsked at h
  refine lv_aload_n hx hb dCM_isAsked_0 rfl (lv_at hl 0 rfl) ?_
  refine lv_iload_n hx hb dCM_isAsked_1 rfl (lv_at hl 1 rfl) ?_
  obtain ⟨v1, ev1, h⟩ := Option.bind_eq_some_iff.mp h
  refine gcall_r (b := ad 0) (As := [.int (x1)]) (rest := []) C hK hP (ci := 5) (q0 := 0) rfl rfl (kCM_isTold l dC dI ad cA σ x1 v1 ev1) (cwV 1 hts (gw mw_371 mw_372 mw_373 mw_363 mw_374) rfl rfl rfl hdCM_isTold ⟨Nat.le_of_ble_eq_true rfl, Nat.le_of_ble_eq_true rfl⟩) rfl hl.1 rfl (Nat.le_of_ble_eq_true rfl) dCM_isAsked_2 ⟨Nat.le_refl _, Nat.le_refl _⟩ ?_
  refine lv_if_eq (tgt := 32) hx hb dCM_isAsked_5 (by decide) (fun c7 => ?_) (fun c7 => ?_)
  · have h := (if_pos c7).symm.trans h
    refine lv_iconst (v := (0 : Int32)) hx hb dCM_isAsked_32 (by decide) ?_
    exact hend _ _ _ (Option.some.inj h) rfl dCM_isAsked_33
  · have h := (if_neg c7).symm.trans h
    refine lv_iload_n hx hb dCM_isAsked_8 rfl (lv_at hl 2 rfl) ?_
    obtain ⟨v2, ev2, h⟩ := Option.bind_eq_some_iff.mp h
    refine gcall_s (As := [.int (x2)]) (rest := []) C hK hP (kCM_isName l dC dI ad cA σ x2 v2 ev2) (va_cwS 1 hts (gws mw_415 mw_416 mw_363 mw_417) rfl rfl rfl hdCM_isName ⟨Nat.le_of_ble_eq_true rfl, Nat.le_of_ble_eq_true rfl⟩) rfl hl.1 rfl (Nat.le_of_ble_eq_true rfl) dCM_isAsked_9 ⟨Nat.le_refl _, Nat.le_refl _⟩ ?_
    refine lv_if_eq (tgt := 32) hx hb dCM_isAsked_12 (by decide) (fun c6 => ?_) (fun c6 => ?_)
    · have h := (if_pos c6).symm.trans h
      refine lv_iconst (v := (0 : Int32)) hx hb dCM_isAsked_32 (by decide) ?_
      exact hend _ _ _ (Option.some.inj h) rfl dCM_isAsked_33
    · have h := (if_neg c6).symm.trans h
      refine lv_iload_n hx hb dCM_isAsked_15 rfl (lv_at hl 3 rfl) ?_
      refine lv_iconst (v := (-1 : Int32)) hx hb dCM_isAsked_16 (by decide) ?_
      refine lv_icmp_eq (tgt := 28) hx hb dCM_isAsked_17 (by decide) (fun c5 => ?_) (fun c5 => ?_)
      · have h := (if_pos c5).symm.trans h
        refine lv_iconst (v := (1 : Int32)) hx hb dCM_isAsked_28 (by decide) ?_
        refine lv_goto (tgt := 33) hx hb dCM_isAsked_29 (by decide) ?_
        exact hend _ _ _ (Option.some.inj h) rfl dCM_isAsked_33
      · have h := (if_neg c5).symm.trans h
        refine lv_aload_n hx hb dCM_isAsked_20 rfl (lv_at hl 0 rfl) ?_
        refine lv_iload_n hx hb dCM_isAsked_21 rfl (lv_at hl 3 rfl) ?_
        obtain ⟨v3, ev3, h⟩ := Option.bind_eq_some_iff.mp h
        refine gcall_r (b := ad 0) (As := [.int (x3)]) (rest := []) C hK hP (ci := 5) (q0 := 0) rfl rfl (kCM_isTold l dC dI ad cA σ x3 v3 ev3) (cwV 1 hts (gw mw_371 mw_372 mw_373 mw_363 mw_374) rfl rfl rfl hdCM_isTold ⟨Nat.le_of_ble_eq_true rfl, Nat.le_of_ble_eq_true rfl⟩) rfl hl.1 rfl (Nat.le_of_ble_eq_true rfl) dCM_isAsked_22 ⟨Nat.le_refl _, Nat.le_refl _⟩ ?_
        refine lv_if_eq (tgt := 32) hx hb dCM_isAsked_25 (by decide) (fun c4 => ?_) (fun c4 => ?_)
        · have h := (if_pos c4).symm.trans h
          refine lv_iconst (v := (0 : Int32)) hx hb dCM_isAsked_32 (by decide) ?_
          exact hend _ _ _ (Option.some.inj h) rfl dCM_isAsked_33
        · have h := (if_neg c4).symm.trans h
          refine lv_iconst (v := (1 : Int32)) hx hb dCM_isAsked_28 (by decide) ?_
          refine lv_goto (tgt := 33) hx hb dCM_isAsked_29 (by decide) ?_
          exact hend _ _ _ (Option.some.inj h) rfl dCM_isAsked_33
set_option maxHeartbeats 4000000 in
set_option maxRecDepth 100000 in
theorem kCM_isAsked (l : Launch) (dC : Nat → ClassId) (dI : Nat → Nat → Nat) (ad : Nat → Nat) (cA : Nat → ClassId) (σ : xSt) (x1 : Int32) (x2 : Int32) (x3 : Int32) (r : Int32) (h : fCM_isAsked σ x1 x2 x3 = some r) : Met l yCM_isAsked wsCM_isAsked rm_CM_isAsked (va_Pc [.ref (ad 0), .int (x1), .int (x2), .int (x3)] (fun U => va_P (dC, dI) vwC (mW ad cA σ) U.heap ∧ va_K (dC, dI) vwC (mT cA) U)) (vp_Si (fun v => v = r)) 0 0 (fun _ => False) := by
  refine Met.ofW (cc := cCM_isAsked) (maxL := 4) (ret := (some .boolean)) (by decide) rfl ?_
  intro p e s m args below meth c s₁ B hml hv
  obtain ⟨rfl, hP, hK⟩ := hv
  have hr := B.returns
  have hlocks := B.notSynchronized
  have hl := lv_entry ([.ref (ad 0), .int (x1), .int (x2), .int (x3)]) (n := 4) (Nat.le_of_ble_eq_true rfl)
  rw [lg_entry_eq]
  exact wCM_isAsked ⟨B.exec, B.bytes, hml, findClass_of_methodNamed B.named, fun w h => atoms_spec (ws := wsCM_isAsked) B.pre w (List.mem_cons_of_mem _ h)⟩ hK hP (fun v pc ls hv hn hd => W.zret (v := v) B.exec B.bytes hr hn (fun t ht hW => ⟨v, rfl, hv, ht⟩) (fun q hq => absurd hq List.not_mem_nil) hd) _ hl h
abbrev rm_CM_seen : Room := { frames := 4, cells := 0, slots := 0, locals := 90 }
def fCM_seen_b57 (k19 : Int32 → Int32 → Int32 → Int32 → Int32 → Option Int32) (σ : xSt) (x1 : Int32) (x2 : Int32) (x3 : Int32) (x5 : Int32) (s0 : Int32) (s1 : Int32) : Option Int32 :=
  nm (s0 + s1) fun y3 =>
  k19 x1 x2 x3 y3 (x5 + (1 : Int32))
set_option maxHeartbeats 4000000 in
set_option maxRecDepth 100000 in
theorem wCM_seen_b57 {p : Program} {l : Launch} {e : Env} {s : State} {m : MethodId} {args : Array Value} {below : List Frame} {meth : Method} {c : Code} {Q : State → Prop} {dC : Nat → ClassId} {dI : Nat → Nat → Nat} {ad : Nat → Nat} {cA : Nat → ClassId} {r : Int32} {H : Heap} {locs : List Loc} {σ : xSt} (C : CallFix p m c cCM_seen 6 s args wAll RCM) (hK : va_K (dC, dI) vwC (mT cA) s) (hP : va_P (dC, dI) vwC (mW ad cA σ) H) (hend : ∀ (v : Int32) (pc : Nat) (ls : Array Slot), v = r → decode cCM_seen pc = .ok (.ireturn, 1) → W p l e rm_CM_seen s m args below meth c H locs 0 0 Q (F0 m pc ls [.int v])) {k19 : Int32 → Int32 → Int32 → Int32 → Int32 → Option Int32} (hk19 : ∀ (x1 : Int32) (x2 : Int32) (x3 : Int32) (x4 : Int32) (x5 : Int32) (ls : Array Slot), lv_has ls 6 [(0, .ref (ad 0)), (1, .int (x1)), (2, .int (x2)), (3, .int (x3)), (4, .int (x4)), (5, .int (x5))] → k19 x1 x2 x3 x4 x5 = some r → W p l e rm_CM_seen s m args below meth c H locs 0 0 Q (F0 m 19 ls [])) :
    ∀ (x1 : Int32) (x2 : Int32) (x3 : Int32) (x5 : Int32) (s0 : Int32) (s1 : Int32) (ls : Array Slot), lv_has ls 6 [(0, .ref (ad 0)), (1, .int (x1)), (2, .int (x2)), (3, .int (x3)), (5, .int (x5))] → fCM_seen_b57 k19 σ x1 x2 x3 x5 s0 s1 = some r → W p l e rm_CM_seen s m args below meth c H locs 0 0 Q (F0 m 57 ls [.int (s1), .int (s0)]) := by
  obtain ⟨hx, hb, hml, hown, hts⟩ := id C
  intro x1 x2 x3 x5 s0 s1 ls hl h
  unfold fCM_seen_b57 at h
  refine lv_iadd hx hb dCM_seen_57 ?_
  refine lv_topi (fun y3 ey3 => ?_)
  have h := nm_at ey3 h
  refine lv_istore (lv' := [(4, .int (y3)), (0, .ref (ad 0)), (1, .int (x1)), (2, .int (x2)), (3, .int (x3)), (5, .int (x5))]) hx hb dCM_seen_58 hl (by decide) rfl (fun ls hl => ?_)
  refine lv_iinc (v := x5 + (1 : Int32)) (lv' := [(5, .int (x5 + (1 : Int32))), (4, .int (y3)), (0, .ref (ad 0)), (1, .int (x1)), (2, .int (x2)), (3, .int (x3))]) hx hb dCM_seen_60 hl (k := 5) rfl rfl (by decide) rfl (fun ls hl => ?_)
  refine lv_goto (tgt := 19) hx hb dCM_seen_63 (by decide) ?_
  exact hk19 _ _ _ _ _ _ (lv_sub hl [2, 3, 4, 5, 1, 0] rfl) h
def fCM_seen_b56 (k19 : Int32 → Int32 → Int32 → Int32 → Int32 → Option Int32) (σ : xSt) (x1 : Int32) (x2 : Int32) (x3 : Int32) (x5 : Int32) (s0 : Int32) : Option Int32 :=
  fCM_seen_b57 k19 σ x1 x2 x3 x5 s0 (0 : Int32)
set_option maxHeartbeats 4000000 in
set_option maxRecDepth 100000 in
theorem wCM_seen_b56 {p : Program} {l : Launch} {e : Env} {s : State} {m : MethodId} {args : Array Value} {below : List Frame} {meth : Method} {c : Code} {Q : State → Prop} {dC : Nat → ClassId} {dI : Nat → Nat → Nat} {ad : Nat → Nat} {cA : Nat → ClassId} {r : Int32} {H : Heap} {locs : List Loc} {σ : xSt} (C : CallFix p m c cCM_seen 6 s args wAll RCM) (hK : va_K (dC, dI) vwC (mT cA) s) (hP : va_P (dC, dI) vwC (mW ad cA σ) H) (hend : ∀ (v : Int32) (pc : Nat) (ls : Array Slot), v = r → decode cCM_seen pc = .ok (.ireturn, 1) → W p l e rm_CM_seen s m args below meth c H locs 0 0 Q (F0 m pc ls [.int v])) {k19 : Int32 → Int32 → Int32 → Int32 → Int32 → Option Int32} (hk19 : ∀ (x1 : Int32) (x2 : Int32) (x3 : Int32) (x4 : Int32) (x5 : Int32) (ls : Array Slot), lv_has ls 6 [(0, .ref (ad 0)), (1, .int (x1)), (2, .int (x2)), (3, .int (x3)), (4, .int (x4)), (5, .int (x5))] → k19 x1 x2 x3 x4 x5 = some r → W p l e rm_CM_seen s m args below meth c H locs 0 0 Q (F0 m 19 ls [])) :
    ∀ (x1 : Int32) (x2 : Int32) (x3 : Int32) (x5 : Int32) (s0 : Int32) (ls : Array Slot), lv_has ls 6 [(0, .ref (ad 0)), (1, .int (x1)), (2, .int (x2)), (3, .int (x3)), (5, .int (x5))] → fCM_seen_b56 k19 σ x1 x2 x3 x5 s0 = some r → W p l e rm_CM_seen s m args below meth c H locs 0 0 Q (F0 m 56 ls [.int (s0)]) := by
  obtain ⟨hx, hb, hml, hown, hts⟩ := id C
  intro x1 x2 x3 x5 s0 ls hl h
  unfold fCM_seen_b56 at h
  refine lv_iconst (v := (0 : Int32)) hx hb dCM_seen_56 (by decide) ?_
  exact wCM_seen_b57 C hK hP hend hk19 _ _ _ _ _ _ _ (lv_sub hl [0, 1, 2, 3, 4] rfl) h
def fCM_seen_b19 (σ : xSt) : Nat → Int32 → Int32 → Int32 → Int32 → Int32 → Option Int32
  | 0, _, _, _, _, _ => none
  | n + 1, x1, x2, x3, x4, x5 =>
    if (σ.1 0 6) ≤ x5 then
      some x4
    else
      if x5 < 0 ∨ 60 ≤ x5.toNatClampNeg then none else
      if (σ.1 7 x5.toNatClampNeg) = x2 then
        (fCM_isSeen σ x5 x1 x3).bind fun v4 =>
        if v4 = 0 then
          fCM_seen_b56 (fCM_seen_b19 σ n) σ x1 x2 x3 x5 x4
        else
          fCM_seen_b57 (fCM_seen_b19 σ n) σ x1 x2 x3 x5 x4 (1 : Int32)
      else
        fCM_seen_b56 (fCM_seen_b19 σ n) σ x1 x2 x3 x5 x4
set_option maxHeartbeats 4000000 in
set_option maxRecDepth 100000 in
theorem wCM_seen_b19 {p : Program} {l : Launch} {e : Env} {s : State} {m : MethodId} {args : Array Value} {below : List Frame} {meth : Method} {c : Code} {Q : State → Prop} {dC : Nat → ClassId} {dI : Nat → Nat → Nat} {ad : Nat → Nat} {cA : Nat → ClassId} {r : Int32} {H : Heap} {locs : List Loc} {σ : xSt} (C : CallFix p m c cCM_seen 6 s args wAll RCM) (hK : va_K (dC, dI) vwC (mT cA) s) (hP : va_P (dC, dI) vwC (mW ad cA σ) H) (hend : ∀ (v : Int32) (pc : Nat) (ls : Array Slot), v = r → decode cCM_seen pc = .ok (.ireturn, 1) → W p l e rm_CM_seen s m args below meth c H locs 0 0 Q (F0 m pc ls [.int v])) :
    ∀ (n : Nat) (x1 : Int32) (x2 : Int32) (x3 : Int32) (x4 : Int32) (x5 : Int32) (ls : Array Slot), lv_has ls 6 [(0, .ref (ad 0)), (1, .int (x1)), (2, .int (x2)), (3, .int (x3)), (4, .int (x4)), (5, .int (x5))] → fCM_seen_b19 σ n x1 x2 x3 x4 x5 = some r → W p l e rm_CM_seen s m args below meth c H locs 0 0 Q (F0 m 19 ls []) := by
  obtain ⟨hx, hb, hml, hown, hts⟩ := id C
  intro n
  induction n with
  | zero =>
    intro x1 x2 x3 x4 x5 ls hl h
    rw [fCM_seen_b19] at h
    cases h
  | succ n ih =>
    intro x1 x2 x3 x4 x5 ls hl h
    rw [fCM_seen_b19] at h
    refine lv_iload hx hb dCM_seen_19 (lv_at hl 5 rfl) ?_
    refine lv_aload_n hx hb dCM_seen_21 rfl (lv_at hl 0 rfl) ?_
    refine va_get (D := (dC, dI)) (ci := 5) (v := .int (σ.1 0 6)) (C := RCM) (T := TCM) (N := 23) hx hb hts inCM hown hK hP 0 rfl rfl 6 (by decide) (hts _ mw_401) (fun _ h9 => h9) rfl dCM_seen_22 ?_
    refine lv_icmp_ge (tgt := 66) hx hb dCM_seen_25 (by decide) (fun c7 => ?_) (fun c7 => ?_)
    · have h := (if_pos c7).symm.trans h
      refine lv_iload hx hb dCM_seen_66 (lv_at hl 4 rfl) ?_
      exact hend _ _ _ (Option.some.inj h) dCM_seen_68
    · have h := (if_neg c7).symm.trans h
      refine lv_iload hx hb dCM_seen_28 (lv_at hl 4 rfl) ?_
      refine lv_aload_n hx hb dCM_seen_30 rfl (lv_at hl 0 rfl) ?_
      refine va_get (D := (dC, dI)) (ci := 5) (v := .ref (ad 7)) (C := RCM) (T := TCM) (N := 23) hx hb hts inCM hown hK hP 0 rfl rfl 8 (by decide) (hts _ mw_403) (fun _ h9 => h9) rfl dCM_seen_31 ?_
      refine lv_iload hx hb dCM_seen_34 (lv_at hl 5 rfl) ?_
      obtain ⟨b2, h⟩ := gx_nb h
      refine va_iald hx hb hK hP 7 6 rfl rfl b2 dCM_seen_36 ?_
      refine lv_iload_n hx hb dCM_seen_37 rfl (lv_at hl 2 rfl) ?_
      refine lv_icmp_ne (tgt := 56) hx hb dCM_seen_38 (by decide) (fun c6 => ?_) (fun c6 => ?_)
      · have h := (if_neg c6).symm.trans h
        exact wCM_seen_b56 C hK hP hend ih _ _ _ _ _ _ (lv_sub hl [0, 1, 2, 3, 5] rfl) h
      · have h := (if_pos c6).symm.trans h
        refine lv_aload_n hx hb dCM_seen_41 rfl (lv_at hl 0 rfl) ?_
        refine lv_iload hx hb dCM_seen_42 (lv_at hl 5 rfl) ?_
        refine lv_iload_n hx hb dCM_seen_44 rfl (lv_at hl 1 rfl) ?_
        refine lv_iload_n hx hb dCM_seen_45 rfl (lv_at hl 3 rfl) ?_
        obtain ⟨v4, ev4, h⟩ := Option.bind_eq_some_iff.mp h
        refine gcall_r (b := ad 0) (As := [.int (x5), .int (x1), .int (x3)]) (rest := [.int (x4)]) C hK hP (ci := 5) (q0 := 0) rfl rfl (kCM_isSeen l dC dI ad cA σ x5 x1 x3 v4 ev4) (cwV 3 hts (gw mw_426 mw_427 mw_428 mw_363 mw_429) rfl rfl rfl hdCM_isSeen ⟨Nat.le_of_ble_eq_true rfl, Nat.le_of_ble_eq_true rfl⟩) rfl hl.1 rfl (Nat.le_of_ble_eq_true rfl) dCM_seen_46 ⟨Nat.le_refl _, Nat.le_refl _⟩ ?_
        refine lv_if_eq (tgt := 56) hx hb dCM_seen_49 (by decide) (fun c5 => ?_) (fun c5 => ?_)
        · have h := (if_pos c5).symm.trans h
          exact wCM_seen_b56 C hK hP hend ih _ _ _ _ _ _ (lv_sub hl [0, 1, 2, 3, 5] rfl) h
        · have h := (if_neg c5).symm.trans h
          refine lv_iconst (v := (1 : Int32)) hx hb dCM_seen_52 (by decide) ?_
          refine lv_goto (tgt := 57) hx hb dCM_seen_53 (by decide) ?_
          exact wCM_seen_b57 C hK hP hend ih _ _ _ _ _ _ _ (lv_sub hl [0, 1, 2, 3, 5] rfl) h
def fCM_seen (σ : xSt) (x1 : Int32) (x2 : Int32) (x3 : Int32) : Option Int32 :=
  (fCM_isAsked σ x1 x2 x3).bind fun v1 =>
  if v1 = 0 then
    some (-2 : Int32)
  else
    fCM_seen_b19 σ gF x1 x2 x3 (0 : Int32) (0 : Int32)
set_option maxHeartbeats 4000000 in
set_option maxRecDepth 100000 in
theorem wCM_seen {p : Program} {l : Launch} {e : Env} {s : State} {m : MethodId} {args : Array Value} {below : List Frame} {meth : Method} {c : Code} {Q : State → Prop} {dC : Nat → ClassId} {dI : Nat → Nat → Nat} {ad : Nat → Nat} {cA : Nat → ClassId} {r : Int32} {H : Heap} {locs : List Loc} {σ : xSt} (C : CallFix p m c cCM_seen 6 s args wAll RCM) (hK : va_K (dC, dI) vwC (mT cA) s) (hP : va_P (dC, dI) vwC (mW ad cA σ) H) (hend : ∀ (v : Int32) (pc : Nat) (ls : Array Slot), v = r → decode cCM_seen pc = .ok (.ireturn, 1) → W p l e rm_CM_seen s m args below meth c H locs 0 0 Q (F0 m pc ls [.int v])) {x1 : Int32} {x2 : Int32} {x3 : Int32} (ls : Array Slot) (hl : lv_has ls 6 [(0, .ref (ad 0)), (1, .int (x1)), (2, .int (x2)), (3, .int (x3))]) (h : fCM_seen σ x1 x2 x3 = some r) : W p l e rm_CM_seen s m args below meth c H locs 0 0 Q (F0 m 0 ls []) := by
  obtain ⟨hx, hb, hml, hown, hts⟩ := id C
  unfold fCM_seen at h
  refine lv_aload_n hx hb dCM_seen_0 rfl (lv_at hl 0 rfl) ?_
  refine lv_iload_n hx hb dCM_seen_1 rfl (lv_at hl 1 rfl) ?_
  refine lv_iload_n hx hb dCM_seen_2 rfl (lv_at hl 2 rfl) ?_
  refine lv_iload_n hx hb dCM_seen_3 rfl (lv_at hl 3 rfl) ?_
  obtain ⟨v1, ev1, h⟩ := Option.bind_eq_some_iff.mp h
  refine gcall_r (b := ad 0) (As := [.int (x1), .int (x2), .int (x3)]) (rest := []) C hK hP (ci := 5) (q0 := 0) rfl rfl (kCM_isAsked l dC dI ad cA σ x1 x2 x3 v1 ev1) (cwV 3 hts (gw mw_438 mw_439 mw_440 mw_363 mw_441) rfl rfl rfl hdCM_isAsked ⟨Nat.le_of_ble_eq_true rfl, Nat.le_of_ble_eq_true rfl⟩) rfl hl.1 rfl (Nat.le_of_ble_eq_true rfl) dCM_seen_4 ⟨Nat.le_refl _, Nat.le_refl _⟩ ?_
  refine lv_if_ne (tgt := 13) hx hb dCM_seen_7 (by decide) (fun c8 => ?_) (fun c8 => ?_)
  · have h := (if_neg c8).symm.trans h
    refine lv_iconst (v := (0 : Int32)) hx hb dCM_seen_13 (by decide) ?_
    refine lv_istore (lv' := [(4, .int ((0 : Int32))), (0, .ref (ad 0)), (1, .int (x1)), (2, .int (x2)), (3, .int (x3))]) hx hb dCM_seen_14 hl (by decide) rfl (fun ls hl => ?_)
    refine lv_iconst (v := (0 : Int32)) hx hb dCM_seen_16 (by decide) ?_
    refine lv_istore (lv' := [(5, .int ((0 : Int32))), (4, .int ((0 : Int32))), (0, .ref (ad 0)), (1, .int (x1)), (2, .int (x2)), (3, .int (x3))]) hx hb dCM_seen_17 hl (by decide) rfl (fun ls hl => ?_)
    exact wCM_seen_b19 C hK hP hend _ _ _ _ _ _ _ (lv_sub hl [2, 3, 4, 5, 1, 0] rfl) h
  · have h := (if_pos c8).symm.trans h
    refine lv_bipush (v := (-2 : Int32)) hx hb dCM_seen_10 (by decide) ?_
    exact hend _ _ _ (Option.some.inj h) dCM_seen_12
set_option maxHeartbeats 4000000 in
set_option maxRecDepth 100000 in
theorem kCM_seen (l : Launch) (dC : Nat → ClassId) (dI : Nat → Nat → Nat) (ad : Nat → Nat) (cA : Nat → ClassId) (σ : xSt) (x1 : Int32) (x2 : Int32) (x3 : Int32) (r : Int32) (h : fCM_seen σ x1 x2 x3 = some r) : Met l yCM_seen wsCM_seen rm_CM_seen (va_Pc [.ref (ad 0), .int (x1), .int (x2), .int (x3)] (fun U => va_P (dC, dI) vwC (mW ad cA σ) U.heap ∧ va_K (dC, dI) vwC (mT cA) U)) (vp_Si (fun v => v = r)) 0 0 (fun _ => False) := by
  refine Met.ofW (cc := cCM_seen) (maxL := 6) (ret := (some .int)) (by decide) rfl ?_
  intro p e s m args below meth c s₁ B hml hv
  obtain ⟨rfl, hP, hK⟩ := hv
  have hr := B.returns
  have hlocks := B.notSynchronized
  have hl := lv_entry ([.ref (ad 0), .int (x1), .int (x2), .int (x3)]) (n := 6) (Nat.le_of_ble_eq_true rfl)
  rw [lg_entry_eq]
  exact wCM_seen ⟨B.exec, B.bytes, hml, findClass_of_methodNamed B.named, fun w h => atoms_spec (ws := wsCM_seen) B.pre w (List.mem_cons_of_mem _ h)⟩ hK hP (fun v pc ls hv hd => W.iret (v := v) B.exec B.bytes hr (fun t ht hW => ⟨v, rfl, hv, ht⟩) (fun q hq => absurd hq List.not_mem_nil) hd) _ hl h
