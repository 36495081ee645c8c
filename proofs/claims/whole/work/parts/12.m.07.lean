abbrev rm_CM_phase : Room := { frames := 0, cells := 0, slots := 0, locals := 0 }
def fCM_phase (σ : xSt) : Option Int32 :=
  some (σ.1 0 19)
set_option maxHeartbeats 4000000 in
set_option maxRecDepth 100000 in
theorem wCM_phase {p : Program} {l : Launch} {e : Env} {s : State} {m : MethodId} {args : Array Value} {below : List Frame} {meth : Method} {c : Code} {Q : State → Prop} {dC : Nat → ClassId} {dI : Nat → Nat → Nat} {ad : Nat → Nat} {cA : Nat → ClassId} {r : Int32} {H : Heap} {locs : List Loc} {σ : xSt} (C : CallFix p m c cCM_phase 1 s args wAll RCM) (hK : va_K (dC, dI) vwC (mT cA) s) (hP : va_P (dC, dI) vwC (mW ad cA σ) H) (hend : ∀ (v : Int32) (pc : Nat) (ls : Array Slot), v = r → decode cCM_phase pc = .ok (.ireturn, 1) → W p l e rm_CM_phase s m args below meth c H locs 0 0 Q (F0 m pc ls [.int v])) (ls : Array Slot) (hl : lv_has ls 1 [(0, .ref (ad 0))]) (h : fCM_phase σ = some r) : W p l e rm_CM_phase s m args below meth c H locs 0 0 Q (F0 m 0 ls []) := by
  obtain ⟨hx, hb, hml, hown, hts⟩ := id C
  unfold fCM_phase at h
  refine lv_aload_n hx hb dCM_phase_0 rfl (lv_at hl 0 rfl) ?_
  refine va_get (D := (dC, dI)) (ci := 5) (v := .int (σ.1 0 19)) (C := RCM) (T := TCM) (N := 23) hx hb hts inCM hown hK hP 0 rfl rfl 19 (by decide) (hts _ mw_448) (fun _ h9 => h9) rfl dCM_phase_1 ?_
  exact hend _ _ _ (Option.some.inj h) dCM_phase_4
set_option maxHeartbeats 4000000 in
set_option maxRecDepth 100000 in
theorem kCM_phase (l : Launch) (dC : Nat → ClassId) (dI : Nat → Nat → Nat) (ad : Nat → Nat) (cA : Nat → ClassId) (σ : xSt) (r : Int32) (h : fCM_phase σ = some r) : Met l yCM_phase wsCM_phase rm_CM_phase (va_Pc [.ref (ad 0)] (fun U => va_P (dC, dI) vwC (mW ad cA σ) U.heap ∧ va_K (dC, dI) vwC (mT cA) U)) (vp_Si (fun v => v = r)) 0 0 (fun _ => False) := by
  refine Met.ofW (cc := cCM_phase) (maxL := 1) (ret := (some .int)) (by decide) rfl ?_
  intro p e s m args below meth c s₁ B hml hv
  obtain ⟨rfl, hP, hK⟩ := hv
  have hr := B.returns
  have hlocks := B.notSynchronized
  have hl := lv_entry ([.ref (ad 0)]) (n := 1) (Nat.le_of_ble_eq_true rfl)
  rw [lg_entry_eq]
  exact wCM_phase ⟨B.exec, B.bytes, hml, findClass_of_methodNamed B.named, fun w h => atoms_spec (ws := wsCM_phase) B.pre w (List.mem_cons_of_mem _ h)⟩ hK hP (fun v pc ls hv hd => W.iret (v := v) B.exec B.bytes hr (fun t ht hW => ⟨v, rfl, hv, ht⟩) (fun q hq => absurd hq List.not_mem_nil) hd) _ hl h
abbrev rm_CM_applied : Room := { frames := 0, cells := 0, slots := 0, locals := 0 }
def fCM_applied_b29 (k4 : Int32 → Int32 → Int32 → Option Int32) (σ : xSt) (x1 : Int32) (x2 : Int32) (x3 : Int32) : Option Int32 :=
  k4 x1 x2 (x3 + (1 : Int32))
set_option maxHeartbeats 4000000 in
set_option maxRecDepth 100000 in
theorem wCM_applied_b29 {p : Program} {l : Launch} {e : Env} {s : State} {m : MethodId} {args : Array Value} {below : List Frame} {meth : Method} {c : Code} {Q : State → Prop} {dC : Nat → ClassId} {dI : Nat → Nat → Nat} {ad : Nat → Nat} {cA : Nat → ClassId} {r : Int32} {H : Heap} {locs : List Loc} {σ : xSt} (C : CallFix p m c cCM_applied 4 s args wAll RCM) (hK : va_K (dC, dI) vwC (mT cA) s) (hP : va_P (dC, dI) vwC (mW ad cA σ) H) (hend : ∀ (v : Int32) (pc : Nat) (ls : Array Slot), v = r → decode cCM_applied pc = .ok (.ireturn, 1) → W p l e rm_CM_applied s m args below meth c H locs 0 0 Q (F0 m pc ls [.int v])) {k4 : Int32 → Int32 → Int32 → Option Int32} (hk4 : ∀ (x1 : Int32) (x2 : Int32) (x3 : Int32) (ls : Array Slot), lv_has ls 4 [(0, .ref (ad 0)), (1, .int (x1)), (2, .int (x2)), (3, .int (x3))] → k4 x1 x2 x3 = some r → W p l e rm_CM_applied s m args below meth c H locs 0 0 Q (F0 m 4 ls [])) :
    ∀ (x1 : Int32) (x2 : Int32) (x3 : Int32) (ls : Array Slot), lv_has ls 4 [(0, .ref (ad 0)), (1, .int (x1)), (2, .int (x2)), (3, .int (x3))] → fCM_applied_b29 k4 σ x1 x2 x3 = some r → W p l e rm_CM_applied s m args below meth c H locs 0 0 Q (F0 m 29 ls []) := by
  obtain ⟨hx, hb, hml, hown, hts⟩ := id C
  intro x1 x2 x3 ls hl h
  unfold fCM_applied_b29 at h
  refine lv_iinc (v := x3 + (1 : Int32)) (lv' := [(3, .int (x3 + (1 : Int32))), (0, .ref (ad 0)), (1, .int (x1)), (2, .int (x2))]) hx hb dCM_applied_29 hl (k := 3) rfl rfl (by decide) rfl (fun ls hl => ?_)
  refine lv_goto (tgt := 4) hx hb dCM_applied_32 (by decide) ?_
  exact hk4 _ _ _ _ (lv_sub hl [1, 2, 3, 0] rfl) h
def fCM_applied_b4 (σ : xSt) : Nat → Int32 → Int32 → Int32 → Option Int32
  | 0, _, _, _ => none
  | n + 1, x1, x2, x3 =>
    if (60 : Int32) ≤ x3 then
      some (-1 : Int32)
    else
      if x3 < 0 ∨ 60 ≤ x3.toNatClampNeg then none else
      if (σ.1 17 x3.toNatClampNeg) = 0 then
        fCM_applied_b29 (fCM_applied_b4 σ n) σ x1 x2 x3
      else
        if x2 = x1 then
          some x3
        else
          fCM_applied_b29 (fCM_applied_b4 σ n) σ x1 (x2 + (1 : Int32)) x3
set_option maxHeartbeats 4000000 in
set_option maxRecDepth 100000 in
theorem wCM_applied_b4 {p : Program} {l : Launch} {e : Env} {s : State} {m : MethodId} {args : Array Value} {below : List Frame} {meth : Method} {c : Code} {Q : State → Prop} {dC : Nat → ClassId} {dI : Nat → Nat → Nat} {ad : Nat → Nat} {cA : Nat → ClassId} {r : Int32} {H : Heap} {locs : List Loc} {σ : xSt} (C : CallFix p m c cCM_applied 4 s args wAll RCM) (hK : va_K (dC, dI) vwC (mT cA) s) (hP : va_P (dC, dI) vwC (mW ad cA σ) H) (hend : ∀ (v : Int32) (pc : Nat) (ls : Array Slot), v = r → decode cCM_applied pc = .ok (.ireturn, 1) → W p l e rm_CM_applied s m args below meth c H locs 0 0 Q (F0 m pc ls [.int v])) :
    ∀ (n : Nat) (x1 : Int32) (x2 : Int32) (x3 : Int32) (ls : Array Slot), lv_has ls 4 [(0, .ref (ad 0)), (1, .int (x1)), (2, .int (x2)), (3, .int (x3))] → fCM_applied_b4 σ n x1 x2 x3 = some r → W p l e rm_CM_applied s m args below meth c H locs 0 0 Q (F0 m 4 ls []) := by
  obtain ⟨hx, hb, hml, hown, hts⟩ := id C
  intro n
  induction n with
  | zero =>
    intro x1 x2 x3 ls hl h
    rw [fCM_applied_b4] at h
    cases h
  | succ n ih =>
    intro x1 x2 x3 ls hl h
    rw [fCM_applied_b4] at h
    refine lv_iload_n hx hb dCM_applied_4 rfl (lv_at hl 3 rfl) ?_
    refine lv_bipush (v := (60 : Int32)) hx hb dCM_applied_5 (by decide) ?_
    refine lv_icmp_ge (tgt := 35) hx hb dCM_applied_7 (by decide) (fun c4 => ?_) (fun c4 => ?_)
    · have h := (if_pos c4).symm.trans h
      refine lv_iconst (v := (-1 : Int32)) hx hb dCM_applied_35 (by decide) ?_
      exact hend _ _ _ (Option.some.inj h) dCM_applied_36
    · have h := (if_neg c4).symm.trans h
      refine lv_aload_n hx hb dCM_applied_10 rfl (lv_at hl 0 rfl) ?_
      refine va_get (D := (dC, dI)) (ci := 5) (v := .ref (ad 17)) (C := RCM) (T := TCM) (N := 23) hx hb hts inCM hown hK hP 0 rfl rfl 20 (by decide) (hts _ mw_449) (fun _ h9 => h9) rfl dCM_applied_11 ?_
      refine lv_iload_n hx hb dCM_applied_14 rfl (lv_at hl 3 rfl) ?_
      obtain ⟨b1, h⟩ := gx_nb h
      refine va_zald hx hb hK hP 17 16 rfl rfl b1 dCM_applied_15 ?_
      refine lv_if_eq (tgt := 29) hx hb dCM_applied_16 (by decide) (fun c3 => ?_) (fun c3 => ?_)
      · have h := (if_pos c3).symm.trans h
        exact wCM_applied_b29 C hK hP hend ih _ _ _ _ (lv_sub hl [0, 1, 2, 3] rfl) h
      · have h := (if_neg c3).symm.trans h
        refine lv_iload_n hx hb dCM_applied_19 rfl (lv_at hl 2 rfl) ?_
        refine lv_iload_n hx hb dCM_applied_20 rfl (lv_at hl 1 rfl) ?_
        refine lv_icmp_ne (tgt := 26) hx hb dCM_applied_21 (by decide) (fun c2 => ?_) (fun c2 => ?_)
        · have h := (if_neg c2).symm.trans h
          refine lv_iinc (v := x2 + (1 : Int32)) (lv' := [(2, .int (x2 + (1 : Int32))), (0, .ref (ad 0)), (1, .int (x1)), (3, .int (x3))]) hx hb dCM_applied_26 hl (k := 2) rfl rfl (by decide) rfl (fun ls hl => ?_)
          exact wCM_applied_b29 C hK hP hend ih _ _ _ _ (lv_sub hl [1, 2, 0, 3] rfl) h
        · have h := (if_pos c2).symm.trans h
          refine lv_iload_n hx hb dCM_applied_24 rfl (lv_at hl 3 rfl) ?_
          exact hend _ _ _ (Option.some.inj h) dCM_applied_25
def fCM_applied (σ : xSt) (x1 : Int32) : Option Int32 :=
  fCM_applied_b4 σ gF x1 (0 : Int32) (0 : Int32)
set_option maxHeartbeats 4000000 in
set_option maxRecDepth 100000 in
theorem wCM_applied {p : Program} {l : Launch} {e : Env} {s : State} {m : MethodId} {args : Array Value} {below : List Frame} {meth : Method} {c : Code} {Q : State → Prop} {dC : Nat → ClassId} {dI : Nat → Nat → Nat} {ad : Nat → Nat} {cA : Nat → ClassId} {r : Int32} {H : Heap} {locs : List Loc} {σ : xSt} (C : CallFix p m c cCM_applied 4 s args wAll RCM) (hK : va_K (dC, dI) vwC (mT cA) s) (hP : va_P (dC, dI) vwC (mW ad cA σ) H) (hend : ∀ (v : Int32) (pc : Nat) (ls : Array Slot), v = r → decode cCM_applied pc = .ok (.ireturn, 1) → W p l e rm_CM_applied s m args below meth c H locs 0 0 Q (F0 m pc ls [.int v])) {x1 : Int32} (ls : Array Slot) (hl : lv_has ls 4 [(0, .ref (ad 0)), (1, .int (x1))]) (h : fCM_applied σ x1 = some r) : W p l e rm_CM_applied s m args below meth c H locs 0 0 Q (F0 m 0 ls []) := by
  obtain ⟨hx, hb, hml, hown, hts⟩ := id C
  unfold fCM_applied at h
  refine lv_iconst (v := (0 : Int32)) hx hb dCM_applied_0 (by decide) ?_
  refine lv_istore_n (lv' := [(2, .int ((0 : Int32))), (0, .ref (ad 0)), (1, .int (x1))]) hx hb dCM_applied_1 rfl hl (by decide) rfl (fun ls hl => ?_)
  refine lv_iconst (v := (0 : Int32)) hx hb dCM_applied_2 (by decide) ?_
  refine lv_istore_n (lv' := [(3, .int ((0 : Int32))), (2, .int ((0 : Int32))), (0, .ref (ad 0)), (1, .int (x1))]) hx hb dCM_applied_3 rfl hl (by decide) rfl (fun ls hl => ?_)
  exact wCM_applied_b4 C hK hP hend _ _ _ _ _ (lv_sub hl [2, 3, 1, 0] rfl) h
set_option maxHeartbeats 4000000 in
set_option maxRecDepth 100000 in
theorem kCM_applied (l : Launch) (dC : Nat → ClassId) (dI : Nat → Nat → Nat) (ad : Nat → Nat) (cA : Nat → ClassId) (σ : xSt) (x1 : Int32) (r : Int32) (h : fCM_applied σ x1 = some r) : Met l yCM_applied wsCM_applied rm_CM_applied (va_Pc [.ref (ad 0), .int (x1)] (fun U => va_P (dC, dI) vwC (mW ad cA σ) U.heap ∧ va_K (dC, dI) vwC (mT cA) U)) (vp_Si (fun v => v = r)) 0 0 (fun _ => False) := by
  refine Met.ofW (cc := cCM_applied) (maxL := 4) (ret := (some .int)) (by decide) rfl ?_
  intro p e s m args below meth c s₁ B hml hv
  obtain ⟨rfl, hP, hK⟩ := hv
  have hr := B.returns
  have hlocks := B.notSynchronized
  have hl := lv_entry ([.ref (ad 0), .int (x1)]) (n := 4) (Nat.le_of_ble_eq_true rfl)
  rw [lg_entry_eq]
  exact wCM_applied ⟨B.exec, B.bytes, hml, findClass_of_methodNamed B.named, fun w h => atoms_spec (ws := wsCM_applied) B.pre w (List.mem_cons_of_mem _ h)⟩ hK hP (fun v pc ls hv hd => W.iret (v := v) B.exec B.bytes hr (fun t ht hW => ⟨v, rfl, hv, ht⟩) (fun q hq => absurd hq List.not_mem_nil) hd) _ hl h
abbrev rm_CM_special : Room := { frames := 0, cells := 0, slots := 0, locals := 0 }
def fCM_special_b43 (σ : xSt) (x1 : Int32) (x2 : Int32) (s0 : Int32) : Option Int32 :=
  if s0 = 0 then
    some (-1 : Int32)
  else
    if (((60 : Int32) * x1) + x2) < 0 ∨ 3600 ≤ (((60 : Int32) * x1) + x2).toNatClampNeg then none else
    if (σ.1 18 (((60 : Int32) * x1) + x2).toNatClampNeg) = 0 then
      some (0 : Int32)
    else
      some (1 : Int32)
set_option maxHeartbeats 4000000 in
set_option maxRecDepth 100000 in
theorem wCM_special_b43 {p : Program} {l : Launch} {e : Env} {s : State} {m : MethodId} {args : Array Value} {below : List Frame} {meth : Method} {c : Code} {Q : State → Prop} {dC : Nat → ClassId} {dI : Nat → Nat → Nat} {ad : Nat → Nat} {cA : Nat → ClassId} {r : Int32} {H : Heap} {locs : List Loc} {σ : xSt} (C : CallFix p m c cCM_special 4 s args wAll RCM) (hK : va_K (dC, dI) vwC (mT cA) s) (hP : va_P (dC, dI) vwC (mW ad cA σ) H) (hend : ∀ (v : Int32) (pc : Nat) (ls : Array Slot), v = r → decode cCM_special pc = .ok (.ireturn, 1) → W p l e rm_CM_special s m args below meth c H locs 0 0 Q (F0 m pc ls [.int v])) :
    ∀ (x1 : Int32) (x2 : Int32) (s0 : Int32) (ls : Array Slot), lv_has ls 4 [(0, .ref (ad 0)), (1, .int (x1)), (2, .int (x2))] → fCM_special_b43 σ x1 x2 s0 = some r → W p l e rm_CM_special s m args below meth c H locs 0 0 Q (F0 m 43 ls [.int (s0)]) := by
  obtain ⟨hx, hb, hml, hown, hts⟩ := id C
  intro x1 x2 s0 ls hl h
  unfold fCM_special_b43 at h
  refine lv_istore_n (lv' := [(3, .int (s0)), (0, .ref (ad 0)), (1, .int (x1)), (2, .int (x2))]) hx hb dCM_special_43 rfl hl (by decide) rfl (fun ls hl => ?_)
  refine lv_iload_n hx hb dCM_special_44 rfl (lv_at hl 0 rfl) ?_
  refine lv_if_ne (tgt := 52) hx hb dCM_special_45 (by decide) (fun c3 => ?_) (fun c3 => ?_)
  · have h := (if_neg c3).symm.trans h
    refine lv_aload_n hx hb dCM_special_52 rfl (lv_at hl 1 rfl) ?_
    refine va_get (D := (dC, dI)) (ci := 5) (v := .ref (ad 18)) (C := RCM) (T := TCM) (N := 23) hx hb hts inCM hown hK hP 0 rfl rfl 21 (by decide) (hts _ mw_450) (fun _ h9 => h9) rfl dCM_special_53 ?_
    refine lv_bipush (v := (60 : Int32)) hx hb dCM_special_56 (by decide) ?_
    refine lv_iload_n hx hb dCM_special_58 rfl (lv_at hl 2 rfl) ?_
    refine lv_imul hx hb dCM_special_59 ?_
    refine lv_iload_n hx hb dCM_special_60 rfl (lv_at hl 3 rfl) ?_
    refine lv_iadd hx hb dCM_special_61 ?_
    obtain ⟨b1, h⟩ := gx_nb h
    refine va_zald hx hb hK hP 18 17 rfl rfl b1 dCM_special_62 ?_
    refine lv_if_eq (tgt := 70) hx hb dCM_special_63 (by decide) (fun c2 => ?_) (fun c2 => ?_)
    · have h := (if_pos c2).symm.trans h
      refine lv_iconst (v := (0 : Int32)) hx hb dCM_special_70 (by decide) ?_
      exact hend _ _ _ (Option.some.inj h) dCM_special_71
    · have h := (if_neg c2).symm.trans h
      refine lv_iconst (v := (1 : Int32)) hx hb dCM_special_66 (by decide) ?_
      refine lv_goto (tgt := 71) hx hb dCM_special_67 (by decide) ?_
      exact hend _ _ _ (Option.some.inj h) dCM_special_71
  · have h := (if_pos c3).symm.trans h
    refine lv_iconst (v := (-1 : Int32)) hx hb dCM_special_48 (by decide) ?_
    refine lv_goto (tgt := 71) hx hb dCM_special_49 (by decide) ?_
    exact hend _ _ _ (Option.some.inj h) dCM_special_71
def fCM_special_b42 (σ : xSt) (x1 : Int32) (x2 : Int32) : Option Int32 :=
  fCM_special_b43 σ x1 x2 (0 : Int32)
set_option maxHeartbeats 4000000 in
set_option maxRecDepth 100000 in
theorem wCM_special_b42 {p : Program} {l : Launch} {e : Env} {s : State} {m : MethodId} {args : Array Value} {below : List Frame} {meth : Method} {c : Code} {Q : State → Prop} {dC : Nat → ClassId} {dI : Nat → Nat → Nat} {ad : Nat → Nat} {cA : Nat → ClassId} {r : Int32} {H : Heap} {locs : List Loc} {σ : xSt} (C : CallFix p m c cCM_special 4 s args wAll RCM) (hK : va_K (dC, dI) vwC (mT cA) s) (hP : va_P (dC, dI) vwC (mW ad cA σ) H) (hend : ∀ (v : Int32) (pc : Nat) (ls : Array Slot), v = r → decode cCM_special pc = .ok (.ireturn, 1) → W p l e rm_CM_special s m args below meth c H locs 0 0 Q (F0 m pc ls [.int v])) :
    ∀ (x1 : Int32) (x2 : Int32) (ls : Array Slot), lv_has ls 4 [(0, .ref (ad 0)), (1, .int (x1)), (2, .int (x2))] → fCM_special_b42 σ x1 x2 = some r → W p l e rm_CM_special s m args below meth c H locs 0 0 Q (F0 m 42 ls []) := by
  obtain ⟨hx, hb, hml, hown, hts⟩ := id C
  intro x1 x2 ls hl h
  unfold fCM_special_b42 at h
  refine lv_iconst (v := (0 : Int32)) hx hb dCM_special_42 (by decide) ?_
  exact wCM_special_b43 C hK hP hend _ _ _ _ (lv_sub hl [0, 1, 2] rfl) h
def fCM_special (σ : xSt) (x1 : Int32) (x2 : Int32) : Option Int32 :=
  if x1 < 0 then
    fCM_special_b42 σ x1 x2
  else
    if (60 : Int32) ≤ x1 then
      fCM_special_b42 σ x1 x2
    else
      if x2 < 0 then
        fCM_special_b42 σ x1 x2
      else
        if (60 : Int32) ≤ x2 then
          fCM_special_b42 σ x1 x2
        else
          if x1 < 0 ∨ 60 ≤ x1.toNatClampNeg then none else
          if (σ.1 17 x1.toNatClampNeg) = 0 then
            fCM_special_b42 σ x1 x2
          else
            if x2 < 0 ∨ 60 ≤ x2.toNatClampNeg then none else
            if (σ.1 17 x2.toNatClampNeg) = 0 then
              fCM_special_b42 σ x1 x2
            else
              fCM_special_b43 σ x1 x2 (1 : Int32)
set_option maxHeartbeats 4000000 in
set_option maxRecDepth 100000 in
theorem wCM_special {p : Program} {l : Launch} {e : Env} {s : State} {m : MethodId} {args : Array Value} {below : List Frame} {meth : Method} {c : Code} {Q : State → Prop} {dC : Nat → ClassId} {dI : Nat → Nat → Nat} {ad : Nat → Nat} {cA : Nat → ClassId} {r : Int32} {H : Heap} {locs : List Loc} {σ : xSt} (C : CallFix p m c cCM_special 4 s args wAll RCM) (hK : va_K (dC, dI) vwC (mT cA) s) (hP : va_P (dC, dI) vwC (mW ad cA σ) H) (hend : ∀ (v : Int32) (pc : Nat) (ls : Array Slot), v = r → decode cCM_special pc = .ok (.ireturn, 1) → W p l e rm_CM_special s m args below meth c H locs 0 0 Q (F0 m pc ls [.int v])) {x1 : Int32} {x2 : Int32} (ls : Array Slot) (hl : lv_has ls 4 [(0, .ref (ad 0)), (1, .int (x1)), (2, .int (x2))]) (h : fCM_special σ x1 x2 = some r) : W p l e rm_CM_special s m args below meth c H locs 0 0 Q (F0 m 0 ls []) := by
  obtain ⟨hx, hb, hml, hown, hts⟩ := id C
  unfold fCM_special at h
  refine lv_iload_n hx hb dCM_special_0 rfl (lv_at hl 1 rfl) ?_
  refine lv_if_lt (tgt := 42) hx hb dCM_special_1 (by decide) (fun c11 => ?_) (fun c11 => ?_)
  · have h := (if_pos c11).symm.trans h
    exact wCM_special_b42 C hK hP hend _ _ _ (lv_sub hl [0, 1, 2] rfl) h
  · have h := (if_neg c11).symm.trans h
    refine lv_iload_n hx hb dCM_special_4 rfl (lv_at hl 1 rfl) ?_
    refine lv_bipush (v := (60 : Int32)) hx hb dCM_special_5 (by decide) ?_
    refine lv_icmp_ge (tgt := 42) hx hb dCM_special_7 (by decide) (fun c10 => ?_) (fun c10 => ?_)
    · have h := (if_pos c10).symm.trans h
      exact wCM_special_b42 C hK hP hend _ _ _ (lv_sub hl [0, 1, 2] rfl) h
    · have h := (if_neg c10).symm.trans h
      refine lv_iload_n hx hb dCM_special_10 rfl (lv_at hl 2 rfl) ?_
      refine lv_if_lt (tgt := 42) hx hb dCM_special_11 (by decide) (fun c9 => ?_) (fun c9 => ?_)
      · have h := (if_pos c9).symm.trans h
        exact wCM_special_b42 C hK hP hend _ _ _ (lv_sub hl [0, 1, 2] rfl) h
      · have h := (if_neg c9).symm.trans h
        refine lv_iload_n hx hb dCM_special_14 rfl (lv_at hl 2 rfl) ?_
        refine lv_bipush (v := (60 : Int32)) hx hb dCM_special_15 (by decide) ?_
        refine lv_icmp_ge (tgt := 42) hx hb dCM_special_17 (by decide) (fun c8 => ?_) (fun c8 => ?_)
        · have h := (if_pos c8).symm.trans h
          exact wCM_special_b42 C hK hP hend _ _ _ (lv_sub hl [0, 1, 2] rfl) h
        · have h := (if_neg c8).symm.trans h
          refine lv_aload_n hx hb dCM_special_20 rfl (lv_at hl 0 rfl) ?_
          refine va_get (D := (dC, dI)) (ci := 5) (v := .ref (ad 17)) (C := RCM) (T := TCM) (N := 23) hx hb hts inCM hown hK hP 0 rfl rfl 20 (by decide) (hts _ mw_449) (fun _ h9 => h9) rfl dCM_special_21 ?_
          refine lv_iload_n hx hb dCM_special_24 rfl (lv_at hl 1 rfl) ?_
          obtain ⟨b4, h⟩ := gx_nb h
          refine va_zald hx hb hK hP 17 16 rfl rfl b4 dCM_special_25 ?_
          refine lv_if_eq (tgt := 42) hx hb dCM_special_26 (by decide) (fun c7 => ?_) (fun c7 => ?_)
          · have h := (if_pos c7).symm.trans h
            exact wCM_special_b42 C hK hP hend _ _ _ (lv_sub hl [0, 1, 2] rfl) h
          · have h := (if_neg c7).symm.trans h
            refine lv_aload_n hx hb dCM_special_29 rfl (lv_at hl 0 rfl) ?_
            refine va_get (D := (dC, dI)) (ci := 5) (v := .ref (ad 17)) (C := RCM) (T := TCM) (N := 23) hx hb hts inCM hown hK hP 0 rfl rfl 20 (by decide) (hts _ mw_449) (fun _ h9 => h9) rfl dCM_special_30 ?_
            refine lv_iload_n hx hb dCM_special_33 rfl (lv_at hl 2 rfl) ?_
            obtain ⟨b5, h⟩ := gx_nb h
            refine va_zald hx hb hK hP 17 16 rfl rfl b5 dCM_special_34 ?_
            refine lv_if_eq (tgt := 42) hx hb dCM_special_35 (by decide) (fun c6 => ?_) (fun c6 => ?_)
            · have h := (if_pos c6).symm.trans h
              exact wCM_special_b42 C hK hP hend _ _ _ (lv_sub hl [0, 1, 2] rfl) h
            · have h := (if_neg c6).symm.trans h
              refine lv_iconst (v := (1 : Int32)) hx hb dCM_special_38 (by decide) ?_
              refine lv_goto (tgt := 43) hx hb dCM_special_39 (by decide) ?_
              exact wCM_special_b43 C hK hP hend _ _ _ _ (lv_sub hl [0, 1, 2] rfl) h
set_option maxHeartbeats 4000000 in
set_option maxRecDepth 100000 in
theorem kCM_special (l : Launch) (dC : Nat → ClassId) (dI : Nat → Nat → Nat) (ad : Nat → Nat) (cA : Nat → ClassId) (σ : xSt) (x1 : Int32) (x2 : Int32) (r : Int32) (h : fCM_special σ x1 x2 = some r) : Met l yCM_special wsCM_special rm_CM_special (va_Pc [.ref (ad 0), .int (x1), .int (x2)] (fun U => va_P (dC, dI) vwC (mW ad cA σ) U.heap ∧ va_K (dC, dI) vwC (mT cA) U)) (vp_Si (fun v => v = r)) 0 0 (fun _ => False) := by
  refine Met.ofW (cc := cCM_special) (maxL := 4) (ret := (some .int)) (by decide) rfl ?_
  intro p e s m args below meth c s₁ B hml hv
  obtain ⟨rfl, hP, hK⟩ := hv
  have hr := B.returns
  have hlocks := B.notSynchronized
  have hl := lv_entry ([.ref (ad 0), .int (x1), .int (x2)]) (n := 4) (Nat.le_of_ble_eq_true rfl)
  rw [lg_entry_eq]
  exact wCM_special ⟨B.exec, B.bytes, hml, findClass_of_methodNamed B.named, fun w h => atoms_spec (ws := wsCM_special) B.pre w (List.mem_cons_of_mem _ h)⟩ hK hP (fun v pc ls hv hd => W.iret (v := v) B.exec B.bytes hr (fun t ht hW => ⟨v, rfl, hv, ht⟩) (fun q hq => absurd hq List.not_mem_nil) hd) _ hl h
abbrev rm_CM_count : Room := { frames := 0, cells := 0, slots := 0, locals := 0 }
def fCM_count (σ : xSt) (x1 : Int32) : Option Int32 :=
  if x1 = 0 then
    some (σ.1 0 0)
  else
    if x1 = (1 : Int32) then
      some (σ.1 0 6)
    else
      if x1 = (2 : Int32) then
        some (σ.1 0 13)
      else
        some (-2 : Int32)
set_option maxHeartbeats 4000000 in
set_option maxRecDepth 100000 in
theorem wCM_count {p : Program} {l : Launch} {e : Env} {s : State} {m : MethodId} {args : Array Value} {below : List Frame} {meth : Method} {c : Code} {Q : State → Prop} {dC : Nat → ClassId} {dI : Nat → Nat → Nat} {ad : Nat → Nat} {cA : Nat → ClassId} {r : Int32} {H : Heap} {locs : List Loc} {σ : xSt} (C : CallFix p m c cCM_count 2 s args wAll RCM) (hK : va_K (dC, dI) vwC (mT cA) s) (hP : va_P (dC, dI) vwC (mW ad cA σ) H) (hend : ∀ (v : Int32) (pc : Nat) (ls : Array Slot), v = r → decode cCM_count pc = .ok (.ireturn, 1) → W p l e rm_CM_count s m args below meth c H locs 0 0 Q (F0 m pc ls [.int v])) {x1 : Int32} (ls : Array Slot) (hl : lv_has ls 2 [(0, .ref (ad 0)), (1, .int (x1))]) (h : fCM_count σ x1 = some r) : W p l e rm_CM_count s m args below meth c H locs 0 0 Q (F0 m 0 ls []) := by
  obtain ⟨hx, hb, hml, hown, hts⟩ := id C
  unfold fCM_count at h
  refine lv_iload_n hx hb dCM_count_0 rfl (lv_at hl 1 rfl) ?_
  refine lv_if_ne (tgt := 11) hx hb dCM_count_1 (by decide) (fun c3 => ?_) (fun c3 => ?_)
  · have h := (if_neg c3).symm.trans h
    refine lv_iload_n hx hb dCM_count_11 rfl (lv_at hl 1 rfl) ?_
    refine lv_iconst (v := (1 : Int32)) hx hb dCM_count_12 (by decide) ?_
    refine lv_icmp_ne (tgt := 23) hx hb dCM_count_13 (by decide) (fun c2 => ?_) (fun c2 => ?_)
    · have h := (if_neg c2).symm.trans h
      refine lv_iload_n hx hb dCM_count_23 rfl (lv_at hl 1 rfl) ?_
      refine lv_iconst (v := (2 : Int32)) hx hb dCM_count_24 (by decide) ?_
      refine lv_icmp_ne (tgt := 35) hx hb dCM_count_25 (by decide) (fun c1 => ?_) (fun c1 => ?_)
      · have h := (if_neg c1).symm.trans h
        refine lv_bipush (v := (-2 : Int32)) hx hb dCM_count_35 (by decide) ?_
        exact hend _ _ _ (Option.some.inj h) dCM_count_37
      · have h := (if_pos c1).symm.trans h
        refine lv_aload_n hx hb dCM_count_28 rfl (lv_at hl 0 rfl) ?_
        refine va_get (D := (dC, dI)) (ci := 5) (v := .int (σ.1 0 13)) (C := RCM) (T := TCM) (N := 23) hx hb hts inCM hown hK hP 0 rfl rfl 13 (by decide) (hts _ mw_442) (fun _ h9 => h9) rfl dCM_count_29 ?_
        refine lv_goto (tgt := 37) hx hb dCM_count_32 (by decide) ?_
        exact hend _ _ _ (Option.some.inj h) dCM_count_37
    · have h := (if_pos c2).symm.trans h
      refine lv_aload_n hx hb dCM_count_16 rfl (lv_at hl 0 rfl) ?_
      refine va_get (D := (dC, dI)) (ci := 5) (v := .int (σ.1 0 6)) (C := RCM) (T := TCM) (N := 23) hx hb hts inCM hown hK hP 0 rfl rfl 6 (by decide) (hts _ mw_401) (fun _ h9 => h9) rfl dCM_count_17 ?_
      refine lv_goto (tgt := 37) hx hb dCM_count_20 (by decide) ?_
      exact hend _ _ _ (Option.some.inj h) dCM_count_37
  · have h := (if_pos c3).symm.trans h
    refine lv_aload_n hx hb dCM_count_4 rfl (lv_at hl 0 rfl) ?_
    refine va_get (D := (dC, dI)) (ci := 5) (v := .int (σ.1 0 0)) (C := RCM) (T := TCM) (N := 23) hx hb hts inCM hown hK hP 0 rfl rfl 0 (by decide) (hts _ mw_355) (fun _ h9 => h9) rfl dCM_count_5 ?_
    refine lv_goto (tgt := 37) hx hb dCM_count_8 (by decide) ?_
    exact hend _ _ _ (Option.some.inj h) dCM_count_37
set_option maxHeartbeats 4000000 in
set_option maxRecDepth 100000 in
theorem kCM_count (l : Launch) (dC : Nat → ClassId) (dI : Nat → Nat → Nat) (ad : Nat → Nat) (cA : Nat → ClassId) (σ : xSt) (x1 : Int32) (r : Int32) (h : fCM_count σ x1 = some r) : Met l yCM_count wsCM_count rm_CM_count (va_Pc [.ref (ad 0), .int (x1)] (fun U => va_P (dC, dI) vwC (mW ad cA σ) U.heap ∧ va_K (dC, dI) vwC (mT cA) U)) (vp_Si (fun v => v = r)) 0 0 (fun _ => False) := by
  refine Met.ofW (cc := cCM_count) (maxL := 2) (ret := (some .int)) (by decide) rfl ?_
  intro p e s m args below meth c s₁ B hml hv
  obtain ⟨rfl, hP, hK⟩ := hv
  have hr := B.returns
  have hlocks := B.notSynchronized
  have hl := lv_entry ([.ref (ad 0), .int (x1)]) (n := 2) (Nat.le_of_ble_eq_true rfl)
  rw [lg_entry_eq]
  exact wCM_count ⟨B.exec, B.bytes, hml, findClass_of_methodNamed B.named, fun w h => atoms_spec (ws := wsCM_count) B.pre w (List.mem_cons_of_mem _ h)⟩ hK hP (fun v pc ls hv hd => W.iret (v := v) B.exec B.bytes hr (fun t ht hW => ⟨v, rfl, hv, ht⟩) (fun q hq => absurd hq List.not_mem_nil) hd) _ hl h
