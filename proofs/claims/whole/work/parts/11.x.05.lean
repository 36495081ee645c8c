abbrev rm_C3_clear : Room := { frames := 0, cells := 0, slots := 0, locals := 0 }
def fC3_clear (σ : xSt) : Option (Int32 × xSt) :=
  nm (σ.1 3 5) fun y1 =>
  nm (sI σ 3 5 (0 : Int32)) fun σ2 =>
  some (y1, σ2)
set_option maxHeartbeats 4000000 in
set_option maxRecDepth 100000 in
theorem wC3_clear {p : Program} {l : Launch} {e : Env} {s : State} {m : MethodId} {args : Array Value} {below : List Frame} {meth : Method} {c : Code} {Q : State → Prop} {dC : Nat → ClassId} {dI : Nat → Nat → Nat} {ad : Nat → Nat} {cA : Nat → ClassId} {r : (Int32 × xSt)} (C : CallFix p m c cC3_clear 2 s args wAll RC3) (hK : va_K (dC, dI) vwC (xT cA) s) (hend : ∀ (v : Int32) (σ : xSt) (H : Heap) (locs : List Loc) (pc : Nat) (ls : Array Slot), (v, σ) = r → va_P (dC, dI) vwC (xW ad cA σ) H → va_S (xA ad) s.heap H locs → decode cC3_clear pc = .ok (.ireturn, 1) → W p l e rm_C3_clear s m args below meth c H locs 0 0 Q (F0 m pc ls [.int v])) {H : Heap} {locs : List Loc} {σ : xSt} (hP : va_P (dC, dI) vwC (xW ad cA σ) H) (hD : va_D (xA ad) (xW ad cA σ)) (hS : va_S (xA ad) s.heap H locs) (ls : Array Slot) (hl : lv_has ls 2 [(0, .ref (ad 3))]) (h : fC3_clear σ = some r) : W p l e rm_C3_clear s m args below meth c H locs 0 0 Q (F0 m 0 ls []) := by
  obtain ⟨hx, hb, hml, hown, hts⟩ := id C
  unfold fC3_clear at h
  refine lv_aload_n hx hb dC3_clear_0 rfl (lv_at hl 0 rfl) ?_
  refine va_get (D := (dC, dI)) (ci := 3) (v := .int (σ.1 3 5)) (C := RC3) (T := TC3) (N := 6) hx hb hts inC3 hown hK hP 3 rfl rfl 5 (by decide) (hts _ mw_176) (fun _ h9 => h9) rfl dC3_clear_1 ?_
  refine lv_topi (fun y1 ey1 => ?_)
  have h := nm_at ey1 h
  refine lv_istore_n (lv' := [(1, .int (y1)), (0, .ref (ad 3))]) hx hb dC3_clear_4 rfl hl (by decide) rfl (fun ls hl => ?_)
  refine lv_aload_n hx hb dC3_clear_5 rfl (lv_at hl 1 rfl) ?_
  refine lv_iconst (v := (0 : Int32)) hx hb dC3_clear_6 (by decide) ?_
  refine va_put (D := (dC, dI)) (ci := 3) (v := .int ((0 : Int32))) (ty := .int) (C := RC3) (T := TC3) (N := 6) hx hb hts inC3 tyC3 tyC3_ok nnC3 hown hK hP hD hS 3 rfl rfl 5 (by decide) (hts _ mw_176) (fun _ h9 => h9) rfl (by decide +kernel) rfl rfl (Nat.le_of_ble_eq_true rfl) dC3_clear_7 (fun H locs hP hD hS => ?_)
  obtain ⟨σ2, eσ2⟩ : ∃ z, z = sI σ 3 5 (0 : Int32) := ⟨_, rfl⟩
  have hP : va_P (dC, dI) vwC (xW ad cA σ2) H := by rw [eσ2]; exact hP
  have hD : va_D (xA ad) (xW ad cA σ2) := by rw [eσ2]; exact hD
  have h := nm_at eσ2 h
  refine lv_iload_n hx hb dC3_clear_10 rfl (lv_at hl 0 rfl) ?_
  exact hend _ _ _ _ _ _ (Option.some.inj h) hP hS dC3_clear_11
set_option maxHeartbeats 4000000 in
set_option maxRecDepth 100000 in
theorem kC3_clear (l : Launch) (dC : Nat → ClassId) (dI : Nat → Nat → Nat) (ad : Nat → Nat) (cA : Nat → ClassId) (σ : xSt) (r : (Int32 × xSt)) (h : fC3_clear σ = some r) : Met l yC3_clear wsC3_clear rm_C3_clear (va_Pc [.ref (ad 3)] (fun U => va_P (dC, dI) vwC (xW ad cA σ) U.heap ∧ va_K (dC, dI) vwC (xT cA) U ∧ va_D (xA ad) (xW ad cA σ))) (va_Qi (fun (v : Int32) (u : xSt) => (v, u) = r) (fun u t => va_P (dC, dI) vwC (xW ad cA u) t.heap) (xA ad)) 0 0 (xA ad) := by
  refine Met.ofW (cc := cC3_clear) (maxL := 2) (ret := (some .int)) (by decide) rfl ?_
  intro p e s m args below meth c s₁ B hml hv
  obtain ⟨rfl, hP, hK, hD⟩ := hv
  have hr := B.returns
  have hlocks := B.notSynchronized
  have hl := lv_entry ([.ref (ad 3)]) (n := 2) (Nat.le_of_ble_eq_true rfl)
  rw [lg_entry_eq]
  exact wC3_clear ⟨B.exec, B.bytes, hml, findClass_of_methodNamed B.named, fun w h => atoms_spec (ws := wsC3_clear) B.pre w (List.mem_cons_of_mem _ h)⟩ hK (fun v σ H locs pc ls hv hP hS hd => W.iret (v := v) B.exec B.bytes hr (fun t ht hW => ⟨⟨v, σ, rfl, hv, by show va_P _ _ _ t.heap; rw [ht]; exact hP⟩, hS.F ht⟩) hS.2.2 hd) hP hD va_S.rf _ hl h
abbrev rm_C0_wipe : Room := { frames := 1, cells := 0, slots := 0, locals := 21 }
def fC0_wipe (σ : xSt) : Option (Int32 × xSt) :=
  gx_b2 (fC3_clear σ) fun v1 σ2 =>
  some (v1, σ2)
set_option maxHeartbeats 4000000 in
set_option maxRecDepth 100000 in
theorem wC0_wipe {p : Program} {l : Launch} {e : Env} {s : State} {m : MethodId} {args : Array Value} {below : List Frame} {meth : Method} {c : Code} {Q : State → Prop} {dC : Nat → ClassId} {dI : Nat → Nat → Nat} {ad : Nat → Nat} {cA : Nat → ClassId} {r : (Int32 × xSt)} (C : CallFix p m c cC0_wipe 1 s args wAll RC0) (hK : va_K (dC, dI) vwC (xT cA) s) (hend : ∀ (v : Int32) (σ : xSt) (H : Heap) (locs : List Loc) (pc : Nat) (ls : Array Slot), (v, σ) = r → va_P (dC, dI) vwC (xW ad cA σ) H → va_S (xA ad) s.heap H locs → decode cC0_wipe pc = .ok (.ireturn, 1) → W p l e rm_C0_wipe s m args below meth c H locs 0 0 Q (F0 m pc ls [.int v])) {H : Heap} {locs : List Loc} {σ : xSt} (hP : va_P (dC, dI) vwC (xW ad cA σ) H) (hD : va_D (xA ad) (xW ad cA σ)) (hS : va_S (xA ad) s.heap H locs) (ls : Array Slot) (hl : lv_has ls 1 [(0, .ref (ad 0))]) (h : fC0_wipe σ = some r) : W p l e rm_C0_wipe s m args below meth c H locs 0 0 Q (F0 m 0 ls []) := by
  obtain ⟨hx, hb, hml, hown, hts⟩ := id C
  unfold fC0_wipe at h
  refine lv_aload_n hx hb dC0_wipe_0 rfl (lv_at hl 0 rfl) ?_
  refine va_get (D := (dC, dI)) (ci := 0) (v := .ref (ad 3)) (C := RC0) (T := TC0) (N := 5) hx hb hts inC0 hown hK hP 0 rfl rfl 2 (by decide) (hts _ mw_175) (fun _ h9 => h9) rfl dC0_wipe_1 ?_
  obtain ⟨v1, σ2, ez3, h⟩ := gx_b2_at h
  refine gcall_i (wd := xW ad cA) (b := ad 3) (As := []) (rest := []) xkeys C hK hP hD hS (ci := 3) (q0 := 3) rfl rfl (kC3_clear l dC dI ad cA σ (v1, σ2) ez3) (cwV 0 hts (gw mw_193 mw_194 mw_195 mw_184 mw_196) rfl rfl rfl hdC3_clear ⟨Nat.le_of_ble_eq_true rfl, Nat.le_of_ble_eq_true rfl⟩) rfl hl.1 rfl (Nat.le_of_ble_eq_true rfl) dC0_wipe_4 ⟨Nat.le_refl _, Nat.le_refl _⟩ (fun H locs hP hD hS => ?_)
  exact hend _ _ _ _ _ _ (Option.some.inj h) hP hS dC0_wipe_7
set_option maxHeartbeats 4000000 in
set_option maxRecDepth 100000 in
theorem kC0_wipe (l : Launch) (dC : Nat → ClassId) (dI : Nat → Nat → Nat) (ad : Nat → Nat) (cA : Nat → ClassId) (σ : xSt) (r : (Int32 × xSt)) (h : fC0_wipe σ = some r) : Met l yC0_wipe wsC0_wipe rm_C0_wipe (va_Pc [.ref (ad 0)] (fun U => va_P (dC, dI) vwC (xW ad cA σ) U.heap ∧ va_K (dC, dI) vwC (xT cA) U ∧ va_D (xA ad) (xW ad cA σ))) (va_Qi (fun (v : Int32) (u : xSt) => (v, u) = r) (fun u t => va_P (dC, dI) vwC (xW ad cA u) t.heap) (xA ad)) 0 0 (xA ad) := by
  refine Met.ofW (cc := cC0_wipe) (maxL := 1) (ret := (some .int)) (by decide) rfl ?_
  intro p e s m args below meth c s₁ B hml hv
  obtain ⟨rfl, hP, hK, hD⟩ := hv
  have hr := B.returns
  have hlocks := B.notSynchronized
  have hl := lv_entry ([.ref (ad 0)]) (n := 1) (Nat.le_of_ble_eq_true rfl)
  rw [lg_entry_eq]
  exact wC0_wipe ⟨B.exec, B.bytes, hml, findClass_of_methodNamed B.named, fun w h => atoms_spec (ws := wsC0_wipe) B.pre w (List.mem_cons_of_mem _ h)⟩ hK (fun v σ H locs pc ls hv hP hS hd => W.iret (v := v) B.exec B.bytes hr (fun t ht hW => ⟨⟨v, σ, rfl, hv, by show va_P _ _ _ t.heap; rw [ht]; exact hP⟩, hS.F ht⟩) hS.2.2 hd) hP hD va_S.rf _ hl h
abbrev rm_C4_forget : Room := { frames := 0, cells := 0, slots := 0, locals := 0 }
def fC4_forget (σ : xSt) : Option xSt :=
  nm (sI σ 4 9 (0 : Int32)) fun σ1 =>
  nm (sI σ1 4 7 (0 : Int32)) fun σ2 =>
  nm (sL σ2 4 8 (0 : Int64)) fun σ3 =>
  some σ3
set_option maxHeartbeats 4000000 in
set_option maxRecDepth 100000 in
theorem wC4_forget {p : Program} {l : Launch} {e : Env} {s : State} {m : MethodId} {args : Array Value} {below : List Frame} {meth : Method} {c : Code} {Q : State → Prop} {dC : Nat → ClassId} {dI : Nat → Nat → Nat} {ad : Nat → Nat} {cA : Nat → ClassId} {r : xSt} (C : CallFix p m c cC4_forget 1 s args wAll RC4) (hK : va_K (dC, dI) vwC (xT cA) s) (hend : ∀ (σ : xSt) (H : Heap) (locs : List Loc) (pc : Nat) (ls : Array Slot), σ = r → va_P (dC, dI) vwC (xW ad cA σ) H → va_S (xA ad) s.heap H locs → decode cC4_forget pc = .ok (.return_, 1) → W p l e rm_C4_forget s m args below meth c H locs 0 0 Q (F0 m pc ls [])) {H : Heap} {locs : List Loc} {σ : xSt} (hP : va_P (dC, dI) vwC (xW ad cA σ) H) (hD : va_D (xA ad) (xW ad cA σ)) (hS : va_S (xA ad) s.heap H locs) (ls : Array Slot) (hl : lv_has ls 1 [(0, .ref (ad 4))]) (h : fC4_forget σ = some r) : W p l e rm_C4_forget s m args below meth c H locs 0 0 Q (F0 m 0 ls []) := by
  obtain ⟨hx, hb, hml, hown, hts⟩ := id C
  unfold fC4_forget at h
  refine lv_aload_n hx hb dC4_forget_0 rfl (lv_at hl 0 rfl) ?_
  refine lv_iconst (v := (0 : Int32)) hx hb dC4_forget_1 (by decide) ?_
  refine va_put (D := (dC, dI)) (ci := 4) (v := .int ((0 : Int32))) (ty := .int) (C := RC4) (T := TC4) (N := 10) hx hb hts inC4 tyC4 tyC4_ok nnC4 hown hK hP hD hS 4 rfl rfl 9 (by decide) (hts _ mw_198) (fun _ h9 => h9) rfl (by decide +kernel) rfl rfl (Nat.le_of_ble_eq_true rfl) dC4_forget_2 (fun H locs hP hD hS => ?_)
  obtain ⟨σ1, eσ1⟩ : ∃ z, z = sI σ 4 9 (0 : Int32) := ⟨_, rfl⟩
  have hP : va_P (dC, dI) vwC (xW ad cA σ1) H := by rw [eσ1]; exact hP
  have hD : va_D (xA ad) (xW ad cA σ1) := by rw [eσ1]; exact hD
  have h := nm_at eσ1 h
  refine lv_aload_n hx hb dC4_forget_5 rfl (lv_at hl 0 rfl) ?_
  refine lv_iconst (v := (0 : Int32)) hx hb dC4_forget_6 (by decide) ?_
  refine va_put (D := (dC, dI)) (ci := 4) (v := .int ((0 : Int32))) (ty := .int) (C := RC4) (T := TC4) (N := 10) hx hb hts inC4 tyC4 tyC4_ok nnC4 hown hK hP hD hS 4 rfl rfl 7 (by decide) (hts _ mw_199) (fun _ h9 => h9) rfl (by decide +kernel) rfl rfl (Nat.le_of_ble_eq_true rfl) dC4_forget_7 (fun H locs hP hD hS => ?_)
  obtain ⟨σ2, eσ2⟩ : ∃ z, z = sI σ1 4 7 (0 : Int32) := ⟨_, rfl⟩
  have hP : va_P (dC, dI) vwC (xW ad cA σ2) H := by rw [eσ2]; exact hP
  have hD : va_D (xA ad) (xW ad cA σ2) := by rw [eσ2]; exact hD
  have h := nm_at eσ2 h
  refine lv_aload_n hx hb dC4_forget_10 rfl (lv_at hl 0 rfl) ?_
  refine lv_lconst (v := (0 : Int64)) hx hb dC4_forget_11 (by decide) ?_
  refine va_put (D := (dC, dI)) (ci := 4) (v := .long ((0 : Int64))) (ty := .long) (C := RC4) (T := TC4) (N := 10) hx hb hts inC4 tyC4 tyC4_ok nnC4 hown hK hP hD hS 4 rfl rfl 8 (by decide) (hts _ mw_200) (fun _ h9 => h9) rfl (by decide +kernel) rfl rfl (Nat.le_of_ble_eq_true rfl) dC4_forget_12 (fun H locs hP hD hS => ?_)
  obtain ⟨σ3, eσ3⟩ : ∃ z, z = sL σ2 4 8 (0 : Int64) := ⟨_, rfl⟩
  have hP : va_P (dC, dI) vwC (xW ad cA σ3) H := by rw [eσ3]; exact hP
  have hD : va_D (xA ad) (xW ad cA σ3) := by rw [eσ3]; exact hD
  have h := nm_at eσ3 h
  exact hend _ _ _ _ _ (Option.some.inj h) hP hS dC4_forget_15
set_option maxHeartbeats 4000000 in
set_option maxRecDepth 100000 in
theorem kC4_forget (l : Launch) (dC : Nat → ClassId) (dI : Nat → Nat → Nat) (ad : Nat → Nat) (cA : Nat → ClassId) (σ : xSt) (r : xSt) (h : fC4_forget σ = some r) : Met l yC4_forget wsC4_forget rm_C4_forget (va_Pc [.ref (ad 4)] (fun U => va_P (dC, dI) vwC (xW ad cA σ) U.heap ∧ va_K (dC, dI) vwC (xT cA) U ∧ va_D (xA ad) (xW ad cA σ))) (va_Qv (fun u : xSt => u = r) (fun u t => va_P (dC, dI) vwC (xW ad cA u) t.heap) (xA ad)) 0 0 (xA ad) := by
  refine Met.ofW (cc := cC4_forget) (maxL := 1) (ret := none) (by decide) rfl ?_
  intro p e s m args below meth c s₁ B hml hv
  obtain ⟨rfl, hP, hK, hD⟩ := hv
  have hr := B.returns
  have hlocks := B.notSynchronized
  have hl := lv_entry ([.ref (ad 4)]) (n := 1) (Nat.le_of_ble_eq_true rfl)
  rw [lg_entry_eq]
  exact wC4_forget ⟨B.exec, B.bytes, hml, findClass_of_methodNamed B.named, fun w h => atoms_spec (ws := wsC4_forget) B.pre w (List.mem_cons_of_mem _ h)⟩ hK (fun σ H locs pc ls hv hP hS hd => W.vret B.exec B.bytes hr (fun t ht hW => ⟨⟨σ, rfl, hv, by show va_P _ _ _ t.heap; rw [ht]; exact hP⟩, hS.F ht⟩) hS.2.2 hd) hP hD va_S.rf _ hl h
abbrev rm_C2_listSeen_21 : Room := { frames := 4, cells := 0, slots := 0, locals := 94 }
def fC2_listSeen_21_b55 (k6 : xSt → Int32 → Int32 → Int32 → Int32 → Int32 → Option (Int32 × xSt)) (σ : xSt) (x1 : Int32) (x2 : Int32) (x3 : Int32) (x5 : Int32) (x6 : Int32) : Option (Int32 × xSt) :=
  k6 σ x1 x2 x3 x5 (x6 + (1 : Int32))
set_option maxHeartbeats 4000000 in
set_option maxRecDepth 100000 in
theorem wC2_listSeen_21_b55 {p : Program} {l : Launch} {e : Env} {s : State} {m : MethodId} {args : Array Value} {below : List Frame} {meth : Method} {c : Code} {Q : State → Prop} {dC : Nat → ClassId} {dI : Nat → Nat → Nat} {ad : Nat → Nat} {cA : Nat → ClassId} {r : (Int32 × xSt)} (C : CallFix p m c cC2_listSeen 7 s args wAll RC2) (hK : va_K (dC, dI) vwC (xT cA) s) (hend : ∀ (v : Int32) (σ : xSt) (H : Heap) (locs : List Loc) (pc : Nat) (ls : Array Slot), (v, σ) = r → va_P (dC, dI) vwC (xW ad cA σ) H → va_S (xA ad) s.heap H locs → decode cC2_listSeen pc = .ok (.ireturn, 1) → W p l e rm_C2_listSeen_21 s m args below meth c H locs 0 0 Q (F0 m pc ls [.int v])) {k6 : xSt → Int32 → Int32 → Int32 → Int32 → Int32 → Option (Int32 × xSt)} (hk6 : ∀ (σ : xSt) (H : Heap) (locs : List Loc) (x1 : Int32) (x2 : Int32) (x3 : Int32) (x5 : Int32) (x6 : Int32) (ls : Array Slot), va_P (dC, dI) vwC (xW ad cA σ) H → va_D (xA ad) (xW ad cA σ) → va_S (xA ad) s.heap H locs → lv_has ls 7 [(0, .ref (ad 2)), (1, .int (x1)), (2, .int (x2)), (3, .int (x3)), (4, .ref (ad 21)), (5, .int (x5)), (6, .int (x6))] → k6 σ x1 x2 x3 x5 x6 = some r → W p l e rm_C2_listSeen_21 s m args below meth c H locs 0 0 Q (F0 m 6 ls [])) :
    ∀ (σ : xSt) (H : Heap) (locs : List Loc) (x1 : Int32) (x2 : Int32) (x3 : Int32) (x5 : Int32) (x6 : Int32) (ls : Array Slot), va_P (dC, dI) vwC (xW ad cA σ) H → va_D (xA ad) (xW ad cA σ) → va_S (xA ad) s.heap H locs → lv_has ls 7 [(0, .ref (ad 2)), (1, .int (x1)), (2, .int (x2)), (3, .int (x3)), (4, .ref (ad 21)), (5, .int (x5)), (6, .int (x6))] → fC2_listSeen_21_b55 k6 σ x1 x2 x3 x5 x6 = some r → W p l e rm_C2_listSeen_21 s m args below meth c H locs 0 0 Q (F0 m 55 ls []) := by
  obtain ⟨hx, hb, hml, hown, hts⟩ := id C
  intro σ H locs x1 x2 x3 x5 x6 ls hP hD hS hl h
  unfold fC2_listSeen_21_b55 at h
  refine lv_iinc (v := x6 + (1 : Int32)) (lv' := [(6, .int (x6 + (1 : Int32))), (0, .ref (ad 2)), (1, .int (x1)), (2, .int (x2)), (3, .int (x3)), (4, .ref (ad 21)), (5, .int (x5))]) hx hb dC2_listSeen_55 hl (k := 6) rfl rfl (by decide) rfl (fun ls hl => ?_)
  refine lv_goto (tgt := 6) hx hb dC2_listSeen_58 (by decide) ?_
  exact hk6 _ _ _ _ _ _ _ _ _ hP hD hS (lv_sub hl [1, 2, 3, 4, 5, 6, 0] rfl) h
def fC2_listSeen_21_b6 : Nat → xSt → Int32 → Int32 → Int32 → Int32 → Int32 → Option (Int32 × xSt)
  | 0, _, _, _, _, _, _ => none
  | n + 1, σ, x1, x2, x3, x5, x6 =>
    if (σ.1 2 9) ≤ x6 then
      some (x5, σ)
    else
      if (60 : Int32) ≤ x5 then
        some (x5, σ)
      else
        if x6 < 0 ∨ 61 ≤ x6.toNatClampNeg then none else
        if (σ.1 10 x6.toNatClampNeg) = x2 then
          (fC2_isSeen σ x6 x1 x3).bind fun v2 =>
          if v2 = 0 then
            fC2_listSeen_21_b55 (fC2_listSeen_21_b6 n) σ x1 x2 x3 x5 x6
          else
            if x5 < 0 ∨ 60 ≤ x5.toNatClampNeg then none else
            nm (sI σ 21 x5.toNatClampNeg x6) fun σ4 =>
            fC2_listSeen_21_b55 (fC2_listSeen_21_b6 n) σ4 x1 x2 x3 (x5 + (1 : Int32)) x6
        else
          fC2_listSeen_21_b55 (fC2_listSeen_21_b6 n) σ x1 x2 x3 x5 x6
set_option maxHeartbeats 4000000 in
set_option maxRecDepth 100000 in
theorem wC2_listSeen_21_b6 {p : Program} {l : Launch} {e : Env} {s : State} {m : MethodId} {args : Array Value} {below : List Frame} {meth : Method} {c : Code} {Q : State → Prop} {dC : Nat → ClassId} {dI : Nat → Nat → Nat} {ad : Nat → Nat} {cA : Nat → ClassId} {r : (Int32 × xSt)} (C : CallFix p m c cC2_listSeen 7 s args wAll RC2) (hK : va_K (dC, dI) vwC (xT cA) s) (hend : ∀ (v : Int32) (σ : xSt) (H : Heap) (locs : List Loc) (pc : Nat) (ls : Array Slot), (v, σ) = r → va_P (dC, dI) vwC (xW ad cA σ) H → va_S (xA ad) s.heap H locs → decode cC2_listSeen pc = .ok (.ireturn, 1) → W p l e rm_C2_listSeen_21 s m args below meth c H locs 0 0 Q (F0 m pc ls [.int v])) :
    ∀ (n : Nat) (σ : xSt) (H : Heap) (locs : List Loc) (x1 : Int32) (x2 : Int32) (x3 : Int32) (x5 : Int32) (x6 : Int32) (ls : Array Slot), va_P (dC, dI) vwC (xW ad cA σ) H → va_D (xA ad) (xW ad cA σ) → va_S (xA ad) s.heap H locs → lv_has ls 7 [(0, .ref (ad 2)), (1, .int (x1)), (2, .int (x2)), (3, .int (x3)), (4, .ref (ad 21)), (5, .int (x5)), (6, .int (x6))] → fC2_listSeen_21_b6 n σ x1 x2 x3 x5 x6 = some r → W p l e rm_C2_listSeen_21 s m args below meth c H locs 0 0 Q (F0 m 6 ls []) := by
  obtain ⟨hx, hb, hml, hown, hts⟩ := id C
  intro n
  induction n with
  | zero =>
    intro σ H locs x1 x2 x3 x5 x6 ls hP hD hS hl h
    rw [fC2_listSeen_21_b6] at h
    cases h
  | succ n ih =>
    intro σ H locs x1 x2 x3 x5 x6 ls hP hD hS hl h
    rw [fC2_listSeen_21_b6] at h
    refine lv_iload hx hb dC2_listSeen_6 (lv_at hl 6 rfl) ?_
    refine lv_aload_n hx hb dC2_listSeen_8 rfl (lv_at hl 0 rfl) ?_
    refine va_get (D := (dC, dI)) (ci := 2) (v := .int (σ.1 2 9)) (C := RC2) (T := TC2) (N := 10) hx hb hts inC2 hown hK hP 2 rfl rfl 9 (by decide) (hts _ mw_43) (fun _ h9 => h9) rfl dC2_listSeen_9 ?_
    refine lv_icmp_ge (tgt := 61) hx hb dC2_listSeen_12 (by decide) (fun c8 => ?_) (fun c8 => ?_)
    · have h := (if_pos c8).symm.trans h
      refine lv_iload hx hb dC2_listSeen_61 (lv_at hl 5 rfl) ?_
      exact hend _ _ _ _ _ _ (Option.some.inj h) hP hS dC2_listSeen_63
    · have h := (if_neg c8).symm.trans h
      refine lv_iload hx hb dC2_listSeen_15 (lv_at hl 5 rfl) ?_
      refine lv_aload hx hb dC2_listSeen_17 (lv_at hl 4 rfl) ?_
      refine va_alen (v := (60 : Int32)) hx hb hK hP 21 16 rfl rfl rfl dC2_listSeen_19 ?_
      refine lv_icmp_ge (tgt := 61) hx hb dC2_listSeen_20 (by decide) (fun c7 => ?_) (fun c7 => ?_)
      · have h := (if_pos c7).symm.trans h
        refine lv_iload hx hb dC2_listSeen_61 (lv_at hl 5 rfl) ?_
        exact hend _ _ _ _ _ _ (Option.some.inj h) hP hS dC2_listSeen_63
      · have h := (if_neg c7).symm.trans h
        refine lv_aload_n hx hb dC2_listSeen_23 rfl (lv_at hl 0 rfl) ?_
        refine va_get (D := (dC, dI)) (ci := 2) (v := .ref (ad 10)) (C := RC2) (T := TC2) (N := 10) hx hb hts inC2 hown hK hP 2 rfl rfl 2 (by decide) (hts _ mw_44) (fun _ h9 => h9) rfl dC2_listSeen_24 ?_
        refine lv_iload hx hb dC2_listSeen_27 (lv_at hl 6 rfl) ?_
        obtain ⟨b1, h⟩ := gx_nb h
        refine va_iald hx hb hK hP 10 5 rfl rfl b1 dC2_listSeen_29 ?_
        refine lv_iload_n hx hb dC2_listSeen_30 rfl (lv_at hl 2 rfl) ?_
        refine lv_icmp_ne (tgt := 55) hx hb dC2_listSeen_31 (by decide) (fun c6 => ?_) (fun c6 => ?_)
        · have h := (if_neg c6).symm.trans h
          exact wC2_listSeen_21_b55 C hK hend ih _ _ _ _ _ _ _ _ _ hP hD hS (lv_sub hl [0, 1, 2, 3, 4, 5, 6] rfl) h
        · have h := (if_pos c6).symm.trans h
          refine lv_aload_n hx hb dC2_listSeen_34 rfl (lv_at hl 0 rfl) ?_
          refine lv_iload hx hb dC2_listSeen_35 (lv_at hl 6 rfl) ?_
          refine lv_iload_n hx hb dC2_listSeen_37 rfl (lv_at hl 1 rfl) ?_
          refine lv_iload_n hx hb dC2_listSeen_38 rfl (lv_at hl 3 rfl) ?_
          obtain ⟨v2, ev2, h⟩ := Option.bind_eq_some_iff.mp h
          refine gcall_r (b := ad 2) (As := [.int (x6), .int (x1), .int (x3)]) (rest := []) C hK hP (ci := 2) (q0 := 2) rfl rfl (kC2_isSeen l dC dI ad cA σ x6 x1 x3 v2 ev2) (cwV 3 hts (gw mw_149 mw_150 mw_151 mw_40 mw_152) rfl rfl rfl hdC2_isSeen ⟨Nat.le_of_ble_eq_true rfl, Nat.le_of_ble_eq_true rfl⟩) rfl hl.1 rfl (Nat.le_of_ble_eq_true rfl) dC2_listSeen_39 ⟨Nat.le_refl _, Nat.le_refl _⟩ ?_
          refine lv_if_eq (tgt := 55) hx hb dC2_listSeen_42 (by decide) (fun c5 => ?_) (fun c5 => ?_)
          · have h := (if_pos c5).symm.trans h
            exact wC2_listSeen_21_b55 C hK hend ih _ _ _ _ _ _ _ _ _ hP hD hS (lv_sub hl [0, 1, 2, 3, 4, 5, 6] rfl) h
          · have h := (if_neg c5).symm.trans h
            refine lv_aload hx hb dC2_listSeen_45 (lv_at hl 4 rfl) ?_
            refine lv_iload hx hb dC2_listSeen_47 (lv_at hl 5 rfl) ?_
            refine lv_iload hx hb dC2_listSeen_49 (lv_at hl 6 rfl) ?_
            obtain ⟨b3, h⟩ := gx_nb h
            refine va_iast hx hb hK hP hD hS 21 16 rfl rfl b3 dC2_listSeen_51 (fun H locs hP hD hS => ?_)
            obtain ⟨σ4, eσ4⟩ : ∃ z, z = sI σ 21 x5.toNatClampNeg x6 := ⟨_, rfl⟩
            have hP : va_P (dC, dI) vwC (xW ad cA σ4) H := by rw [eσ4]; exact hP
            have hD : va_D (xA ad) (xW ad cA σ4) := by rw [eσ4]; exact hD
            have h := nm_at eσ4 h
            refine lv_iinc (v := x5 + (1 : Int32)) (lv' := [(5, .int (x5 + (1 : Int32))), (0, .ref (ad 2)), (1, .int (x1)), (2, .int (x2)), (3, .int (x3)), (4, .ref (ad 21)), (6, .int (x6))]) hx hb dC2_listSeen_52 hl (k := 5) rfl rfl (by decide) rfl (fun ls hl => ?_)
            exact wC2_listSeen_21_b55 C hK hend ih _ _ _ _ _ _ _ _ _ hP hD hS (lv_sub hl [1, 2, 3, 4, 5, 0, 6] rfl) h
def fC2_listSeen_21 (σ : xSt) (x1 : Int32) (x2 : Int32) (x3 : Int32) : Option (Int32 × xSt) :=
  fC2_listSeen_21_b6 gF σ x1 x2 x3 (0 : Int32) (0 : Int32)
set_option maxHeartbeats 4000000 in
set_option maxRecDepth 100000 in
theorem wC2_listSeen_21 {p : Program} {l : Launch} {e : Env} {s : State} {m : MethodId} {args : Array Value} {below : List Frame} {meth : Method} {c : Code} {Q : State → Prop} {dC : Nat → ClassId} {dI : Nat → Nat → Nat} {ad : Nat → Nat} {cA : Nat → ClassId} {r : (Int32 × xSt)} (C : CallFix p m c cC2_listSeen 7 s args wAll RC2) (hK : va_K (dC, dI) vwC (xT cA) s) (hend : ∀ (v : Int32) (σ : xSt) (H : Heap) (locs : List Loc) (pc : Nat) (ls : Array Slot), (v, σ) = r → va_P (dC, dI) vwC (xW ad cA σ) H → va_S (xA ad) s.heap H locs → decode cC2_listSeen pc = .ok (.ireturn, 1) → W p l e rm_C2_listSeen_21 s m args below meth c H locs 0 0 Q (F0 m pc ls [.int v])) {H : Heap} {locs : List Loc} {σ : xSt} (hP : va_P (dC, dI) vwC (xW ad cA σ) H) (hD : va_D (xA ad) (xW ad cA σ)) (hS : va_S (xA ad) s.heap H locs) {x1 : Int32} {x2 : Int32} {x3 : Int32} (ls : Array Slot) (hl : lv_has ls 7 [(0, .ref (ad 2)), (1, .int (x1)), (2, .int (x2)), (3, .int (x3)), (4, .ref (ad 21))]) (h : fC2_listSeen_21 σ x1 x2 x3 = some r) : W p l e rm_C2_listSeen_21 s m args below meth c H locs 0 0 Q (F0 m 0 ls []) := by
  obtain ⟨hx, hb, hml, hown, hts⟩ := id C
  unfold fC2_listSeen_21 at h
  refine lv_iconst (v := (0 : Int32)) hx hb dC2_listSeen_0 (by decide) ?_
  refine lv_istore (lv' := [(5, .int ((0 : Int32))), (0, .ref (ad 2)), (1, .int (x1)), (2, .int (x2)), (3, .int (x3)), (4, .ref (ad 21))]) hx hb dC2_listSeen_1 hl (by decide) rfl (fun ls hl => ?_)
  refine lv_iconst (v := (0 : Int32)) hx hb dC2_listSeen_3 (by decide) ?_
  refine lv_istore (lv' := [(6, .int ((0 : Int32))), (5, .int ((0 : Int32))), (0, .ref (ad 2)), (1, .int (x1)), (2, .int (x2)), (3, .int (x3)), (4, .ref (ad 21))]) hx hb dC2_listSeen_4 hl (by decide) rfl (fun ls hl => ?_)
  exact wC2_listSeen_21_b6 C hK hend _ _ _ _ _ _ _ _ _ _ hP hD hS (lv_sub hl [2, 3, 4, 5, 6, 1, 0] rfl) h
set_option maxHeartbeats 4000000 in
set_option maxRecDepth 100000 in
theorem kC2_listSeen_21 (l : Launch) (dC : Nat → ClassId) (dI : Nat → Nat → Nat) (ad : Nat → Nat) (cA : Nat → ClassId) (σ : xSt) (x1 : Int32) (x2 : Int32) (x3 : Int32) (r : (Int32 × xSt)) (h : fC2_listSeen_21 σ x1 x2 x3 = some r) : Met l yC2_listSeen wsC2_listSeen rm_C2_listSeen_21 (va_Pc [.ref (ad 2), .int (x1), .int (x2), .int (x3), .ref (ad 21)] (fun U => va_P (dC, dI) vwC (xW ad cA σ) U.heap ∧ va_K (dC, dI) vwC (xT cA) U ∧ va_D (xA ad) (xW ad cA σ))) (va_Qi (fun (v : Int32) (u : xSt) => (v, u) = r) (fun u t => va_P (dC, dI) vwC (xW ad cA u) t.heap) (xA ad)) 0 0 (xA ad) := by
  refine Met.ofW (cc := cC2_listSeen) (maxL := 7) (ret := (some .int)) (by decide) rfl ?_
  intro p e s m args below meth c s₁ B hml hv
  obtain ⟨rfl, hP, hK, hD⟩ := hv
  have hr := B.returns
  have hlocks := B.notSynchronized
  have hl := lv_entry ([.ref (ad 2), .int (x1), .int (x2), .int (x3), .ref (ad 21)]) (n := 7) (Nat.le_of_ble_eq_true rfl)
  rw [lg_entry_eq]
  exact wC2_listSeen_21 ⟨B.exec, B.bytes, hml, findClass_of_methodNamed B.named, fun w h => atoms_spec (ws := wsC2_listSeen) B.pre w (List.mem_cons_of_mem _ h)⟩ hK (fun v σ H locs pc ls hv hP hS hd => W.iret (v := v) B.exec B.bytes hr (fun t ht hW => ⟨⟨v, σ, rfl, hv, by show va_P _ _ _ t.heap; rw [ht]; exact hP⟩, hS.F ht⟩) hS.2.2 hd) hP hD va_S.rf _ hl h
abbrev rm_C2_widthOf : Room := { frames := 0, cells := 0, slots := 0, locals := 0 }
def fC2_widthOf (σ : xSt) (x1 : Int32) : Option Int32 :=
  if x1 < 0 ∨ 61 ≤ x1.toNatClampNeg then none else
  some (σ.1 13 x1.toNatClampNeg)
set_option maxHeartbeats 4000000 in
set_option maxRecDepth 100000 in
theorem wC2_widthOf {p : Program} {l : Launch} {e : Env} {s : State} {m : MethodId} {args : Array Value} {below : List Frame} {meth : Method} {c : Code} {Q : State → Prop} {dC : Nat → ClassId} {dI : Nat → Nat → Nat} {ad : Nat → Nat} {cA : Nat → ClassId} {r : Int32} {H : Heap} {locs : List Loc} {σ : xSt} (C : CallFix p m c cC2_widthOf 2 s args wAll RC2) (hK : va_K (dC, dI) vwC (xT cA) s) (hP : va_P (dC, dI) vwC (xW ad cA σ) H) (hend : ∀ (v : Int32) (pc : Nat) (ls : Array Slot), v = r → decode cC2_widthOf pc = .ok (.ireturn, 1) → W p l e rm_C2_widthOf s m args below meth c H locs 0 0 Q (F0 m pc ls [.int v])) {x1 : Int32} (ls : Array Slot) (hl : lv_has ls 2 [(0, .ref (ad 2)), (1, .int (x1))]) (h : fC2_widthOf σ x1 = some r) : W p l e rm_C2_widthOf s m args below meth c H locs 0 0 Q (F0 m 0 ls []) := by
  obtain ⟨hx, hb, hml, hown, hts⟩ := id C
  unfold fC2_widthOf at h
  refine lv_aload_n hx hb dC2_widthOf_0 rfl (lv_at hl 0 rfl) ?_
  refine va_get (D := (dC, dI)) (ci := 2) (v := .ref (ad 13)) (C := RC2) (T := TC2) (N := 10) hx hb hts inC2 hown hK hP 2 rfl rfl 5 (by decide) (hts _ mw_51) (fun _ h9 => h9) rfl dC2_widthOf_1 ?_
  refine lv_iload_n hx hb dC2_widthOf_4 rfl (lv_at hl 1 rfl) ?_
  obtain ⟨b1, h⟩ := gx_nb h
  refine va_iald hx hb hK hP 13 8 rfl rfl b1 dC2_widthOf_5 ?_
  exact hend _ _ _ (Option.some.inj h) dC2_widthOf_6
set_option maxHeartbeats 4000000 in
set_option maxRecDepth 100000 in
theorem kC2_widthOf (l : Launch) (dC : Nat → ClassId) (dI : Nat → Nat → Nat) (ad : Nat → Nat) (cA : Nat → ClassId) (σ : xSt) (x1 : Int32) (r : Int32) (h : fC2_widthOf σ x1 = some r) : Met l yC2_widthOf wsC2_widthOf rm_C2_widthOf (va_Pc [.ref (ad 2), .int (x1)] (fun U => va_P (dC, dI) vwC (xW ad cA σ) U.heap ∧ va_K (dC, dI) vwC (xT cA) U)) (vp_Si (fun v => v = r)) 0 0 (fun _ => False) := by
  refine Met.ofW (cc := cC2_widthOf) (maxL := 2) (ret := (some .int)) (by decide) rfl ?_
  intro p e s m args below meth c s₁ B hml hv
  obtain ⟨rfl, hP, hK⟩ := hv
  have hr := B.returns
  have hlocks := B.notSynchronized
  have hl := lv_entry ([.ref (ad 2), .int (x1)]) (n := 2) (Nat.le_of_ble_eq_true rfl)
  rw [lg_entry_eq]
  exact wC2_widthOf ⟨B.exec, B.bytes, hml, findClass_of_methodNamed B.named, fun w h => atoms_spec (ws := wsC2_widthOf) B.pre w (List.mem_cons_of_mem _ h)⟩ hK hP (fun v pc ls hv hd => W.iret (v := v) B.exec B.bytes hr (fun t ht hW => ⟨v, rfl, hv, ht⟩) (fun q hq => absurd hq List.not_mem_nil) hd) _ hl h
abbrev rm_C3_size : Room := { frames := 0, cells := 0, slots := 0, locals := 0 }
def fC3_size (σ : xSt) : Option Int32 :=
  some (σ.1 3 5)
set_option maxHeartbeats 4000000 in
set_option maxRecDepth 100000 in
theorem wC3_size {p : Program} {l : Launch} {e : Env} {s : State} {m : MethodId} {args : Array Value} {below : List Frame} {meth : Method} {c : Code} {Q : State → Prop} {dC : Nat → ClassId} {dI : Nat → Nat → Nat} {ad : Nat → Nat} {cA : Nat → ClassId} {r : Int32} {H : Heap} {locs : List Loc} {σ : xSt} (C : CallFix p m c cC3_size 1 s args wAll RC3) (hK : va_K (dC, dI) vwC (xT cA) s) (hP : va_P (dC, dI) vwC (xW ad cA σ) H) (hend : ∀ (v : Int32) (pc : Nat) (ls : Array Slot), v = r → decode cC3_size pc = .ok (.ireturn, 1) → W p l e rm_C3_size s m args below meth c H locs 0 0 Q (F0 m pc ls [.int v])) (ls : Array Slot) (hl : lv_has ls 1 [(0, .ref (ad 3))]) (h : fC3_size σ = some r) : W p l e rm_C3_size s m args below meth c H locs 0 0 Q (F0 m 0 ls []) := by
  obtain ⟨hx, hb, hml, hown, hts⟩ := id C
  unfold fC3_size at h
  refine lv_aload_n hx hb dC3_size_0 rfl (lv_at hl 0 rfl) ?_
  refine va_get (D := (dC, dI)) (ci := 3) (v := .int (σ.1 3 5)) (C := RC3) (T := TC3) (N := 6) hx hb hts inC3 hown hK hP 3 rfl rfl 5 (by decide) (hts _ mw_176) (fun _ h9 => h9) rfl dC3_size_1 ?_
  exact hend _ _ _ (Option.some.inj h) dC3_size_4
set_option maxHeartbeats 4000000 in
set_option maxRecDepth 100000 in
theorem kC3_size (l : Launch) (dC : Nat → ClassId) (dI : Nat → Nat → Nat) (ad : Nat → Nat) (cA : Nat → ClassId) (σ : xSt) (r : Int32) (h : fC3_size σ = some r) : Met l yC3_size wsC3_size rm_C3_size (va_Pc [.ref (ad 3)] (fun U => va_P (dC, dI) vwC (xW ad cA σ) U.heap ∧ va_K (dC, dI) vwC (xT cA) U)) (vp_Si (fun v => v = r)) 0 0 (fun _ => False) := by
  refine Met.ofW (cc := cC3_size) (maxL := 1) (ret := (some .int)) (by decide) rfl ?_
  intro p e s m args below meth c s₁ B hml hv
  obtain ⟨rfl, hP, hK⟩ := hv
  have hr := B.returns
  have hlocks := B.notSynchronized
  have hl := lv_entry ([.ref (ad 3)]) (n := 1) (Nat.le_of_ble_eq_true rfl)
  rw [lg_entry_eq]
  exact wC3_size ⟨B.exec, B.bytes, hml, findClass_of_methodNamed B.named, fun w h => atoms_spec (ws := wsC3_size) B.pre w (List.mem_cons_of_mem _ h)⟩ hK hP (fun v pc ls hv hd => W.iret (v := v) B.exec B.bytes hr (fun t ht hW => ⟨v, rfl, hv, ht⟩) (fun q hq => absurd hq List.not_mem_nil) hd) _ hl h
abbrev rm_C3_isLambda : Room := { frames := 0, cells := 0, slots := 0, locals := 0 }
def fC3_isLambda (σ : xSt) (x1 : Int32) : Option Int32 :=
  if x1 < 0 ∨ 5 ≤ x1.toNatClampNeg then none else
  if (σ.1 16 x1.toNatClampNeg) &&& 1 = (σ.1 16 x1.toNatClampNeg) then
    some (σ.1 16 x1.toNatClampNeg)
  else none
set_option maxHeartbeats 4000000 in
set_option maxRecDepth 100000 in
theorem wC3_isLambda {p : Program} {l : Launch} {e : Env} {s : State} {m : MethodId} {args : Array Value} {below : List Frame} {meth : Method} {c : Code} {Q : State → Prop} {dC : Nat → ClassId} {dI : Nat → Nat → Nat} {ad : Nat → Nat} {cA : Nat → ClassId} {r : Int32} {H : Heap} {locs : List Loc} {σ : xSt} (C : CallFix p m c cC3_isLambda 2 s args wAll RC3) (hK : va_K (dC, dI) vwC (xT cA) s) (hP : va_P (dC, dI) vwC (xW ad cA σ) H) (hend : ∀ (v : Int32) (pc : Nat) (ls : Array Slot), v = r → narrow .boolean (.int v) = .int v → decode cC3_isLambda pc = .ok (.ireturn, 1) → W p l e rm_C3_isLambda s m args below meth c H locs 0 0 Q (F0 m pc ls [.int v])) {x1 : Int32} (ls : Array Slot) (hl : lv_has ls 2 [(0, .ref (ad 3)), (1, .int (x1))]) (h : fC3_isLambda σ x1 = some r) : W p l e rm_C3_isLambda s m args below meth c H locs 0 0 Q (F0 m 0 ls []) := by
  obtain ⟨hx, hb, hml, hown, hts⟩ := id C
  unfold fC3_isLambda at h
  refine lv_aload_n hx hb dC3_isLambda_0 rfl (lv_at hl 0 rfl) ?_
  refine va_get (D := (dC, dI)) (ci := 3) (v := .ref (ad 16)) (C := RC3) (T := TC3) (N := 6) hx hb hts inC3 hown hK hP 3 rfl rfl 0 (by decide) (hts _ mw_177) (fun _ h9 => h9) rfl dC3_isLambda_1 ?_
  refine lv_iload_n hx hb dC3_isLambda_4 rfl (lv_at hl 1 rfl) ?_
  obtain ⟨b1, h⟩ := gx_nb h
  refine va_zald hx hb hK hP 16 11 rfl rfl b1 dC3_isLambda_5 ?_
  obtain ⟨b2, h⟩ := gx_gd h
  exact hend _ _ _ (Option.some.inj h) (gx_nar b2) dC3_isLambda_6
set_option maxHeartbeats 4000000 in
set_option maxRecDepth 100000 in
theorem kC3_isLambda (l : Launch) (dC : Nat → ClassId) (dI : Nat → Nat → Nat) (ad : Nat → Nat) (cA : Nat → ClassId) (σ : xSt) (x1 : Int32) (r : Int32) (h : fC3_isLambda σ x1 = some r) : Met l yC3_isLambda wsC3_isLambda rm_C3_isLambda (va_Pc [.ref (ad 3), .int (x1)] (fun U => va_P (dC, dI) vwC (xW ad cA σ) U.heap ∧ va_K (dC, dI) vwC (xT cA) U)) (vp_Si (fun v => v = r)) 0 0 (fun _ => False) := by
  refine Met.ofW (cc := cC3_isLambda) (maxL := 2) (ret := (some .boolean)) (by decide) rfl ?_
  intro p e s m args below meth c s₁ B hml hv
  obtain ⟨rfl, hP, hK⟩ := hv
  have hr := B.returns
  have hlocks := B.notSynchronized
  have hl := lv_entry ([.ref (ad 3), .int (x1)]) (n := 2) (Nat.le_of_ble_eq_true rfl)
  rw [lg_entry_eq]
  exact wC3_isLambda ⟨B.exec, B.bytes, hml, findClass_of_methodNamed B.named, fun w h => atoms_spec (ws := wsC3_isLambda) B.pre w (List.mem_cons_of_mem _ h)⟩ hK hP (fun v pc ls hv hn hd => W.zret (v := v) B.exec B.bytes hr hn (fun t ht hW => ⟨v, rfl, hv, ht⟩) (fun q hq => absurd hq List.not_mem_nil) hd) _ hl h
abbrev rm_C1_elementOf : Room := { frames := 0, cells := 0, slots := 0, locals := 0 }
def fC1_elementOf (σ : xSt) (x1 : Int32) : Option Int32 :=
  if x1 < (64 : Int32) then
    some (-1 : Int32)
  else
    some (x1 - (64 : Int32))
set_option maxHeartbeats 4000000 in
set_option maxRecDepth 100000 in
theorem wC1_elementOf {p : Program} {l : Launch} {e : Env} {s : State} {m : MethodId} {args : Array Value} {below : List Frame} {meth : Method} {c : Code} {Q : State → Prop} {dC : Nat → ClassId} {dI : Nat → Nat → Nat} {ad : Nat → Nat} {cA : Nat → ClassId} {r : Int32} {H : Heap} {locs : List Loc} {σ : xSt} (C : CallFix p m c cC1_elementOf 2 s args wAll RC1) (hK : va_K (dC, dI) vwC (xT cA) s) (hP : va_P (dC, dI) vwC (xW ad cA σ) H) (hend : ∀ (v : Int32) (pc : Nat) (ls : Array Slot), v = r → decode cC1_elementOf pc = .ok (.ireturn, 1) → W p l e rm_C1_elementOf s m args below meth c H locs 0 0 Q (F0 m pc ls [.int v])) {x1 : Int32} (ls : Array Slot) (hl : lv_has ls 2 [(0, .ref (ad 1)), (1, .int (x1))]) (h : fC1_elementOf σ x1 = some r) : W p l e rm_C1_elementOf s m args below meth c H locs 0 0 Q (F0 m 0 ls []) := by
  obtain ⟨hx, hb, hml, hown, hts⟩ := id C
  unfold fC1_elementOf at h
  refine lv_iload_n hx hb dC1_elementOf_0 rfl (lv_at hl 1 rfl) ?_
  refine lv_bipush (v := (64 : Int32)) hx hb dC1_elementOf_1 (by decide) ?_
  refine lv_icmp_lt (tgt := 13) hx hb dC1_elementOf_3 (by decide) (fun c1 => ?_) (fun c1 => ?_)
  · have h := (if_pos c1).symm.trans h
    refine lv_iconst (v := (-1 : Int32)) hx hb dC1_elementOf_13 (by decide) ?_
    exact hend _ _ _ (Option.some.inj h) dC1_elementOf_14
  · have h := (if_neg c1).symm.trans h
    refine lv_iload_n hx hb dC1_elementOf_6 rfl (lv_at hl 1 rfl) ?_
    refine lv_bipush (v := (64 : Int32)) hx hb dC1_elementOf_7 (by decide) ?_
    refine lv_isub hx hb dC1_elementOf_9 ?_
    refine lv_goto (tgt := 14) hx hb dC1_elementOf_10 (by decide) ?_
    exact hend _ _ _ (Option.some.inj h) dC1_elementOf_14
set_option maxHeartbeats 4000000 in
set_option maxRecDepth 100000 in
theorem kC1_elementOf (l : Launch) (dC : Nat → ClassId) (dI : Nat → Nat → Nat) (ad : Nat → Nat) (cA : Nat → ClassId) (σ : xSt) (x1 : Int32) (r : Int32) (h : fC1_elementOf σ x1 = some r) : Met l yC1_elementOf wsC1_elementOf rm_C1_elementOf (va_Pc [.ref (ad 1), .int (x1)] (fun U => va_P (dC, dI) vwC (xW ad cA σ) U.heap ∧ va_K (dC, dI) vwC (xT cA) U)) (vp_Si (fun v => v = r)) 0 0 (fun _ => False) := by
  refine Met.ofW (cc := cC1_elementOf) (maxL := 2) (ret := (some .int)) (by decide) rfl ?_
  intro p e s m args below meth c s₁ B hml hv
  obtain ⟨rfl, hP, hK⟩ := hv
  have hr := B.returns
  have hlocks := B.notSynchronized
  have hl := lv_entry ([.ref (ad 1), .int (x1)]) (n := 2) (Nat.le_of_ble_eq_true rfl)
  rw [lg_entry_eq]
  exact wC1_elementOf ⟨B.exec, B.bytes, hml, findClass_of_methodNamed B.named, fun w h => atoms_spec (ws := wsC1_elementOf) B.pre w (List.mem_cons_of_mem _ h)⟩ hK hP (fun v pc ls hv hd => W.iret (v := v) B.exec B.bytes hr (fun t ht hW => ⟨v, rfl, hv, ht⟩) (fun q hq => absurd hq List.not_mem_nil) hd) _ hl h
abbrev rm_C2_facing : Room := { frames := 1, cells := 0, slots := 0, locals := 22 }
def fC2_facing_b37 (σ : xSt) (x1 : Int32) (x2 : Int32) : Option Int32 :=
  (fC2_parameterAt σ x1 x2).bind fun v3 =>
  some v3
set_option maxHeartbeats 4000000 in
set_option maxRecDepth 100000 in
theorem wC2_facing_b37 {p : Program} {l : Launch} {e : Env} {s : State} {m : MethodId} {args : Array Value} {below : List Frame} {meth : Method} {c : Code} {Q : State → Prop} {dC : Nat → ClassId} {dI : Nat → Nat → Nat} {ad : Nat → Nat} {cA : Nat → ClassId} {r : Int32} {H : Heap} {locs : List Loc} {σ : xSt} (C : CallFix p m c cC2_facing 5 s args wAll RC2) (hK : va_K (dC, dI) vwC (xT cA) s) (hP : va_P (dC, dI) vwC (xW ad cA σ) H) (hend : ∀ (v : Int32) (pc : Nat) (ls : Array Slot), v = r → decode cC2_facing pc = .ok (.ireturn, 1) → W p l e rm_C2_facing s m args below meth c H locs 0 0 Q (F0 m pc ls [.int v])) :
    ∀ (x1 : Int32) (x2 : Int32) (ls : Array Slot), lv_has ls 5 [(0, .ref (ad 2)), (1, .int (x1)), (2, .int (x2))] → fC2_facing_b37 σ x1 x2 = some r → W p l e rm_C2_facing s m args below meth c H locs 0 0 Q (F0 m 37 ls []) := by
  obtain ⟨hx, hb, hml, hown, hts⟩ := id C
  intro x1 x2 ls hl h
  unfold fC2_facing_b37 at h
  refine lv_aload_n hx hb dC2_facing_37 rfl (lv_at hl 0 rfl) ?_
  refine lv_iload_n hx hb dC2_facing_38 rfl (lv_at hl 1 rfl) ?_
  refine lv_iload_n hx hb dC2_facing_39 rfl (lv_at hl 2 rfl) ?_
  obtain ⟨v3, ev3, h⟩ := Option.bind_eq_some_iff.mp h
  refine gcall_r (b := ad 2) (As := [.int (x1), .int (x2)]) (rest := []) C hK hP (ci := 2) (q0 := 2) rfl rfl (kC2_parameterAt l dC dI ad cA σ x1 x2 v3 ev3) (cwV 2 hts (gw mw_100 mw_101 mw_102 mw_40 mw_103) rfl rfl rfl hdC2_parameterAt ⟨Nat.le_of_ble_eq_true rfl, Nat.le_of_ble_eq_true rfl⟩) rfl hl.1 rfl (Nat.le_of_ble_eq_true rfl) dC2_facing_40 ⟨Nat.le_refl _, Nat.le_refl _⟩ ?_
  exact hend _ _ _ (Option.some.inj h) dC2_facing_43
def fC2_facing (σ : xSt) (x1 : Int32) (x2 : Int32) (x3 : Int32) : Option Int32 :=
  if x1 < 0 ∨ 61 ≤ x1.toNatClampNeg then none else
  nm ((σ.1 13 x1.toNatClampNeg) - (1 : Int32)) fun y2 =>
  if x3 = 0 then
    fC2_facing_b37 σ x1 x2
  else
    if x2 < y2 then
      fC2_facing_b37 σ x1 x2
    else
      (fC2_parameterAt σ x1 y2).bind fun v4 =>
      (fC1_elementOf σ v4).bind fun v5 =>
      some v5
set_option maxHeartbeats 4000000 in
set_option maxRecDepth 100000 in
theorem wC2_facing {p : Program} {l : Launch} {e : Env} {s : State} {m : MethodId} {args : Array Value} {below : List Frame} {meth : Method} {c : Code} {Q : State → Prop} {dC : Nat → ClassId} {dI : Nat → Nat → Nat} {ad : Nat → Nat} {cA : Nat → ClassId} {r : Int32} {H : Heap} {locs : List Loc} {σ : xSt} (C : CallFix p m c cC2_facing 5 s args wAll RC2) (hK : va_K (dC, dI) vwC (xT cA) s) (hP : va_P (dC, dI) vwC (xW ad cA σ) H) (hend : ∀ (v : Int32) (pc : Nat) (ls : Array Slot), v = r → decode cC2_facing pc = .ok (.ireturn, 1) → W p l e rm_C2_facing s m args below meth c H locs 0 0 Q (F0 m pc ls [.int v])) {x1 : Int32} {x2 : Int32} {x3 : Int32} (ls : Array Slot) (hl : lv_has ls 5 [(0, .ref (ad 2)), (1, .int (x1)), (2, .int (x2)), (3, .int (x3))]) (h : fC2_facing σ x1 x2 x3 = some r) : W p l e rm_C2_facing s m args below meth c H locs 0 0 Q (F0 m 0 ls []) := by
  obtain ⟨hx, hb, hml, hown, hts⟩ := id C
  unfold fC2_facing at h
  refine lv_aload_n hx hb dC2_facing_0 rfl (lv_at hl 0 rfl) ?_
  refine va_get (D := (dC, dI)) (ci := 2) (v := .ref (ad 13)) (C := RC2) (T := TC2) (N := 10) hx hb hts inC2 hown hK hP 2 rfl rfl 5 (by decide) (hts _ mw_51) (fun _ h9 => h9) rfl dC2_facing_1 ?_
  refine lv_iload_n hx hb dC2_facing_4 rfl (lv_at hl 1 rfl) ?_
  obtain ⟨b1, h⟩ := gx_nb h
  refine va_iald hx hb hK hP 13 8 rfl rfl b1 dC2_facing_5 ?_
  refine lv_iconst (v := (1 : Int32)) hx hb dC2_facing_6 (by decide) ?_
  refine lv_isub hx hb dC2_facing_7 ?_
  refine lv_topi (fun y2 ey2 => ?_)
  have h := nm_at ey2 h
  refine lv_istore (lv' := [(4, .int (y2)), (0, .ref (ad 2)), (1, .int (x1)), (2, .int (x2)), (3, .int (x3))]) hx hb dC2_facing_8 hl (by decide) rfl (fun ls hl => ?_)
  refine lv_iload_n hx hb dC2_facing_10 rfl (lv_at hl 4 rfl) ?_
  refine lv_if_eq (tgt := 37) hx hb dC2_facing_11 (by decide) (fun c7 => ?_) (fun c7 => ?_)
  · have h := (if_pos c7).symm.trans h
    exact wC2_facing_b37 C hK hP hend _ _ _ (lv_sub hl [1, 2, 3] rfl) h
  · have h := (if_neg c7).symm.trans h
    refine lv_iload_n hx hb dC2_facing_14 rfl (lv_at hl 3 rfl) ?_
    refine lv_iload hx hb dC2_facing_15 (lv_at hl 0 rfl) ?_
    refine lv_icmp_lt (tgt := 37) hx hb dC2_facing_17 (by decide) (fun c6 => ?_) (fun c6 => ?_)
    · have h := (if_pos c6).symm.trans h
      exact wC2_facing_b37 C hK hP hend _ _ _ (lv_sub hl [1, 2, 3] rfl) h
    · have h := (if_neg c6).symm.trans h
      refine lv_aload_n hx hb dC2_facing_20 rfl (lv_at hl 1 rfl) ?_
      refine va_get (D := (dC, dI)) (ci := 2) (v := .ref (ad 1)) (C := RC2) (T := TC2) (N := 10) hx hb hts inC2 hown hK hP 2 rfl rfl 0 (by decide) (hts _ mw_57) (fun _ h9 => h9) rfl dC2_facing_21 ?_
      refine lv_aload_n hx hb dC2_facing_24 rfl (lv_at hl 1 rfl) ?_
      refine lv_iload_n hx hb dC2_facing_25 rfl (lv_at hl 2 rfl) ?_
      refine lv_iload hx hb dC2_facing_26 (lv_at hl 0 rfl) ?_
      obtain ⟨v4, ev4, h⟩ := Option.bind_eq_some_iff.mp h
      refine gcall_r (b := ad 2) (As := [.int (x1), .int (y2)]) (rest := [.ref (ad 1)]) C hK hP (ci := 2) (q0 := 2) rfl rfl (kC2_parameterAt l dC dI ad cA σ x1 y2 v4 ev4) (cwV 2 hts (gw mw_100 mw_101 mw_102 mw_40 mw_103) rfl rfl rfl hdC2_parameterAt ⟨Nat.le_of_ble_eq_true rfl, Nat.le_of_ble_eq_true rfl⟩) rfl hl.1 rfl (Nat.le_of_ble_eq_true rfl) dC2_facing_28 ⟨Nat.le_refl _, Nat.le_refl _⟩ ?_
      obtain ⟨v5, ev5, h⟩ := Option.bind_eq_some_iff.mp h
      refine gcall_r (b := ad 1) (As := [.int (v4)]) (rest := []) C hK hP (ci := 1) (q0 := 1) rfl rfl (kC1_elementOf l dC dI ad cA σ v4 v5 ev5) (cwV 1 hts (gw mw_225 mw_226 mw_227 mw_7 mw_228) rfl rfl rfl hdC1_elementOf ⟨Nat.le_of_ble_eq_true rfl, Nat.le_of_ble_eq_true rfl⟩) rfl hl.1 rfl (Nat.le_of_ble_eq_true rfl) dC2_facing_31 ⟨Nat.le_refl _, Nat.le_refl _⟩ ?_
      refine lv_goto (tgt := 43) hx hb dC2_facing_34 (by decide) ?_
      exact hend _ _ _ (Option.some.inj h) dC2_facing_43
set_option maxHeartbeats 4000000 in
set_option maxRecDepth 100000 in
theorem kC2_facing (l : Launch) (dC : Nat → ClassId) (dI : Nat → Nat → Nat) (ad : Nat → Nat) (cA : Nat → ClassId) (σ : xSt) (x1 : Int32) (x2 : Int32) (x3 : Int32) (r : Int32) (h : fC2_facing σ x1 x2 x3 = some r) : Met l yC2_facing wsC2_facing rm_C2_facing (va_Pc [.ref (ad 2), .int (x1), .int (x2), .int (x3)] (fun U => va_P (dC, dI) vwC (xW ad cA σ) U.heap ∧ va_K (dC, dI) vwC (xT cA) U)) (vp_Si (fun v => v = r)) 0 0 (fun _ => False) := by
  refine Met.ofW (cc := cC2_facing) (maxL := 5) (ret := (some .int)) (by decide) rfl ?_
  intro p e s m args below meth c s₁ B hml hv
  obtain ⟨rfl, hP, hK⟩ := hv
  have hr := B.returns
  have hlocks := B.notSynchronized
  have hl := lv_entry ([.ref (ad 2), .int (x1), .int (x2), .int (x3)]) (n := 5) (Nat.le_of_ble_eq_true rfl)
  rw [lg_entry_eq]
  exact wC2_facing ⟨B.exec, B.bytes, hml, findClass_of_methodNamed B.named, fun w h => atoms_spec (ws := wsC2_facing) B.pre w (List.mem_cons_of_mem _ h)⟩ hK hP (fun v pc ls hv hd => W.iret (v := v) B.exec B.bytes hr (fun t ht hW => ⟨v, rfl, hv, ht⟩) (fun q hq => absurd hq List.not_mem_nil) hd) _ hl h
abbrev rm_C3_widthOf : Room := { frames := 0, cells := 0, slots := 0, locals := 0 }
def fC3_widthOf (σ : xSt) (x1 : Int32) : Option Int32 :=
  if x1 < 0 ∨ 5 ≤ x1.toNatClampNeg then none else
  some (σ.1 19 x1.toNatClampNeg)
set_option maxHeartbeats 4000000 in
set_option maxRecDepth 100000 in
theorem wC3_widthOf {p : Program} {l : Launch} {e : Env} {s : State} {m : MethodId} {args : Array Value} {below : List Frame} {meth : Method} {c : Code} {Q : State → Prop} {dC : Nat → ClassId} {dI : Nat → Nat → Nat} {ad : Nat → Nat} {cA : Nat → ClassId} {r : Int32} {H : Heap} {locs : List Loc} {σ : xSt} (C : CallFix p m c cC3_widthOf 2 s args wAll RC3) (hK : va_K (dC, dI) vwC (xT cA) s) (hP : va_P (dC, dI) vwC (xW ad cA σ) H) (hend : ∀ (v : Int32) (pc : Nat) (ls : Array Slot), v = r → decode cC3_widthOf pc = .ok (.ireturn, 1) → W p l e rm_C3_widthOf s m args below meth c H locs 0 0 Q (F0 m pc ls [.int v])) {x1 : Int32} (ls : Array Slot) (hl : lv_has ls 2 [(0, .ref (ad 3)), (1, .int (x1))]) (h : fC3_widthOf σ x1 = some r) : W p l e rm_C3_widthOf s m args below meth c H locs 0 0 Q (F0 m 0 ls []) := by
  obtain ⟨hx, hb, hml, hown, hts⟩ := id C
  unfold fC3_widthOf at h
  refine lv_aload_n hx hb dC3_widthOf_0 rfl (lv_at hl 0 rfl) ?_
  refine va_get (D := (dC, dI)) (ci := 3) (v := .ref (ad 19)) (C := RC3) (T := TC3) (N := 6) hx hb hts inC3 hown hK hP 3 rfl rfl 3 (by decide) (hts _ mw_180) (fun _ h9 => h9) rfl dC3_widthOf_1 ?_
  refine lv_iload_n hx hb dC3_widthOf_4 rfl (lv_at hl 1 rfl) ?_
  obtain ⟨b1, h⟩ := gx_nb h
  refine va_iald hx hb hK hP 19 14 rfl rfl b1 dC3_widthOf_5 ?_
  exact hend _ _ _ (Option.some.inj h) dC3_widthOf_6
set_option maxHeartbeats 4000000 in
set_option maxRecDepth 100000 in
theorem kC3_widthOf (l : Launch) (dC : Nat → ClassId) (dI : Nat → Nat → Nat) (ad : Nat → Nat) (cA : Nat → ClassId) (σ : xSt) (x1 : Int32) (r : Int32) (h : fC3_widthOf σ x1 = some r) : Met l yC3_widthOf wsC3_widthOf rm_C3_widthOf (va_Pc [.ref (ad 3), .int (x1)] (fun U => va_P (dC, dI) vwC (xW ad cA σ) U.heap ∧ va_K (dC, dI) vwC (xT cA) U)) (vp_Si (fun v => v = r)) 0 0 (fun _ => False) := by
  refine Met.ofW (cc := cC3_widthOf) (maxL := 2) (ret := (some .int)) (by decide) rfl ?_
  intro p e s m args below meth c s₁ B hml hv
  obtain ⟨rfl, hP, hK⟩ := hv
  have hr := B.returns
  have hlocks := B.notSynchronized
  have hl := lv_entry ([.ref (ad 3), .int (x1)]) (n := 2) (Nat.le_of_ble_eq_true rfl)
  rw [lg_entry_eq]
  exact wC3_widthOf ⟨B.exec, B.bytes, hml, findClass_of_methodNamed B.named, fun w h => atoms_spec (ws := wsC3_widthOf) B.pre w (List.mem_cons_of_mem _ h)⟩ hK hP (fun v pc ls hv hd => W.iret (v := v) B.exec B.bytes hr (fun t ht hW => ⟨v, rfl, hv, ht⟩) (fun q hq => absurd hq List.not_mem_nil) hd) _ hl h
abbrev rm_C2_hasResult : Room := { frames := 0, cells := 0, slots := 0, locals := 0 }
def fC2_hasResult (σ : xSt) (x1 : Int32) : Option Int32 :=
  if x1 < 0 ∨ 61 ≤ x1.toNatClampNeg then none else
  if (σ.1 12 x1.toNatClampNeg) = (-1 : Int32) then
    some (0 : Int32)
  else
    some (1 : Int32)
set_option maxHeartbeats 4000000 in
set_option maxRecDepth 100000 in
theorem wC2_hasResult {p : Program} {l : Launch} {e : Env} {s : State} {m : MethodId} {args : Array Value} {below : List Frame} {meth : Method} {c : Code} {Q : State → Prop} {dC : Nat → ClassId} {dI : Nat → Nat → Nat} {ad : Nat → Nat} {cA : Nat → ClassId} {r : Int32} {H : Heap} {locs : List Loc} {σ : xSt} (C : CallFix p m c cC2_hasResult 2 s args wAll RC2) (hK : va_K (dC, dI) vwC (xT cA) s) (hP : va_P (dC, dI) vwC (xW ad cA σ) H) (hend : ∀ (v : Int32) (pc : Nat) (ls : Array Slot), v = r → narrow .boolean (.int v) = .int v → decode cC2_hasResult pc = .ok (.ireturn, 1) → W p l e rm_C2_hasResult s m args below meth c H locs 0 0 Q (F0 m pc ls [.int v])) {x1 : Int32} (ls : Array Slot) (hl : lv_has ls 2 [(0, .ref (ad 2)), (1, .int (x1))]) (h : fC2_hasResult σ x1 = some r) : W p l e rm_C2_hasResult s m args below meth c H locs 0 0 Q (F0 m 0 ls []) := by
  obtain ⟨hx, hb, hml, hown, hts⟩ := id C
  unfold fC2_hasResult at h
  refine lv_aload_n hx hb dC2_hasResult_0 rfl (lv_at hl 0 rfl) ?_
  refine va_get (D := (dC, dI)) (ci := 2) (v := .ref (ad 12)) (C := RC2) (T := TC2) (N := 10) hx hb hts inC2 hown hK hP 2 rfl rfl 4 (by decide) (hts _ mw_46) (fun _ h9 => h9) rfl dC2_hasResult_1 ?_
  refine lv_iload_n hx hb dC2_hasResult_4 rfl (lv_at hl 1 rfl) ?_
  obtain ⟨b1, h⟩ := gx_nb h
  refine va_iald hx hb hK hP 12 7 rfl rfl b1 dC2_hasResult_5 ?_
  refine lv_iconst (v := (-1 : Int32)) hx hb dC2_hasResult_6 (by decide) ?_
  refine lv_icmp_eq (tgt := 14) hx hb dC2_hasResult_7 (by decide) (fun c2 => ?_) (fun c2 => ?_)
  · have h := (if_pos c2).symm.trans h
    refine lv_iconst (v := (0 : Int32)) hx hb dC2_hasResult_14 (by decide) ?_
    exact hend _ _ _ (Option.some.inj h) rfl dC2_hasResult_15
  · have h := (if_neg c2).symm.trans h
    refine lv_iconst (v := (1 : Int32)) hx hb dC2_hasResult_10 (by decide) ?_
    refine lv_goto (tgt := 15) hx hb dC2_hasResult_11 (by decide) ?_
    exact hend _ _ _ (Option.some.inj h) rfl dC2_hasResult_15
set_option maxHeartbeats 4000000 in
set_option maxRecDepth 100000 in
theorem kC2_hasResult (l : Launch) (dC : Nat → ClassId) (dI : Nat → Nat → Nat) (ad : Nat → Nat) (cA : Nat → ClassId) (σ : xSt) (x1 : Int32) (r : Int32) (h : fC2_hasResult σ x1 = some r) : Met l yC2_hasResult wsC2_hasResult rm_C2_hasResult (va_Pc [.ref (ad 2), .int (x1)] (fun U => va_P (dC, dI) vwC (xW ad cA σ) U.heap ∧ va_K (dC, dI) vwC (xT cA) U)) (vp_Si (fun v => v = r)) 0 0 (fun _ => False) := by
  refine Met.ofW (cc := cC2_hasResult) (maxL := 2) (ret := (some .boolean)) (by decide) rfl ?_
  intro p e s m args below meth c s₁ B hml hv
  obtain ⟨rfl, hP, hK⟩ := hv
  have hr := B.returns
  have hlocks := B.notSynchronized
  have hl := lv_entry ([.ref (ad 2), .int (x1)]) (n := 2) (Nat.le_of_ble_eq_true rfl)
  rw [lg_entry_eq]
  exact wC2_hasResult ⟨B.exec, B.bytes, hml, findClass_of_methodNamed B.named, fun w h => atoms_spec (ws := wsC2_hasResult) B.pre w (List.mem_cons_of_mem _ h)⟩ hK hP (fun v pc ls hv hn hd => W.zret (v := v) B.exec B.bytes hr hn (fun t ht hW => ⟨v, rfl, hv, ht⟩) (fun q hq => absurd hq List.not_mem_nil) hd) _ hl h
abbrev rm_C3_hasResult : Room := { frames := 0, cells := 0, slots := 0, locals := 0 }
def fC3_hasResult (σ : xSt) (x1 : Int32) : Option Int32 :=
  if x1 < 0 ∨ 5 ≤ x1.toNatClampNeg then none else
  if (σ.1 18 x1.toNatClampNeg) = (-1 : Int32) then
    some (0 : Int32)
  else
    some (1 : Int32)
set_option maxHeartbeats 4000000 in
set_option maxRecDepth 100000 in
theorem wC3_hasResult {p : Program} {l : Launch} {e : Env} {s : State} {m : MethodId} {args : Array Value} {below : List Frame} {meth : Method} {c : Code} {Q : State → Prop} {dC : Nat → ClassId} {dI : Nat → Nat → Nat} {ad : Nat → Nat} {cA : Nat → ClassId} {r : Int32} {H : Heap} {locs : List Loc} {σ : xSt} (C : CallFix p m c cC3_hasResult 2 s args wAll RC3) (hK : va_K (dC, dI) vwC (xT cA) s) (hP : va_P (dC, dI) vwC (xW ad cA σ) H) (hend : ∀ (v : Int32) (pc : Nat) (ls : Array Slot), v = r → narrow .boolean (.int v) = .int v → decode cC3_hasResult pc = .ok (.ireturn, 1) → W p l e rm_C3_hasResult s m args below meth c H locs 0 0 Q (F0 m pc ls [.int v])) {x1 : Int32} (ls : Array Slot) (hl : lv_has ls 2 [(0, .ref (ad 3)), (1, .int (x1))]) (h : fC3_hasResult σ x1 = some r) : W p l e rm_C3_hasResult s m args below meth c H locs 0 0 Q (F0 m 0 ls []) := by
  obtain ⟨hx, hb, hml, hown, hts⟩ := id C
  unfold fC3_hasResult at h
  refine lv_aload_n hx hb dC3_hasResult_0 rfl (lv_at hl 0 rfl) ?_
  refine va_get (D := (dC, dI)) (ci := 3) (v := .ref (ad 18)) (C := RC3) (T := TC3) (N := 6) hx hb hts inC3 hown hK hP 3 rfl rfl 2 (by decide) (hts _ mw_179) (fun _ h9 => h9) rfl dC3_hasResult_1 ?_
  refine lv_iload_n hx hb dC3_hasResult_4 rfl (lv_at hl 1 rfl) ?_
  obtain ⟨b1, h⟩ := gx_nb h
  refine va_iald hx hb hK hP 18 13 rfl rfl b1 dC3_hasResult_5 ?_
  refine lv_iconst (v := (-1 : Int32)) hx hb dC3_hasResult_6 (by decide) ?_
  refine lv_icmp_eq (tgt := 14) hx hb dC3_hasResult_7 (by decide) (fun c2 => ?_) (fun c2 => ?_)
  · have h := (if_pos c2).symm.trans h
    refine lv_iconst (v := (0 : Int32)) hx hb dC3_hasResult_14 (by decide) ?_
    exact hend _ _ _ (Option.some.inj h) rfl dC3_hasResult_15
  · have h := (if_neg c2).symm.trans h
    refine lv_iconst (v := (1 : Int32)) hx hb dC3_hasResult_10 (by decide) ?_
    refine lv_goto (tgt := 15) hx hb dC3_hasResult_11 (by decide) ?_
    exact hend _ _ _ (Option.some.inj h) rfl dC3_hasResult_15
set_option maxHeartbeats 4000000 in
set_option maxRecDepth 100000 in
theorem kC3_hasResult (l : Launch) (dC : Nat → ClassId) (dI : Nat → Nat → Nat) (ad : Nat → Nat) (cA : Nat → ClassId) (σ : xSt) (x1 : Int32) (r : Int32) (h : fC3_hasResult σ x1 = some r) : Met l yC3_hasResult wsC3_hasResult rm_C3_hasResult (va_Pc [.ref (ad 3), .int (x1)] (fun U => va_P (dC, dI) vwC (xW ad cA σ) U.heap ∧ va_K (dC, dI) vwC (xT cA) U)) (vp_Si (fun v => v = r)) 0 0 (fun _ => False) := by
  refine Met.ofW (cc := cC3_hasResult) (maxL := 2) (ret := (some .boolean)) (by decide) rfl ?_
  intro p e s m args below meth c s₁ B hml hv
  obtain ⟨rfl, hP, hK⟩ := hv
  have hr := B.returns
  have hlocks := B.notSynchronized
  have hl := lv_entry ([.ref (ad 3), .int (x1)]) (n := 2) (Nat.le_of_ble_eq_true rfl)
  rw [lg_entry_eq]
  exact wC3_hasResult ⟨B.exec, B.bytes, hml, findClass_of_methodNamed B.named, fun w h => atoms_spec (ws := wsC3_hasResult) B.pre w (List.mem_cons_of_mem _ h)⟩ hK hP (fun v pc ls hv hn hd => W.zret (v := v) B.exec B.bytes hr hn (fun t ht hW => ⟨v, rfl, hv, ht⟩) (fun q hq => absurd hq List.not_mem_nil) hd) _ hl h
abbrev rm_C4_hasShape : Room := { frames := 2, cells := 0, slots := 0, locals := 42 }
def fC4_hasShape (σ : xSt) (x1 : Int32) (x2 : Int32) : Option Int32 :=
  (fC2_functionOf σ x1).bind fun v1 =>
  if v1 = (-1 : Int32) then
    some (0 : Int32)
  else
    (fC2_widthOf σ v1).bind fun v2 =>
    (fC3_widthOf σ x2).bind fun v3 =>
    if v2 = v3 then
      (fC2_hasResult σ v1).bind fun v4 =>
      (fC3_hasResult σ x2).bind fun v5 =>
      if v4 = v5 then
        some (1 : Int32)
      else
        some (0 : Int32)
    else
      some (0 : Int32)
set_option maxHeartbeats 4000000 in
set_option maxRecDepth 100000 in
theorem wC4_hasShape {p : Program} {l : Launch} {e : Env} {s : State} {m : MethodId} {args : Array Value} {below : List Frame} {meth : Method} {c : Code} {Q : State → Prop} {dC : Nat → ClassId} {dI : Nat → Nat → Nat} {ad : Nat → Nat} {cA : Nat → ClassId} {r : Int32} {H : Heap} {locs : List Loc} {σ : xSt} (C : CallFix p m c cC4_hasShape 4 s args wAll RC4) (hK : va_K (dC, dI) vwC (xT cA) s) (hP : va_P (dC, dI) vwC (xW ad cA σ) H) (hend : ∀ (v : Int32) (pc : Nat) (ls : Array Slot), v = r → narrow .boolean (.int v) = .int v → decode cC4_hasShape pc = .ok (.ireturn, 1) → W p l e rm_C4_hasShape s m args below meth c H locs 0 0 Q (F0 m pc ls [.int v])) {x1 : Int32} {x2 : Int32} (ls : Array Slot) (hl : lv_has ls 4 [(0, .ref (ad 4)), (1, .int (x1)), (2, .int (x2))]) (h : fC4_hasShape σ x1 x2 = some r) : W p l e rm_C4_hasShape s m args below meth c H locs 0 0 Q (F0 m 0 ls []) := by
  obtain ⟨hx, hb, hml, hown, hts⟩ := id C
  unfold fC4_hasShape at h
  refine lv_aload_n hx hb dC4_hasShape_0 rfl (lv_at hl 0 rfl) ?_
  refine va_get (D := (dC, dI)) (ci := 4) (v := .ref (ad 2)) (C := RC4) (T := TC4) (N := 10) hx hb hts inC4 hown hK hP 4 rfl rfl 1 (by decide) (hts _ mw_206) (fun _ h9 => h9) rfl dC4_hasShape_1 ?_
  refine lv_iload_n hx hb dC4_hasShape_4 rfl (lv_at hl 1 rfl) ?_
  obtain ⟨v1, ev1, h⟩ := Option.bind_eq_some_iff.mp h
  refine gcall_r (b := ad 2) (As := [.int (x1)]) (rest := []) C hK hP (ci := 2) (q0 := 2) rfl rfl (kC2_functionOf l dC dI ad cA σ x1 v1 ev1) (cwV 1 hts (gw mw_233 mw_162 mw_163 mw_40 mw_164) rfl rfl rfl hdC2_functionOf ⟨Nat.le_of_ble_eq_true rfl, Nat.le_of_ble_eq_true rfl⟩) rfl hl.1 rfl (Nat.le_of_ble_eq_true rfl) dC4_hasShape_5 ⟨Nat.le_refl _, Nat.le_refl _⟩ ?_
  refine lv_istore_n (lv' := [(3, .int (v1)), (0, .ref (ad 4)), (1, .int (x1)), (2, .int (x2))]) hx hb dC4_hasShape_8 rfl hl (by decide) rfl (fun ls hl => ?_)
  refine lv_iload_n hx hb dC4_hasShape_9 rfl (lv_at hl 0 rfl) ?_
  refine lv_iconst (v := (-1 : Int32)) hx hb dC4_hasShape_10 (by decide) ?_
  refine lv_icmp_ne (tgt := 16) hx hb dC4_hasShape_11 (by decide) (fun c8 => ?_) (fun c8 => ?_)
  · have h := (if_neg c8).symm.trans h
    refine lv_aload_n hx hb dC4_hasShape_16 rfl (lv_at hl 1 rfl) ?_
    refine va_get (D := (dC, dI)) (ci := 4) (v := .ref (ad 2)) (C := RC4) (T := TC4) (N := 10) hx hb hts inC4 hown hK hP 4 rfl rfl 1 (by decide) (hts _ mw_206) (fun _ h9 => h9) rfl dC4_hasShape_17 ?_
    refine lv_iload_n hx hb dC4_hasShape_20 rfl (lv_at hl 0 rfl) ?_
    obtain ⟨v2, ev2, h⟩ := Option.bind_eq_some_iff.mp h
    refine gcall_r (b := ad 2) (As := [.int (v1)]) (rest := []) C hK hP (ci := 2) (q0 := 2) rfl rfl (kC2_widthOf l dC dI ad cA σ v1 v2 ev2) (cwV 1 hts (gw mw_212 mw_213 mw_214 mw_40 mw_215) rfl rfl rfl hdC2_widthOf ⟨Nat.le_of_ble_eq_true rfl, Nat.le_of_ble_eq_true rfl⟩) rfl hl.1 rfl (Nat.le_of_ble_eq_true rfl) dC4_hasShape_21 ⟨Nat.le_refl _, Nat.le_refl _⟩ ?_
    refine lv_aload_n hx hb dC4_hasShape_24 rfl (lv_at hl 1 rfl) ?_
    refine va_get (D := (dC, dI)) (ci := 4) (v := .ref (ad 3)) (C := RC4) (T := TC4) (N := 10) hx hb hts inC4 hown hK hP 4 rfl rfl 2 (by decide) (hts _ mw_216) (fun _ h9 => h9) rfl dC4_hasShape_25 ?_
    refine lv_iload_n hx hb dC4_hasShape_28 rfl (lv_at hl 3 rfl) ?_
    obtain ⟨v3, ev3, h⟩ := Option.bind_eq_some_iff.mp h
    refine gcall_r (b := ad 3) (As := [.int (x2)]) (rest := [.int (v2)]) C hK hP (ci := 3) (q0 := 3) rfl rfl (kC3_widthOf l dC dI ad cA σ x2 v3 ev3) (cwV 1 hts (gw mw_234 mw_235 mw_236 mw_184 mw_237) rfl rfl rfl hdC3_widthOf ⟨Nat.le_of_ble_eq_true rfl, Nat.le_of_ble_eq_true rfl⟩) rfl hl.1 rfl (Nat.le_of_ble_eq_true rfl) dC4_hasShape_29 ⟨Nat.le_refl _, Nat.le_refl _⟩ ?_
    refine lv_icmp_ne (tgt := 58) hx hb dC4_hasShape_32 (by decide) (fun c7 => ?_) (fun c7 => ?_)
    · have h := (if_neg c7).symm.trans h
      refine lv_iconst (v := (0 : Int32)) hx hb dC4_hasShape_58 (by decide) ?_
      exact hend _ _ _ (Option.some.inj h) rfl dC4_hasShape_59
    · have h := (if_pos c7).symm.trans h
      refine lv_aload_n hx hb dC4_hasShape_35 rfl (lv_at hl 1 rfl) ?_
      refine va_get (D := (dC, dI)) (ci := 4) (v := .ref (ad 2)) (C := RC4) (T := TC4) (N := 10) hx hb hts inC4 hown hK hP 4 rfl rfl 1 (by decide) (hts _ mw_206) (fun _ h9 => h9) rfl dC4_hasShape_36 ?_
      refine lv_iload_n hx hb dC4_hasShape_39 rfl (lv_at hl 0 rfl) ?_
      obtain ⟨v4, ev4, h⟩ := Option.bind_eq_some_iff.mp h
      refine gcall_r (b := ad 2) (As := [.int (v1)]) (rest := []) C hK hP (ci := 2) (q0 := 2) rfl rfl (kC2_hasResult l dC dI ad cA σ v1 v4 ev4) (cwV 1 hts (gw mw_238 mw_239 mw_240 mw_40 mw_241) rfl rfl rfl hdC2_hasResult ⟨Nat.le_of_ble_eq_true rfl, Nat.le_of_ble_eq_true rfl⟩) rfl hl.1 rfl (Nat.le_of_ble_eq_true rfl) dC4_hasShape_40 ⟨Nat.le_refl _, Nat.le_refl _⟩ ?_
      refine lv_aload_n hx hb dC4_hasShape_43 rfl (lv_at hl 1 rfl) ?_
      refine va_get (D := (dC, dI)) (ci := 4) (v := .ref (ad 3)) (C := RC4) (T := TC4) (N := 10) hx hb hts inC4 hown hK hP 4 rfl rfl 2 (by decide) (hts _ mw_216) (fun _ h9 => h9) rfl dC4_hasShape_44 ?_
      refine lv_iload_n hx hb dC4_hasShape_47 rfl (lv_at hl 3 rfl) ?_
      obtain ⟨v5, ev5, h⟩ := Option.bind_eq_some_iff.mp h
      refine gcall_r (b := ad 3) (As := [.int (x2)]) (rest := [.int (v4)]) C hK hP (ci := 3) (q0 := 3) rfl rfl (kC3_hasResult l dC dI ad cA σ x2 v5 ev5) (cwV 1 hts (gw mw_242 mw_243 mw_244 mw_184 mw_245) rfl rfl rfl hdC3_hasResult ⟨Nat.le_of_ble_eq_true rfl, Nat.le_of_ble_eq_true rfl⟩) rfl hl.1 rfl (Nat.le_of_ble_eq_true rfl) dC4_hasShape_48 ⟨Nat.le_refl _, Nat.le_refl _⟩ ?_
      refine lv_icmp_ne (tgt := 58) hx hb dC4_hasShape_51 (by decide) (fun c6 => ?_) (fun c6 => ?_)
      · have h := (if_neg c6).symm.trans h
        refine lv_iconst (v := (0 : Int32)) hx hb dC4_hasShape_58 (by decide) ?_
        exact hend _ _ _ (Option.some.inj h) rfl dC4_hasShape_59
      · have h := (if_pos c6).symm.trans h
        refine lv_iconst (v := (1 : Int32)) hx hb dC4_hasShape_54 (by decide) ?_
        refine lv_goto (tgt := 59) hx hb dC4_hasShape_55 (by decide) ?_
        exact hend _ _ _ (Option.some.inj h) rfl dC4_hasShape_59
  · have h := (if_pos c8).symm.trans h
    refine lv_iconst (v := (0 : Int32)) hx hb dC4_hasShape_14 (by decide) ?_
    exact hend _ _ _ (Option.some.inj h) rfl dC4_hasShape_15
set_option maxHeartbeats 4000000 in
set_option maxRecDepth 100000 in
theorem kC4_hasShape (l : Launch) (dC : Nat → ClassId) (dI : Nat → Nat → Nat) (ad : Nat → Nat) (cA : Nat → ClassId) (σ : xSt) (x1 : Int32) (x2 : Int32) (r : Int32) (h : fC4_hasShape σ x1 x2 = some r) : Met l yC4_hasShape wsC4_hasShape rm_C4_hasShape (va_Pc [.ref (ad 4), .int (x1), .int (x2)] (fun U => va_P (dC, dI) vwC (xW ad cA σ) U.heap ∧ va_K (dC, dI) vwC (xT cA) U)) (vp_Si (fun v => v = r)) 0 0 (fun _ => False) := by
  refine Met.ofW (cc := cC4_hasShape) (maxL := 4) (ret := (some .boolean)) (by decide) rfl ?_
  intro p e s m args below meth c s₁ B hml hv
  obtain ⟨rfl, hP, hK⟩ := hv
  have hr := B.returns
  have hlocks := B.notSynchronized
  have hl := lv_entry ([.ref (ad 4), .int (x1), .int (x2)]) (n := 4) (Nat.le_of_ble_eq_true rfl)
  rw [lg_entry_eq]
  exact wC4_hasShape ⟨B.exec, B.bytes, hml, findClass_of_methodNamed B.named, fun w h => atoms_spec (ws := wsC4_hasShape) B.pre w (List.mem_cons_of_mem _ h)⟩ hK hP (fun v pc ls hv hn hd => W.zret (v := v) B.exec B.bytes hr hn (fun t ht hW => ⟨v, rfl, hv, ht⟩) (fun q hq => absurd hq List.not_mem_nil) hd) _ hl h
abbrev rm_C4_couldBeMeant : Room := { frames := 3, cells := 0, slots := 0, locals := 65 }
def fC4_couldBeMeant_b97 (k51 : Int32 → Int32 → Int32 → Option Int32) (σ : xSt) (x1 : Int32) (x2 : Int32) (x4 : Int32) : Option Int32 :=
  k51 x1 x2 (x4 + (1 : Int32))
set_option maxHeartbeats 4000000 in
set_option maxRecDepth 100000 in
theorem wC4_couldBeMeant_b97 {p : Program} {l : Launch} {e : Env} {s : State} {m : MethodId} {args : Array Value} {below : List Frame} {meth : Method} {c : Code} {Q : State → Prop} {dC : Nat → ClassId} {dI : Nat → Nat → Nat} {ad : Nat → Nat} {cA : Nat → ClassId} {r : Int32} {H : Heap} {locs : List Loc} {σ : xSt} (C : CallFix p m c cC4_couldBeMeant 5 s args wAll RC4) (hK : va_K (dC, dI) vwC (xT cA) s) (hP : va_P (dC, dI) vwC (xW ad cA σ) H) (hend : ∀ (v : Int32) (pc : Nat) (ls : Array Slot), v = r → narrow .boolean (.int v) = .int v → decode cC4_couldBeMeant pc = .ok (.ireturn, 1) → W p l e rm_C4_couldBeMeant s m args below meth c H locs 0 0 Q (F0 m pc ls [.int v])) {k51 : Int32 → Int32 → Int32 → Option Int32} (hk51 : ∀ (x1 : Int32) (x2 : Int32) (x4 : Int32) (ls : Array Slot), lv_has ls 5 [(0, .ref (ad 4)), (1, .int (x1)), (2, .int (x2)), (4, .int (x4))] → k51 x1 x2 x4 = some r → W p l e rm_C4_couldBeMeant s m args below meth c H locs 0 0 Q (F0 m 51 ls [])) :
    ∀ (x1 : Int32) (x2 : Int32) (x4 : Int32) (ls : Array Slot), lv_has ls 5 [(0, .ref (ad 4)), (1, .int (x1)), (2, .int (x2)), (4, .int (x4))] → fC4_couldBeMeant_b97 k51 σ x1 x2 x4 = some r → W p l e rm_C4_couldBeMeant s m args below meth c H locs 0 0 Q (F0 m 97 ls []) := by
  obtain ⟨hx, hb, hml, hown, hts⟩ := id C
  intro x1 x2 x4 ls hl h
  unfold fC4_couldBeMeant_b97 at h
  refine lv_iinc (v := x4 + (1 : Int32)) (lv' := [(4, .int (x4 + (1 : Int32))), (0, .ref (ad 4)), (1, .int (x1)), (2, .int (x2))]) hx hb dC4_couldBeMeant_97 hl (k := 3) rfl rfl (by decide) rfl (fun ls hl => ?_)
  refine lv_goto (tgt := 51) hx hb dC4_couldBeMeant_100 (by decide) ?_
  exact hk51 _ _ _ _ (lv_sub hl [1, 2, 3, 0] rfl) h
def fC4_couldBeMeant_b51 (σ : xSt) : Nat → Int32 → Int32 → Int32 → Option Int32
  | 0, _, _, _ => none
  | n + 1, x1, x2, x4 =>
    (fC3_size σ).bind fun v4 =>
    if v4 ≤ x4 then
      some (1 : Int32)
    else
      (fC3_isLambda σ x4).bind fun v5 =>
      if v5 = 0 then
        fC4_couldBeMeant_b97 (fC4_couldBeMeant_b51 σ n) σ x1 x2 x4
      else
        (fC2_facing σ x1 x4 x2).bind fun v6 =>
        (fC4_hasShape σ v6 x4).bind fun v7 =>
        if v7 = 0 then
          some (0 : Int32)
        else
          fC4_couldBeMeant_b97 (fC4_couldBeMeant_b51 σ n) σ x1 x2 x4
set_option maxHeartbeats 4000000 in
set_option maxRecDepth 100000 in
theorem wC4_couldBeMeant_b51 {p : Program} {l : Launch} {e : Env} {s : State} {m : MethodId} {args : Array Value} {below : List Frame} {meth : Method} {c : Code} {Q : State → Prop} {dC : Nat → ClassId} {dI : Nat → Nat → Nat} {ad : Nat → Nat} {cA : Nat → ClassId} {r : Int32} {H : Heap} {locs : List Loc} {σ : xSt} (C : CallFix p m c cC4_couldBeMeant 5 s args wAll RC4) (hK : va_K (dC, dI) vwC (xT cA) s) (hP : va_P (dC, dI) vwC (xW ad cA σ) H) (hend : ∀ (v : Int32) (pc : Nat) (ls : Array Slot), v = r → narrow .boolean (.int v) = .int v → decode cC4_couldBeMeant pc = .ok (.ireturn, 1) → W p l e rm_C4_couldBeMeant s m args below meth c H locs 0 0 Q (F0 m pc ls [.int v])) :
    ∀ (n : Nat) (x1 : Int32) (x2 : Int32) (x4 : Int32) (ls : Array Slot), lv_has ls 5 [(0, .ref (ad 4)), (1, .int (x1)), (2, .int (x2)), (4, .int (x4))] → fC4_couldBeMeant_b51 σ n x1 x2 x4 = some r → W p l e rm_C4_couldBeMeant s m args below meth c H locs 0 0 Q (F0 m 51 ls []) := by
  obtain ⟨hx, hb, hml, hown, hts⟩ := id C
  intro n
  induction n with
  | zero =>
    intro x1 x2 x4 ls hl h
    rw [fC4_couldBeMeant_b51] at h
    cases h
  | succ n ih =>
    intro x1 x2 x4 ls hl h
    rw [fC4_couldBeMeant_b51] at h
    refine lv_iload hx hb dC4_couldBeMeant_51 (lv_at hl 3 rfl) ?_
    refine lv_aload_n hx hb dC4_couldBeMeant_53 rfl (lv_at hl 0 rfl) ?_
    refine va_get (D := (dC, dI)) (ci := 4) (v := .ref (ad 3)) (C := RC4) (T := TC4) (N := 10) hx hb hts inC4 hown hK hP 4 rfl rfl 2 (by decide) (hts _ mw_216) (fun _ h9 => h9) rfl dC4_couldBeMeant_54 ?_
    obtain ⟨v4, ev4, h⟩ := Option.bind_eq_some_iff.mp h
    refine gcall_r (b := ad 3) (As := []) (rest := [.int (x4)]) C hK hP (ci := 3) (q0 := 3) rfl rfl (kC3_size l dC dI ad cA σ v4 ev4) (cwV 0 hts (gw mw_217 mw_218 mw_219 mw_184 mw_220) rfl rfl rfl hdC3_size ⟨Nat.le_of_ble_eq_true rfl, Nat.le_of_ble_eq_true rfl⟩) rfl hl.1 rfl (Nat.le_of_ble_eq_true rfl) dC4_couldBeMeant_57 ⟨Nat.le_refl _, Nat.le_refl _⟩ ?_
    refine lv_icmp_ge (tgt := 103) hx hb dC4_couldBeMeant_60 (by decide) (fun c10 => ?_) (fun c10 => ?_)
    · have h := (if_pos c10).symm.trans h
      refine lv_iconst (v := (1 : Int32)) hx hb dC4_couldBeMeant_103 (by decide) ?_
      exact hend _ _ _ (Option.some.inj h) rfl dC4_couldBeMeant_104
    · have h := (if_neg c10).symm.trans h
      refine lv_aload_n hx hb dC4_couldBeMeant_63 rfl (lv_at hl 0 rfl) ?_
      refine va_get (D := (dC, dI)) (ci := 4) (v := .ref (ad 3)) (C := RC4) (T := TC4) (N := 10) hx hb hts inC4 hown hK hP 4 rfl rfl 2 (by decide) (hts _ mw_216) (fun _ h9 => h9) rfl dC4_couldBeMeant_64 ?_
      refine lv_iload hx hb dC4_couldBeMeant_67 (lv_at hl 3 rfl) ?_
      obtain ⟨v5, ev5, h⟩ := Option.bind_eq_some_iff.mp h
      refine gcall_r (b := ad 3) (As := [.int (x4)]) (rest := []) C hK hP (ci := 3) (q0 := 3) rfl rfl (kC3_isLambda l dC dI ad cA σ x4 v5 ev5) (cwV 1 hts (gw mw_221 mw_222 mw_223 mw_184 mw_224) rfl rfl rfl hdC3_isLambda ⟨Nat.le_of_ble_eq_true rfl, Nat.le_of_ble_eq_true rfl⟩) rfl hl.1 rfl (Nat.le_of_ble_eq_true rfl) dC4_couldBeMeant_69 ⟨Nat.le_refl _, Nat.le_refl _⟩ ?_
      refine lv_if_eq (tgt := 97) hx hb dC4_couldBeMeant_72 (by decide) (fun c9 => ?_) (fun c9 => ?_)
      · have h := (if_pos c9).symm.trans h
        exact wC4_couldBeMeant_b97 C hK hP hend ih _ _ _ _ (lv_sub hl [0, 1, 2, 3] rfl) h
      · have h := (if_neg c9).symm.trans h
        refine lv_aload_n hx hb dC4_couldBeMeant_75 rfl (lv_at hl 0 rfl) ?_
        refine lv_aload_n hx hb dC4_couldBeMeant_76 rfl (lv_at hl 0 rfl) ?_
        refine va_get (D := (dC, dI)) (ci := 4) (v := .ref (ad 2)) (C := RC4) (T := TC4) (N := 10) hx hb hts inC4 hown hK hP 4 rfl rfl 1 (by decide) (hts _ mw_206) (fun _ h9 => h9) rfl dC4_couldBeMeant_77 ?_
        refine lv_iload_n hx hb dC4_couldBeMeant_80 rfl (lv_at hl 1 rfl) ?_
        refine lv_iload hx hb dC4_couldBeMeant_81 (lv_at hl 3 rfl) ?_
        refine lv_iload_n hx hb dC4_couldBeMeant_83 rfl (lv_at hl 2 rfl) ?_
        obtain ⟨v6, ev6, h⟩ := Option.bind_eq_some_iff.mp h
        refine gcall_r (b := ad 2) (As := [.int (x1), .int (x4), .int (x2)]) (rest := [.ref (ad 4)]) C hK hP (ci := 2) (q0 := 2) rfl rfl (kC2_facing l dC dI ad cA σ x1 x4 x2 v6 ev6) (cwV 3 hts (gw mw_229 mw_230 mw_231 mw_40 mw_232) rfl rfl rfl hdC2_facing ⟨Nat.le_of_ble_eq_true rfl, Nat.le_of_ble_eq_true rfl⟩) rfl hl.1 rfl (Nat.le_of_ble_eq_true rfl) dC4_couldBeMeant_84 ⟨Nat.le_refl _, Nat.le_refl _⟩ ?_
        refine lv_iload hx hb dC4_couldBeMeant_87 (lv_at hl 3 rfl) ?_
        obtain ⟨v7, ev7, h⟩ := Option.bind_eq_some_iff.mp h
        refine gcall_r (b := ad 4) (As := [.int (v6), .int (x4)]) (rest := []) C hK hP (ci := 4) (q0 := 4) rfl rfl (kC4_hasShape l dC dI ad cA σ v6 x4 v7 ev7) (cwV 2 hts (gw mw_246 mw_247 mw_248 mw_204 mw_249) rfl rfl rfl hdC4_hasShape ⟨Nat.le_of_ble_eq_true rfl, Nat.le_of_ble_eq_true rfl⟩) rfl hl.1 rfl (Nat.le_of_ble_eq_true rfl) dC4_couldBeMeant_89 ⟨Nat.le_refl _, Nat.le_refl _⟩ ?_
        refine lv_if_ne (tgt := 97) hx hb dC4_couldBeMeant_92 (by decide) (fun c8 => ?_) (fun c8 => ?_)
        · have h := (if_neg c8).symm.trans h
          exact wC4_couldBeMeant_b97 C hK hP hend ih _ _ _ _ (lv_sub hl [0, 1, 2, 3] rfl) h
        · have h := (if_pos c8).symm.trans h
          refine lv_iconst (v := (0 : Int32)) hx hb dC4_couldBeMeant_95 (by decide) ?_
          exact hend _ _ _ (Option.some.inj h) rfl dC4_couldBeMeant_96
def fC4_couldBeMeant_b48 (σ : xSt) (x1 : Int32) (x2 : Int32) : Option Int32 :=
  fC4_couldBeMeant_b51 σ gF x1 x2 (0 : Int32)
set_option maxHeartbeats 4000000 in
set_option maxRecDepth 100000 in
theorem wC4_couldBeMeant_b48 {p : Program} {l : Launch} {e : Env} {s : State} {m : MethodId} {args : Array Value} {below : List Frame} {meth : Method} {c : Code} {Q : State → Prop} {dC : Nat → ClassId} {dI : Nat → Nat → Nat} {ad : Nat → Nat} {cA : Nat → ClassId} {r : Int32} {H : Heap} {locs : List Loc} {σ : xSt} (C : CallFix p m c cC4_couldBeMeant 5 s args wAll RC4) (hK : va_K (dC, dI) vwC (xT cA) s) (hP : va_P (dC, dI) vwC (xW ad cA σ) H) (hend : ∀ (v : Int32) (pc : Nat) (ls : Array Slot), v = r → narrow .boolean (.int v) = .int v → decode cC4_couldBeMeant pc = .ok (.ireturn, 1) → W p l e rm_C4_couldBeMeant s m args below meth c H locs 0 0 Q (F0 m pc ls [.int v])) :
    ∀ (x1 : Int32) (x2 : Int32) (ls : Array Slot), lv_has ls 5 [(0, .ref (ad 4)), (1, .int (x1)), (2, .int (x2))] → fC4_couldBeMeant_b48 σ x1 x2 = some r → W p l e rm_C4_couldBeMeant s m args below meth c H locs 0 0 Q (F0 m 48 ls []) := by
  obtain ⟨hx, hb, hml, hown, hts⟩ := id C
  intro x1 x2 ls hl h
  unfold fC4_couldBeMeant_b48 at h
  refine lv_iconst (v := (0 : Int32)) hx hb dC4_couldBeMeant_48 (by decide) ?_
  refine lv_istore (lv' := [(4, .int ((0 : Int32))), (0, .ref (ad 4)), (1, .int (x1)), (2, .int (x2))]) hx hb dC4_couldBeMeant_49 hl (by decide) rfl (fun ls hl => ?_)
  exact wC4_couldBeMeant_b51 C hK hP hend _ _ _ _ _ (lv_sub hl [1, 2, 3, 0] rfl) h
def fC4_couldBeMeant (σ : xSt) (x1 : Int32) : Option Int32 :=
  (fC2_isVaried σ x1).bind fun v1 =>
  (fC2_widthOf σ x1).bind fun v2 =>
  (fC3_size σ).bind fun v3 =>
  if v2 = v3 then
    fC4_couldBeMeant_b48 σ x1 v1
  else
    if v1 = 0 then
      some (0 : Int32)
    else
      (fC3_size σ).bind fun v11 =>
      if v2 ≤ (v11 + (1 : Int32)) then
        fC4_couldBeMeant_b48 σ x1 v1
      else
        some (0 : Int32)
set_option maxHeartbeats 4000000 in
set_option maxRecDepth 100000 in
theorem wC4_couldBeMeant {p : Program} {l : Launch} {e : Env} {s : State} {m : MethodId} {args : Array Value} {below : List Frame} {meth : Method} {c : Code} {Q : State → Prop} {dC : Nat → ClassId} {dI : Nat → Nat → Nat} {ad : Nat → Nat} {cA : Nat → ClassId} {r : Int32} {H : Heap} {locs : List Loc} {σ : xSt} (C : CallFix p m c cC4_couldBeMeant 5 s args wAll RC4) (hK : va_K (dC, dI) vwC (xT cA) s) (hP : va_P (dC, dI) vwC (xW ad cA σ) H) (hend : ∀ (v : Int32) (pc : Nat) (ls : Array Slot), v = r → narrow .boolean (.int v) = .int v → decode cC4_couldBeMeant pc = .ok (.ireturn, 1) → W p l e rm_C4_couldBeMeant s m args below meth c H locs 0 0 Q (F0 m pc ls [.int v])) {x1 : Int32} (ls : Array Slot) (hl : lv_has ls 5 [(0, .ref (ad 4)), (1, .int (x1))]) (h : fC4_couldBeMeant σ x1 = some r) : W p l e rm_C4_couldBeMeant s m args below meth c H locs 0 0 Q (F0 m 0 ls []) := by
  obtain ⟨hx, hb, hml, hown, hts⟩ := id C
  unfold fC4_couldBeMeant at h
  refine lv_aload_n hx hb dC4_couldBeMeant_0 rfl (lv_at hl 0 rfl) ?_
  refine va_get (D := (dC, dI)) (ci := 4) (v := .ref (ad 2)) (C := RC4) (T := TC4) (N := 10) hx hb hts inC4 hown hK hP 4 rfl rfl 1 (by decide) (hts _ mw_206) (fun _ h9 => h9) rfl dC4_couldBeMeant_1 ?_
  refine lv_iload_n hx hb dC4_couldBeMeant_4 rfl (lv_at hl 1 rfl) ?_
  obtain ⟨v1, ev1, h⟩ := Option.bind_eq_some_iff.mp h
  refine gcall_r (b := ad 2) (As := [.int (x1)]) (rest := []) C hK hP (ci := 2) (q0 := 2) rfl rfl (kC2_isVaried l dC dI ad cA σ x1 v1 ev1) (cwV 1 hts (gw mw_211 mw_97 mw_98 mw_40 mw_99) rfl rfl rfl hdC2_isVaried ⟨Nat.le_of_ble_eq_true rfl, Nat.le_of_ble_eq_true rfl⟩) rfl hl.1 rfl (Nat.le_of_ble_eq_true rfl) dC4_couldBeMeant_5 ⟨Nat.le_refl _, Nat.le_refl _⟩ ?_
  refine lv_istore_n (lv' := [(2, .int (v1)), (0, .ref (ad 4)), (1, .int (x1))]) hx hb dC4_couldBeMeant_8 rfl hl (by decide) rfl (fun ls hl => ?_)
  refine lv_aload_n hx hb dC4_couldBeMeant_9 rfl (lv_at hl 1 rfl) ?_
  refine va_get (D := (dC, dI)) (ci := 4) (v := .ref (ad 2)) (C := RC4) (T := TC4) (N := 10) hx hb hts inC4 hown hK hP 4 rfl rfl 1 (by decide) (hts _ mw_206) (fun _ h9 => h9) rfl dC4_couldBeMeant_10 ?_
  refine lv_iload_n hx hb dC4_couldBeMeant_13 rfl (lv_at hl 2 rfl) ?_
  obtain ⟨v2, ev2, h⟩ := Option.bind_eq_some_iff.mp h
  refine gcall_r (b := ad 2) (As := [.int (x1)]) (rest := []) C hK hP (ci := 2) (q0 := 2) rfl rfl (kC2_widthOf l dC dI ad cA σ x1 v2 ev2) (cwV 1 hts (gw mw_212 mw_213 mw_214 mw_40 mw_215) rfl rfl rfl hdC2_widthOf ⟨Nat.le_of_ble_eq_true rfl, Nat.le_of_ble_eq_true rfl⟩) rfl hl.1 rfl (Nat.le_of_ble_eq_true rfl) dC4_couldBeMeant_14 ⟨Nat.le_refl _, Nat.le_refl _⟩ ?_
  refine lv_istore_n (lv' := [(3, .int (v2)), (2, .int (v1)), (0, .ref (ad 4)), (1, .int (x1))]) hx hb dC4_couldBeMeant_17 rfl hl (by decide) rfl (fun ls hl => ?_)
  refine lv_iload_n hx hb dC4_couldBeMeant_18 rfl (lv_at hl 0 rfl) ?_
  refine lv_aload_n hx hb dC4_couldBeMeant_19 rfl (lv_at hl 2 rfl) ?_
  refine va_get (D := (dC, dI)) (ci := 4) (v := .ref (ad 3)) (C := RC4) (T := TC4) (N := 10) hx hb hts inC4 hown hK hP 4 rfl rfl 2 (by decide) (hts _ mw_216) (fun _ h9 => h9) rfl dC4_couldBeMeant_20 ?_
  obtain ⟨v3, ev3, h⟩ := Option.bind_eq_some_iff.mp h
  refine gcall_r (b := ad 3) (As := []) (rest := [.int (v2)]) C hK hP (ci := 3) (q0 := 3) rfl rfl (kC3_size l dC dI ad cA σ v3 ev3) (cwV 0 hts (gw mw_217 mw_218 mw_219 mw_184 mw_220) rfl rfl rfl hdC3_size ⟨Nat.le_of_ble_eq_true rfl, Nat.le_of_ble_eq_true rfl⟩) rfl hl.1 rfl (Nat.le_of_ble_eq_true rfl) dC4_couldBeMeant_23 ⟨Nat.le_refl _, Nat.le_refl _⟩ ?_
  refine lv_icmp_eq (tgt := 48) hx hb dC4_couldBeMeant_26 (by decide) (fun c14 => ?_) (fun c14 => ?_)
  · have h := (if_pos c14).symm.trans h
    exact wC4_couldBeMeant_b48 C hK hP hend _ _ _ (lv_sub hl [2, 3, 1] rfl) h
  · have h := (if_neg c14).symm.trans h
    refine lv_iload_n hx hb dC4_couldBeMeant_29 rfl (lv_at hl 1 rfl) ?_
    refine lv_if_eq (tgt := 46) hx hb dC4_couldBeMeant_30 (by decide) (fun c13 => ?_) (fun c13 => ?_)
    · have h := (if_pos c13).symm.trans h
      refine lv_iconst (v := (0 : Int32)) hx hb dC4_couldBeMeant_46 (by decide) ?_
      exact hend _ _ _ (Option.some.inj h) rfl dC4_couldBeMeant_47
    · have h := (if_neg c13).symm.trans h
      refine lv_iload_n hx hb dC4_couldBeMeant_33 rfl (lv_at hl 0 rfl) ?_
      refine lv_aload_n hx hb dC4_couldBeMeant_34 rfl (lv_at hl 2 rfl) ?_
      refine va_get (D := (dC, dI)) (ci := 4) (v := .ref (ad 3)) (C := RC4) (T := TC4) (N := 10) hx hb hts inC4 hown hK hP 4 rfl rfl 2 (by decide) (hts _ mw_216) (fun _ h9 => h9) rfl dC4_couldBeMeant_35 ?_
      obtain ⟨v11, ev11, h⟩ := Option.bind_eq_some_iff.mp h
      refine gcall_r (b := ad 3) (As := []) (rest := [.int (v2)]) C hK hP (ci := 3) (q0 := 3) rfl rfl (kC3_size l dC dI ad cA σ v11 ev11) (cwV 0 hts (gw mw_217 mw_218 mw_219 mw_184 mw_220) rfl rfl rfl hdC3_size ⟨Nat.le_of_ble_eq_true rfl, Nat.le_of_ble_eq_true rfl⟩) rfl hl.1 rfl (Nat.le_of_ble_eq_true rfl) dC4_couldBeMeant_38 ⟨Nat.le_refl _, Nat.le_refl _⟩ ?_
      refine lv_iconst (v := (1 : Int32)) hx hb dC4_couldBeMeant_41 (by decide) ?_
      refine lv_iadd hx hb dC4_couldBeMeant_42 ?_
      refine lv_icmp_le (tgt := 48) hx hb dC4_couldBeMeant_43 (by decide) (fun c12 => ?_) (fun c12 => ?_)
      · have h := (if_pos c12).symm.trans h
        exact wC4_couldBeMeant_b48 C hK hP hend _ _ _ (lv_sub hl [2, 3, 1] rfl) h
      · have h := (if_neg c12).symm.trans h
        refine lv_iconst (v := (0 : Int32)) hx hb dC4_couldBeMeant_46 (by decide) ?_
        exact hend _ _ _ (Option.some.inj h) rfl dC4_couldBeMeant_47
set_option maxHeartbeats 4000000 in
set_option maxRecDepth 100000 in
theorem kC4_couldBeMeant (l : Launch) (dC : Nat → ClassId) (dI : Nat → Nat → Nat) (ad : Nat → Nat) (cA : Nat → ClassId) (σ : xSt) (x1 : Int32) (r : Int32) (h : fC4_couldBeMeant σ x1 = some r) : Met l yC4_couldBeMeant wsC4_couldBeMeant rm_C4_couldBeMeant (va_Pc [.ref (ad 4), .int (x1)] (fun U => va_P (dC, dI) vwC (xW ad cA σ) U.heap ∧ va_K (dC, dI) vwC (xT cA) U)) (vp_Si (fun v => v = r)) 0 0 (fun _ => False) := by
  refine Met.ofW (cc := cC4_couldBeMeant) (maxL := 5) (ret := (some .boolean)) (by decide) rfl ?_
  intro p e s m args below meth c s₁ B hml hv
  obtain ⟨rfl, hP, hK⟩ := hv
  have hr := B.returns
  have hlocks := B.notSynchronized
  have hl := lv_entry ([.ref (ad 4), .int (x1)]) (n := 5) (Nat.le_of_ble_eq_true rfl)
  rw [lg_entry_eq]
  exact wC4_couldBeMeant ⟨B.exec, B.bytes, hml, findClass_of_methodNamed B.named, fun w h => atoms_spec (ws := wsC4_couldBeMeant) B.pre w (List.mem_cons_of_mem _ h)⟩ hK hP (fun v pc ls hv hn hd => W.zret (v := v) B.exec B.bytes hr hn (fun t ht hW => ⟨v, rfl, hv, ht⟩) (fun q hq => absurd hq List.not_mem_nil) hd) _ hl h
abbrev rm_C4_keepMeant : Room := { frames := 4, cells := 0, slots := 0, locals := 89 }
def fC4_keepMeant_b40 (k4 : xSt → Int32 → Int32 → Option xSt) (σ : xSt) (x1 : Int32) (x2 : Int32) : Option xSt :=
  k4 σ x1 (x2 + (1 : Int32))
set_option maxHeartbeats 4000000 in
set_option maxRecDepth 100000 in
theorem wC4_keepMeant_b40 {p : Program} {l : Launch} {e : Env} {s : State} {m : MethodId} {args : Array Value} {below : List Frame} {meth : Method} {c : Code} {Q : State → Prop} {dC : Nat → ClassId} {dI : Nat → Nat → Nat} {ad : Nat → Nat} {cA : Nat → ClassId} {r : xSt} (C : CallFix p m c cC4_keepMeant 3 s args wAll RC4) (hK : va_K (dC, dI) vwC (xT cA) s) (hend : ∀ (σ : xSt) (H : Heap) (locs : List Loc) (pc : Nat) (ls : Array Slot), σ = r → va_P (dC, dI) vwC (xW ad cA σ) H → va_S (xA ad) s.heap H locs → decode cC4_keepMeant pc = .ok (.return_, 1) → W p l e rm_C4_keepMeant s m args below meth c H locs 0 0 Q (F0 m pc ls [])) {k4 : xSt → Int32 → Int32 → Option xSt} (hk4 : ∀ (σ : xSt) (H : Heap) (locs : List Loc) (x1 : Int32) (x2 : Int32) (ls : Array Slot), va_P (dC, dI) vwC (xW ad cA σ) H → va_D (xA ad) (xW ad cA σ) → va_S (xA ad) s.heap H locs → lv_has ls 3 [(0, .ref (ad 4)), (1, .int (x1)), (2, .int (x2))] → k4 σ x1 x2 = some r → W p l e rm_C4_keepMeant s m args below meth c H locs 0 0 Q (F0 m 4 ls [])) :
    ∀ (σ : xSt) (H : Heap) (locs : List Loc) (x1 : Int32) (x2 : Int32) (ls : Array Slot), va_P (dC, dI) vwC (xW ad cA σ) H → va_D (xA ad) (xW ad cA σ) → va_S (xA ad) s.heap H locs → lv_has ls 3 [(0, .ref (ad 4)), (1, .int (x1)), (2, .int (x2))] → fC4_keepMeant_b40 k4 σ x1 x2 = some r → W p l e rm_C4_keepMeant s m args below meth c H locs 0 0 Q (F0 m 40 ls []) := by
  obtain ⟨hx, hb, hml, hown, hts⟩ := id C
  intro σ H locs x1 x2 ls hP hD hS hl h
  unfold fC4_keepMeant_b40 at h
  refine lv_iinc (v := x2 + (1 : Int32)) (lv' := [(2, .int (x2 + (1 : Int32))), (0, .ref (ad 4)), (1, .int (x1))]) hx hb dC4_keepMeant_40 hl (k := 2) rfl rfl (by decide) rfl (fun ls hl => ?_)
  refine lv_goto (tgt := 4) hx hb dC4_keepMeant_43 (by decide) ?_
  exact hk4 _ _ _ _ _ _ hP hD hS (lv_sub hl [1, 2, 0] rfl) h
def fC4_keepMeant_b4 : Nat → xSt → Int32 → Int32 → Option xSt
  | 0, _, _, _ => none
  | n + 1, σ, x1, x2 =>
    if (σ.1 4 6) ≤ x2 then
      nm (sI σ 4 6 x1) fun σ1 =>
      some σ1
    else
      if x2 < 0 ∨ 60 ≤ x2.toNatClampNeg then none else
      (fC4_couldBeMeant σ (σ.1 21 x2.toNatClampNeg)).bind fun v3 =>
      if v3 = 0 then
        fC4_keepMeant_b40 (fC4_keepMeant_b4 n) σ x1 x2
      else
        if x2 < 0 ∨ 60 ≤ x2.toNatClampNeg then none else
        if x1 < 0 ∨ 60 ≤ x1.toNatClampNeg then none else
        nm (sI σ 21 x1.toNatClampNeg (σ.1 21 x2.toNatClampNeg)) fun σ6 =>
        fC4_keepMeant_b40 (fC4_keepMeant_b4 n) σ6 (x1 + (1 : Int32)) x2
set_option maxHeartbeats 4000000 in
set_option maxRecDepth 100000 in
theorem wC4_keepMeant_b4 {p : Program} {l : Launch} {e : Env} {s : State} {m : MethodId} {args : Array Value} {below : List Frame} {meth : Method} {c : Code} {Q : State → Prop} {dC : Nat → ClassId} {dI : Nat → Nat → Nat} {ad : Nat → Nat} {cA : Nat → ClassId} {r : xSt} (C : CallFix p m c cC4_keepMeant 3 s args wAll RC4) (hK : va_K (dC, dI) vwC (xT cA) s) (hend : ∀ (σ : xSt) (H : Heap) (locs : List Loc) (pc : Nat) (ls : Array Slot), σ = r → va_P (dC, dI) vwC (xW ad cA σ) H → va_S (xA ad) s.heap H locs → decode cC4_keepMeant pc = .ok (.return_, 1) → W p l e rm_C4_keepMeant s m args below meth c H locs 0 0 Q (F0 m pc ls [])) :
    ∀ (n : Nat) (σ : xSt) (H : Heap) (locs : List Loc) (x1 : Int32) (x2 : Int32) (ls : Array Slot), va_P (dC, dI) vwC (xW ad cA σ) H → va_D (xA ad) (xW ad cA σ) → va_S (xA ad) s.heap H locs → lv_has ls 3 [(0, .ref (ad 4)), (1, .int (x1)), (2, .int (x2))] → fC4_keepMeant_b4 n σ x1 x2 = some r → W p l e rm_C4_keepMeant s m args below meth c H locs 0 0 Q (F0 m 4 ls []) := by
  obtain ⟨hx, hb, hml, hown, hts⟩ := id C
  intro n
  induction n with
  | zero =>
    intro σ H locs x1 x2 ls hP hD hS hl h
    rw [fC4_keepMeant_b4] at h
    cases h
  | succ n ih =>
    intro σ H locs x1 x2 ls hP hD hS hl h
    rw [fC4_keepMeant_b4] at h
    refine lv_iload_n hx hb dC4_keepMeant_4 rfl (lv_at hl 2 rfl) ?_
    refine lv_aload_n hx hb dC4_keepMeant_5 rfl (lv_at hl 0 rfl) ?_
    refine va_get (D := (dC, dI)) (ci := 4) (v := .int (σ.1 4 6)) (C := RC4) (T := TC4) (N := 10) hx hb hts inC4 hown hK hP 4 rfl rfl 6 (by decide) (hts _ mw_210) (fun _ h9 => h9) rfl dC4_keepMeant_6 ?_
    refine lv_icmp_ge (tgt := 46) hx hb dC4_keepMeant_9 (by decide) (fun c8 => ?_) (fun c8 => ?_)
    · have h := (if_pos c8).symm.trans h
      refine lv_aload_n hx hb dC4_keepMeant_46 rfl (lv_at hl 0 rfl) ?_
      refine lv_iload_n hx hb dC4_keepMeant_47 rfl (lv_at hl 1 rfl) ?_
      refine va_put (D := (dC, dI)) (ci := 4) (v := .int (x1)) (ty := .int) (C := RC4) (T := TC4) (N := 10) hx hb hts inC4 tyC4 tyC4_ok nnC4 hown hK hP hD hS 4 rfl rfl 6 (by decide) (hts _ mw_210) (fun _ h9 => h9) rfl (by decide +kernel) rfl rfl (Nat.le_of_ble_eq_true rfl) dC4_keepMeant_48 (fun H locs hP hD hS => ?_)
      obtain ⟨σ1, eσ1⟩ : ∃ z, z = sI σ 4 6 x1 := ⟨_, rfl⟩
      have hP : va_P (dC, dI) vwC (xW ad cA σ1) H := by rw [eσ1]; exact hP
      have hD : va_D (xA ad) (xW ad cA σ1) := by rw [eσ1]; exact hD
      have h := nm_at eσ1 h
      exact hend _ _ _ _ _ (Option.some.inj h) hP hS dC4_keepMeant_51
    · have h := (if_neg c8).symm.trans h
      refine lv_aload_n hx hb dC4_keepMeant_12 rfl (lv_at hl 0 rfl) ?_
      refine lv_aload_n hx hb dC4_keepMeant_13 rfl (lv_at hl 0 rfl) ?_
      refine va_get (D := (dC, dI)) (ci := 4) (v := .ref (ad 21)) (C := RC4) (T := TC4) (N := 10) hx hb hts inC4 hown hK hP 4 rfl rfl 3 (by decide) (hts _ mw_208) (fun _ h9 => h9) rfl dC4_keepMeant_14 ?_
      refine lv_iload_n hx hb dC4_keepMeant_17 rfl (lv_at hl 2 rfl) ?_
      obtain ⟨b2, h⟩ := gx_nb h
      refine va_iald hx hb hK hP 21 16 rfl rfl b2 dC4_keepMeant_18 ?_
      obtain ⟨v3, ev3, h⟩ := Option.bind_eq_some_iff.mp h
      refine gcall_r (b := ad 4) (As := [.int (σ.1 21 x2.toNatClampNeg)]) (rest := []) C hK hP (ci := 4) (q0 := 4) rfl rfl (kC4_couldBeMeant l dC dI ad cA σ (σ.1 21 x2.toNatClampNeg) v3 ev3) (cwV 1 hts (gw mw_250 mw_251 mw_252 mw_204 mw_253) rfl rfl rfl hdC4_couldBeMeant ⟨Nat.le_of_ble_eq_true rfl, Nat.le_of_ble_eq_true rfl⟩) rfl hl.1 rfl (Nat.le_of_ble_eq_true rfl) dC4_keepMeant_19 ⟨Nat.le_refl _, Nat.le_refl _⟩ ?_
      refine lv_if_eq (tgt := 40) hx hb dC4_keepMeant_22 (by decide) (fun c7 => ?_) (fun c7 => ?_)
      · have h := (if_pos c7).symm.trans h
        exact wC4_keepMeant_b40 C hK hend ih _ _ _ _ _ _ hP hD hS (lv_sub hl [0, 1, 2] rfl) h
      · have h := (if_neg c7).symm.trans h
        refine lv_aload_n hx hb dC4_keepMeant_25 rfl (lv_at hl 0 rfl) ?_
        refine va_get (D := (dC, dI)) (ci := 4) (v := .ref (ad 21)) (C := RC4) (T := TC4) (N := 10) hx hb hts inC4 hown hK hP 4 rfl rfl 3 (by decide) (hts _ mw_208) (fun _ h9 => h9) rfl dC4_keepMeant_26 ?_
        refine lv_iload_n hx hb dC4_keepMeant_29 rfl (lv_at hl 1 rfl) ?_
        refine lv_aload_n hx hb dC4_keepMeant_30 rfl (lv_at hl 0 rfl) ?_
        refine va_get (D := (dC, dI)) (ci := 4) (v := .ref (ad 21)) (C := RC4) (T := TC4) (N := 10) hx hb hts inC4 hown hK hP 4 rfl rfl 3 (by decide) (hts _ mw_208) (fun _ h9 => h9) rfl dC4_keepMeant_31 ?_
        refine lv_iload_n hx hb dC4_keepMeant_34 rfl (lv_at hl 2 rfl) ?_
        obtain ⟨b4, h⟩ := gx_nb h
        refine va_iald hx hb hK hP 21 16 rfl rfl b4 dC4_keepMeant_35 ?_
        obtain ⟨b5, h⟩ := gx_nb h
        refine va_iast hx hb hK hP hD hS 21 16 rfl rfl b5 dC4_keepMeant_36 (fun H locs hP hD hS => ?_)
        obtain ⟨σ6, eσ6⟩ : ∃ z, z = sI σ 21 x1.toNatClampNeg (σ.1 21 x2.toNatClampNeg) := ⟨_, rfl⟩
        have hP : va_P (dC, dI) vwC (xW ad cA σ6) H := by rw [eσ6]; exact hP
        have hD : va_D (xA ad) (xW ad cA σ6) := by rw [eσ6]; exact hD
        have h := nm_at eσ6 h
        refine lv_iinc (v := x1 + (1 : Int32)) (lv' := [(1, .int (x1 + (1 : Int32))), (0, .ref (ad 4)), (2, .int (x2))]) hx hb dC4_keepMeant_37 hl (k := 1) rfl rfl (by decide) rfl (fun ls hl => ?_)
        exact wC4_keepMeant_b40 C hK hend ih _ _ _ _ _ _ hP hD hS (lv_sub hl [1, 0, 2] rfl) h
def fC4_keepMeant (σ : xSt) : Option xSt :=
  fC4_keepMeant_b4 gF σ (0 : Int32) (0 : Int32)
set_option maxHeartbeats 4000000 in
set_option maxRecDepth 100000 in
theorem wC4_keepMeant {p : Program} {l : Launch} {e : Env} {s : State} {m : MethodId} {args : Array Value} {below : List Frame} {meth : Method} {c : Code} {Q : State → Prop} {dC : Nat → ClassId} {dI : Nat → Nat → Nat} {ad : Nat → Nat} {cA : Nat → ClassId} {r : xSt} (C : CallFix p m c cC4_keepMeant 3 s args wAll RC4) (hK : va_K (dC, dI) vwC (xT cA) s) (hend : ∀ (σ : xSt) (H : Heap) (locs : List Loc) (pc : Nat) (ls : Array Slot), σ = r → va_P (dC, dI) vwC (xW ad cA σ) H → va_S (xA ad) s.heap H locs → decode cC4_keepMeant pc = .ok (.return_, 1) → W p l e rm_C4_keepMeant s m args below meth c H locs 0 0 Q (F0 m pc ls [])) {H : Heap} {locs : List Loc} {σ : xSt} (hP : va_P (dC, dI) vwC (xW ad cA σ) H) (hD : va_D (xA ad) (xW ad cA σ)) (hS : va_S (xA ad) s.heap H locs) (ls : Array Slot) (hl : lv_has ls 3 [(0, .ref (ad 4))]) (h : fC4_keepMeant σ = some r) : W p l e rm_C4_keepMeant s m args below meth c H locs 0 0 Q (F0 m 0 ls []) := by
  obtain ⟨hx, hb, hml, hown, hts⟩ := id C
  unfold fC4_keepMeant at h
  refine lv_iconst (v := (0 : Int32)) hx hb dC4_keepMeant_0 (by decide) ?_
  refine lv_istore_n (lv' := [(1, .int ((0 : Int32))), (0, .ref (ad 4))]) hx hb dC4_keepMeant_1 rfl hl (by decide) rfl (fun ls hl => ?_)
  refine lv_iconst (v := (0 : Int32)) hx hb dC4_keepMeant_2 (by decide) ?_
  refine lv_istore_n (lv' := [(2, .int ((0 : Int32))), (1, .int ((0 : Int32))), (0, .ref (ad 4))]) hx hb dC4_keepMeant_3 rfl hl (by decide) rfl (fun ls hl => ?_)
  exact wC4_keepMeant_b4 C hK hend _ _ _ _ _ _ _ hP hD hS (lv_sub hl [2, 1, 0] rfl) h
set_option maxHeartbeats 4000000 in
set_option maxRecDepth 100000 in
theorem kC4_keepMeant (l : Launch) (dC : Nat → ClassId) (dI : Nat → Nat → Nat) (ad : Nat → Nat) (cA : Nat → ClassId) (σ : xSt) (r : xSt) (h : fC4_keepMeant σ = some r) : Met l yC4_keepMeant wsC4_keepMeant rm_C4_keepMeant (va_Pc [.ref (ad 4)] (fun U => va_P (dC, dI) vwC (xW ad cA σ) U.heap ∧ va_K (dC, dI) vwC (xT cA) U ∧ va_D (xA ad) (xW ad cA σ))) (va_Qv (fun u : xSt => u = r) (fun u t => va_P (dC, dI) vwC (xW ad cA u) t.heap) (xA ad)) 0 0 (xA ad) := by
  refine Met.ofW (cc := cC4_keepMeant) (maxL := 3) (ret := none) (by decide) rfl ?_
  intro p e s m args below meth c s₁ B hml hv
  obtain ⟨rfl, hP, hK, hD⟩ := hv
  have hr := B.returns
  have hlocks := B.notSynchronized
  have hl := lv_entry ([.ref (ad 4)]) (n := 3) (Nat.le_of_ble_eq_true rfl)
  rw [lg_entry_eq]
  exact wC4_keepMeant ⟨B.exec, B.bytes, hml, findClass_of_methodNamed B.named, fun w h => atoms_spec (ws := wsC4_keepMeant) B.pre w (List.mem_cons_of_mem _ h)⟩ hK (fun σ H locs pc ls hv hP hS hd => W.vret B.exec B.bytes hr (fun t ht hW => ⟨⟨σ, rfl, hv, by show va_P _ _ _ t.heap; rw [ht]; exact hP⟩, hS.F ht⟩) hS.2.2 hd) hP hD va_S.rf _ hl h
abbrev rm_C2_spreadType : Room := { frames := 2, cells := 0, slots := 0, locals := 46 }
def fC2_spreadType (σ : xSt) (x1 : Int32) : Option Int32 :=
  if x1 < 0 ∨ 61 ≤ x1.toNatClampNeg then none else
  (fC2_facing σ x1 ((σ.1 13 x1.toNatClampNeg) - (1 : Int32)) (1 : Int32)).bind fun v2 =>
  some v2
set_option maxHeartbeats 4000000 in
set_option maxRecDepth 100000 in
theorem wC2_spreadType {p : Program} {l : Launch} {e : Env} {s : State} {m : MethodId} {args : Array Value} {below : List Frame} {meth : Method} {c : Code} {Q : State → Prop} {dC : Nat → ClassId} {dI : Nat → Nat → Nat} {ad : Nat → Nat} {cA : Nat → ClassId} {r : Int32} {H : Heap} {locs : List Loc} {σ : xSt} (C : CallFix p m c cC2_spreadType 2 s args wAll RC2) (hK : va_K (dC, dI) vwC (xT cA) s) (hP : va_P (dC, dI) vwC (xW ad cA σ) H) (hend : ∀ (v : Int32) (pc : Nat) (ls : Array Slot), v = r → decode cC2_spreadType pc = .ok (.ireturn, 1) → W p l e rm_C2_spreadType s m args below meth c H locs 0 0 Q (F0 m pc ls [.int v])) {x1 : Int32} (ls : Array Slot) (hl : lv_has ls 2 [(0, .ref (ad 2)), (1, .int (x1))]) (h : fC2_spreadType σ x1 = some r) : W p l e rm_C2_spreadType s m args below meth c H locs 0 0 Q (F0 m 0 ls []) := by
  obtain ⟨hx, hb, hml, hown, hts⟩ := id C
  unfold fC2_spreadType at h
  refine lv_aload_n hx hb dC2_spreadType_0 rfl (lv_at hl 0 rfl) ?_
  refine lv_iload_n hx hb dC2_spreadType_1 rfl (lv_at hl 1 rfl) ?_
  refine lv_aload_n hx hb dC2_spreadType_2 rfl (lv_at hl 0 rfl) ?_
  refine va_get (D := (dC, dI)) (ci := 2) (v := .ref (ad 13)) (C := RC2) (T := TC2) (N := 10) hx hb hts inC2 hown hK hP 2 rfl rfl 5 (by decide) (hts _ mw_51) (fun _ h9 => h9) rfl dC2_spreadType_3 ?_
  refine lv_iload_n hx hb dC2_spreadType_6 rfl (lv_at hl 1 rfl) ?_
  obtain ⟨b1, h⟩ := gx_nb h
  refine va_iald hx hb hK hP 13 8 rfl rfl b1 dC2_spreadType_7 ?_
  refine lv_iconst (v := (1 : Int32)) hx hb dC2_spreadType_8 (by decide) ?_
  refine lv_isub hx hb dC2_spreadType_9 ?_
  refine lv_iconst (v := (1 : Int32)) hx hb dC2_spreadType_10 (by decide) ?_
  obtain ⟨v2, ev2, h⟩ := Option.bind_eq_some_iff.mp h
  refine gcall_r (b := ad 2) (As := [.int (x1), .int ((σ.1 13 x1.toNatClampNeg) - (1 : Int32)), .int ((1 : Int32))]) (rest := []) C hK hP (ci := 2) (q0 := 2) rfl rfl (kC2_facing l dC dI ad cA σ x1 ((σ.1 13 x1.toNatClampNeg) - (1 : Int32)) (1 : Int32) v2 ev2) (cwV 3 hts (gw mw_261 mw_230 mw_231 mw_40 mw_232) rfl rfl rfl hdC2_facing ⟨Nat.le_of_ble_eq_true rfl, Nat.le_of_ble_eq_true rfl⟩) rfl hl.1 rfl (Nat.le_of_ble_eq_true rfl) dC2_spreadType_11 ⟨Nat.le_refl _, Nat.le_refl _⟩ ?_
  exact hend _ _ _ (Option.some.inj h) dC2_spreadType_14
set_option maxHeartbeats 4000000 in
set_option maxRecDepth 100000 in
theorem kC2_spreadType (l : Launch) (dC : Nat → ClassId) (dI : Nat → Nat → Nat) (ad : Nat → Nat) (cA : Nat → ClassId) (σ : xSt) (x1 : Int32) (r : Int32) (h : fC2_spreadType σ x1 = some r) : Met l yC2_spreadType wsC2_spreadType rm_C2_spreadType (va_Pc [.ref (ad 2), .int (x1)] (fun U => va_P (dC, dI) vwC (xW ad cA σ) U.heap ∧ va_K (dC, dI) vwC (xT cA) U)) (vp_Si (fun v => v = r)) 0 0 (fun _ => False) := by
  refine Met.ofW (cc := cC2_spreadType) (maxL := 2) (ret := (some .int)) (by decide) rfl ?_
  intro p e s m args below meth c s₁ B hml hv
  obtain ⟨rfl, hP, hK⟩ := hv
  have hr := B.returns
  have hlocks := B.notSynchronized
  have hl := lv_entry ([.ref (ad 2), .int (x1)]) (n := 2) (Nat.le_of_ble_eq_true rfl)
  rw [lg_entry_eq]
  exact wC2_spreadType ⟨B.exec, B.bytes, hml, findClass_of_methodNamed B.named, fun w h => atoms_spec (ws := wsC2_spreadType) B.pre w (List.mem_cons_of_mem _ h)⟩ hK hP (fun v pc ls hv hd => W.iret (v := v) B.exec B.bytes hr (fun t ht hW => ⟨v, rfl, hv, ht⟩) (fun q hq => absurd hq List.not_mem_nil) hd) _ hl h
