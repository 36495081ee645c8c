abbrev rm_C2_settleFunctions : Room := { frames := 5, cells := 0, slots := 0, locals := 117 }
def fC2_settleFunctions_b51 (k10 : xSt → Int32 → Option xSt) (σ : xSt) (x1 : Int32) (s1 : Int32) (s2 : Int32) : Option xSt :=
  if s1 < 0 ∨ 24 ≤ s1.toNatClampNeg then none else
  nm (sI σ 15 s1.toNatClampNeg s2) fun σ6 =>
  k10 σ6 (x1 + (1 : Int32))
set_option maxHeartbeats 4000000 in
set_option maxRecDepth 100000 in
theorem wC2_settleFunctions_b51 {p : Program} {l : Launch} {e : Env} {s : State} {m : MethodId} {args : Array Value} {below : List Frame} {meth : Method} {c : Code} {Q : State → Prop} {dC : Nat → ClassId} {dI : Nat → Nat → Nat} {ad : Nat → Nat} {cA : Nat → ClassId} {r : xSt} (C : CallFix p m c cC2_settleFunctions 3 s args wAll RC2) (hK : va_K (dC, dI) vwC (xT cA) s) (hend : ∀ (σ : xSt) (H : Heap) (locs : List Loc) (pc : Nat) (ls : Array Slot), σ = r → va_P (dC, dI) vwC (xW ad cA σ) H → va_S (xA ad) s.heap H locs → decode cC2_settleFunctions pc = .ok (.return_, 1) → W p l e rm_C2_settleFunctions s m args below meth c H locs 0 0 Q (F0 m pc ls [])) {k10 : xSt → Int32 → Option xSt} (hk10 : ∀ (σ : xSt) (H : Heap) (locs : List Loc) (x1 : Int32) (ls : Array Slot), va_P (dC, dI) vwC (xW ad cA σ) H → va_D (xA ad) (xW ad cA σ) → va_S (xA ad) s.heap H locs → lv_has ls 3 [(0, .ref (ad 2)), (1, .int (x1))] → k10 σ x1 = some r → W p l e rm_C2_settleFunctions s m args below meth c H locs 0 0 Q (F0 m 10 ls [])) :
    ∀ (σ : xSt) (H : Heap) (locs : List Loc) (x1 : Int32) (s1 : Int32) (s2 : Int32) (ls : Array Slot), va_P (dC, dI) vwC (xW ad cA σ) H → va_D (xA ad) (xW ad cA σ) → va_S (xA ad) s.heap H locs → lv_has ls 3 [(0, .ref (ad 2)), (1, .int (x1))] → fC2_settleFunctions_b51 k10 σ x1 s1 s2 = some r → W p l e rm_C2_settleFunctions s m args below meth c H locs 0 0 Q (F0 m 51 ls [.int (s2), .int (s1), .ref (ad 15)]) := by
  obtain ⟨hx, hb, hml, hown, hts⟩ := id C
  intro σ H locs x1 s1 s2 ls hP hD hS hl h
  unfold fC2_settleFunctions_b51 at h
  obtain ⟨b5, h⟩ := gx_nb h
  refine va_iast hx hb hK hP hD hS 15 10 rfl rfl b5 dC2_settleFunctions_51 (fun H locs hP hD hS => ?_)
  obtain ⟨σ6, eσ6⟩ : ∃ z, z = sI σ 15 s1.toNatClampNeg s2 := ⟨_, rfl⟩
  have hP : va_P (dC, dI) vwC (xW ad cA σ6) H := by rw [eσ6]; exact hP
  have hD : va_D (xA ad) (xW ad cA σ6) := by rw [eσ6]; exact hD
  have h := nm_at eσ6 h
  refine lv_iinc (v := x1 + (1 : Int32)) (lv' := [(1, .int (x1 + (1 : Int32))), (0, .ref (ad 2))]) hx hb dC2_settleFunctions_52 hl (k := 1) rfl rfl (by decide) rfl (fun ls hl => ?_)
  refine lv_goto (tgt := 10) hx hb dC2_settleFunctions_55 (by decide) ?_
  exact hk10 _ _ _ _ _ hP hD hS (lv_sub hl [1, 0] rfl) h
def fC2_settleFunctions_b10 : Nat → xSt → Int32 → Option xSt
  | 0, _, _ => none
  | n + 1, σ, x1 =>
    (fC1_size σ).bind fun v1 =>
    if v1 ≤ x1 then
      nm (sI σ 2 8 (1 : Int32)) fun σ2 =>
      some σ2
    else
      nm ((16 : Int32) + x1) fun y3 =>
      (fC1_isInterface σ y3).bind fun v4 =>
      if v4 = 0 then
        fC2_settleFunctions_b51 (fC2_settleFunctions_b10 n) σ x1 x1 (-1 : Int32)
      else
        (fC2_findFunction σ y3).bind fun v7 =>
        fC2_settleFunctions_b51 (fC2_settleFunctions_b10 n) σ x1 x1 v7
set_option maxHeartbeats 4000000 in
set_option maxRecDepth 100000 in
theorem wC2_settleFunctions_b10 {p : Program} {l : Launch} {e : Env} {s : State} {m : MethodId} {args : Array Value} {below : List Frame} {meth : Method} {c : Code} {Q : State → Prop} {dC : Nat → ClassId} {dI : Nat → Nat → Nat} {ad : Nat → Nat} {cA : Nat → ClassId} {r : xSt} (C : CallFix p m c cC2_settleFunctions 3 s args wAll RC2) (hK : va_K (dC, dI) vwC (xT cA) s) (hend : ∀ (σ : xSt) (H : Heap) (locs : List Loc) (pc : Nat) (ls : Array Slot), σ = r → va_P (dC, dI) vwC (xW ad cA σ) H → va_S (xA ad) s.heap H locs → decode cC2_settleFunctions pc = .ok (.return_, 1) → W p l e rm_C2_settleFunctions s m args below meth c H locs 0 0 Q (F0 m pc ls [])) :
    ∀ (n : Nat) (σ : xSt) (H : Heap) (locs : List Loc) (x1 : Int32) (ls : Array Slot), va_P (dC, dI) vwC (xW ad cA σ) H → va_D (xA ad) (xW ad cA σ) → va_S (xA ad) s.heap H locs → lv_has ls 3 [(0, .ref (ad 2)), (1, .int (x1))] → fC2_settleFunctions_b10 n σ x1 = some r → W p l e rm_C2_settleFunctions s m args below meth c H locs 0 0 Q (F0 m 10 ls []) := by
  obtain ⟨hx, hb, hml, hown, hts⟩ := id C
  intro n
  induction n with
  | zero =>
    intro σ H locs x1 ls hP hD hS hl h
    rw [fC2_settleFunctions_b10] at h
    cases h
  | succ n ih =>
    intro σ H locs x1 ls hP hD hS hl h
    rw [fC2_settleFunctions_b10] at h
    refine lv_iload_n hx hb dC2_settleFunctions_10 rfl (lv_at hl 1 rfl) ?_
    refine lv_aload_n hx hb dC2_settleFunctions_11 rfl (lv_at hl 0 rfl) ?_
    refine va_get (D := (dC, dI)) (ci := 2) (v := .ref (ad 1)) (C := RC2) (T := TC2) (N := 10) hx hb hts inC2 hown hK hP 2 rfl rfl 0 (by decide) (hts _ mw_57) (fun _ h9 => h9) rfl dC2_settleFunctions_12 ?_
    obtain ⟨v1, ev1, h⟩ := Option.bind_eq_some_iff.mp h
    refine gcall_r (b := ad 1) (As := []) (rest := [.int (x1)]) C hK hP (ci := 1) (q0 := 1) rfl rfl (kC1_size l dC dI ad cA σ v1 ev1) (cwV 0 hts (gw mw_135 mw_136 mw_137 mw_7 mw_138) rfl rfl rfl hdC1_size ⟨Nat.le_of_ble_eq_true rfl, Nat.le_of_ble_eq_true rfl⟩) rfl hl.1 rfl (Nat.le_of_ble_eq_true rfl) dC2_settleFunctions_15 ⟨Nat.le_refl _, Nat.le_refl _⟩ ?_
    refine lv_icmp_ge (tgt := 58) hx hb dC2_settleFunctions_18 (by decide) (fun c9 => ?_) (fun c9 => ?_)
    · have h := (if_pos c9).symm.trans h
      refine lv_aload_n hx hb dC2_settleFunctions_58 rfl (lv_at hl 0 rfl) ?_
      refine lv_iconst (v := (1 : Int32)) hx hb dC2_settleFunctions_59 (by decide) ?_
      refine va_put (D := (dC, dI)) (ci := 2) (v := .int ((1 : Int32))) (ty := .boolean) (C := RC2) (T := TC2) (N := 10) hx hb hts inC2 tyC2 tyC2_ok nnC2 hown hK hP hD hS 2 rfl rfl 8 (by decide) (hts _ mw_36) (fun _ h9 => h9) rfl (by decide +kernel) rfl rfl (Nat.le_of_ble_eq_true rfl) dC2_settleFunctions_60 (fun H locs hP hD hS => ?_)
      obtain ⟨σ2, eσ2⟩ : ∃ z, z = sI σ 2 8 (1 : Int32) := ⟨_, rfl⟩
      have hP : va_P (dC, dI) vwC (xW ad cA σ2) H := by rw [eσ2]; exact hP
      have hD : va_D (xA ad) (xW ad cA σ2) := by rw [eσ2]; exact hD
      have h := nm_at eσ2 h
      exact hend _ _ _ _ _ (Option.some.inj h) hP hS dC2_settleFunctions_63
    · have h := (if_neg c9).symm.trans h
      refine lv_bipush (v := (16 : Int32)) hx hb dC2_settleFunctions_21 (by decide) ?_
      refine lv_iload_n hx hb dC2_settleFunctions_23 rfl (lv_at hl 1 rfl) ?_
      refine lv_iadd hx hb dC2_settleFunctions_24 ?_
      refine lv_topi (fun y3 ey3 => ?_)
      have h := nm_at ey3 h
      refine lv_istore_n (lv' := [(2, .int (y3)), (0, .ref (ad 2)), (1, .int (x1))]) hx hb dC2_settleFunctions_25 rfl hl (by decide) rfl (fun ls hl => ?_)
      refine lv_aload_n hx hb dC2_settleFunctions_26 rfl (lv_at hl 1 rfl) ?_
      refine va_get (D := (dC, dI)) (ci := 2) (v := .ref (ad 15)) (C := RC2) (T := TC2) (N := 10) hx hb hts inC2 hown hK hP 2 rfl rfl 7 (by decide) (hts _ mw_139) (fun _ h9 => h9) rfl dC2_settleFunctions_27 ?_
      refine lv_iload_n hx hb dC2_settleFunctions_30 rfl (lv_at hl 2 rfl) ?_
      refine lv_aload_n hx hb dC2_settleFunctions_31 rfl (lv_at hl 1 rfl) ?_
      refine va_get (D := (dC, dI)) (ci := 2) (v := .ref (ad 1)) (C := RC2) (T := TC2) (N := 10) hx hb hts inC2 hown hK hP 2 rfl rfl 0 (by decide) (hts _ mw_57) (fun _ h9 => h9) rfl dC2_settleFunctions_32 ?_
      refine lv_iload_n hx hb dC2_settleFunctions_35 rfl (lv_at hl 0 rfl) ?_
      obtain ⟨v4, ev4, h⟩ := Option.bind_eq_some_iff.mp h
      refine gcall_r (b := ad 1) (As := [.int (y3)]) (rest := [.int (x1), .ref (ad 15)]) C hK hP (ci := 1) (q0 := 1) rfl rfl (kC1_isInterface l dC dI ad cA σ y3 v4 ev4) (cwV 1 hts (gw mw_59 mw_15 mw_16 mw_7 mw_17) rfl rfl rfl hdC1_isInterface ⟨Nat.le_of_ble_eq_true rfl, Nat.le_of_ble_eq_true rfl⟩) rfl hl.1 rfl (Nat.le_of_ble_eq_true rfl) dC2_settleFunctions_36 ⟨Nat.le_refl _, Nat.le_refl _⟩ ?_
      refine lv_if_eq (tgt := 50) hx hb dC2_settleFunctions_39 (by decide) (fun c8 => ?_) (fun c8 => ?_)
      · have h := (if_pos c8).symm.trans h
        refine lv_iconst (v := (-1 : Int32)) hx hb dC2_settleFunctions_50 (by decide) ?_
        exact wC2_settleFunctions_b51 C hK hend ih _ _ _ _ _ _ _ hP hD hS (lv_sub hl [1, 2] rfl) h
      · have h := (if_neg c8).symm.trans h
        refine lv_aload_n hx hb dC2_settleFunctions_42 rfl (lv_at hl 1 rfl) ?_
        refine lv_iload_n hx hb dC2_settleFunctions_43 rfl (lv_at hl 0 rfl) ?_
        obtain ⟨v7, ev7, h⟩ := Option.bind_eq_some_iff.mp h
        refine gcall_r (b := ad 2) (As := [.int (y3)]) (rest := [.int (x1), .ref (ad 15)]) C hK hP (ci := 2) (q0 := 2) rfl rfl (kC2_findFunction l dC dI ad cA σ y3 v7 ev7) (cwV 1 hts (gw mw_153 mw_154 mw_155 mw_40 mw_156) rfl rfl rfl hdC2_findFunction ⟨Nat.le_of_ble_eq_true rfl, Nat.le_of_ble_eq_true rfl⟩) rfl hl.1 rfl (Nat.le_of_ble_eq_true rfl) dC2_settleFunctions_44 ⟨Nat.le_refl _, Nat.le_refl _⟩ ?_
        refine lv_goto (tgt := 51) hx hb dC2_settleFunctions_47 (by decide) ?_
        exact wC2_settleFunctions_b51 C hK hend ih _ _ _ _ _ _ _ hP hD hS (lv_sub hl [1, 2] rfl) h
def fC2_settleFunctions (σ : xSt) : Option xSt :=
  if (σ.1 2 8) = 0 then
    fC2_settleFunctions_b10 gF σ (0 : Int32)
  else
    some σ
set_option maxHeartbeats 4000000 in
set_option maxRecDepth 100000 in
theorem wC2_settleFunctions {p : Program} {l : Launch} {e : Env} {s : State} {m : MethodId} {args : Array Value} {below : List Frame} {meth : Method} {c : Code} {Q : State → Prop} {dC : Nat → ClassId} {dI : Nat → Nat → Nat} {ad : Nat → Nat} {cA : Nat → ClassId} {r : xSt} (C : CallFix p m c cC2_settleFunctions 3 s args wAll RC2) (hK : va_K (dC, dI) vwC (xT cA) s) (hend : ∀ (σ : xSt) (H : Heap) (locs : List Loc) (pc : Nat) (ls : Array Slot), σ = r → va_P (dC, dI) vwC (xW ad cA σ) H → va_S (xA ad) s.heap H locs → decode cC2_settleFunctions pc = .ok (.return_, 1) → W p l e rm_C2_settleFunctions s m args below meth c H locs 0 0 Q (F0 m pc ls [])) {H : Heap} {locs : List Loc} {σ : xSt} (hP : va_P (dC, dI) vwC (xW ad cA σ) H) (hD : va_D (xA ad) (xW ad cA σ)) (hS : va_S (xA ad) s.heap H locs) (ls : Array Slot) (hl : lv_has ls 3 [(0, .ref (ad 2))]) (h : fC2_settleFunctions σ = some r) : W p l e rm_C2_settleFunctions s m args below meth c H locs 0 0 Q (F0 m 0 ls []) := by
  obtain ⟨hx, hb, hml, hown, hts⟩ := id C
  unfold fC2_settleFunctions at h
  refine lv_aload_n hx hb dC2_settleFunctions_0 rfl (lv_at hl 0 rfl) ?_
  refine va_get (D := (dC, dI)) (ci := 2) (v := .int (σ.1 2 8)) (C := RC2) (T := TC2) (N := 10) hx hb hts inC2 hown hK hP 2 rfl rfl 8 (by decide) (hts _ mw_36) (fun _ h9 => h9) rfl dC2_settleFunctions_1 ?_
  refine lv_if_eq (tgt := 8) hx hb dC2_settleFunctions_4 (by decide) (fun c10 => ?_) (fun c10 => ?_)
  · have h := (if_pos c10).symm.trans h
    refine lv_iconst (v := (0 : Int32)) hx hb dC2_settleFunctions_8 (by decide) ?_
    refine lv_istore_n (lv' := [(1, .int ((0 : Int32))), (0, .ref (ad 2))]) hx hb dC2_settleFunctions_9 rfl hl (by decide) rfl (fun ls hl => ?_)
    exact wC2_settleFunctions_b10 C hK hend _ _ _ _ _ _ hP hD hS (lv_sub hl [1, 0] rfl) h
  · have h := (if_neg c10).symm.trans h
    exact hend _ _ _ _ _ (Option.some.inj h) hP hS dC2_settleFunctions_7
set_option maxHeartbeats 4000000 in
set_option maxRecDepth 100000 in
theorem kC2_settleFunctions (l : Launch) (dC : Nat → ClassId) (dI : Nat → Nat → Nat) (ad : Nat → Nat) (cA : Nat → ClassId) (σ : xSt) (r : xSt) (h : fC2_settleFunctions σ = some r) : Met l yC2_settleFunctions wsC2_settleFunctions rm_C2_settleFunctions (va_Pc [.ref (ad 2)] (fun U => va_P (dC, dI) vwC (xW ad cA σ) U.heap ∧ va_K (dC, dI) vwC (xT cA) U ∧ va_D (xA ad) (xW ad cA σ))) (va_Qv (fun u : xSt => u = r) (fun u t => va_P (dC, dI) vwC (xW ad cA u) t.heap) (xA ad)) 0 0 (xA ad) := by
  refine Met.ofW (cc := cC2_settleFunctions) (maxL := 3) (ret := none) (by decide) rfl ?_
  intro p e s m args below meth c s₁ B hml hv
  obtain ⟨rfl, hP, hK, hD⟩ := hv
  have hr := B.returns
  have hlocks := B.notSynchronized
  have hl := lv_entry ([.ref (ad 2)]) (n := 3) (Nat.le_of_ble_eq_true rfl)
  rw [lg_entry_eq]
  exact wC2_settleFunctions ⟨B.exec, B.bytes, hml, findClass_of_methodNamed B.named, fun w h => atoms_spec (ws := wsC2_settleFunctions) B.pre w (List.mem_cons_of_mem _ h)⟩ hK (fun σ H locs pc ls hv hP hS hd => W.vret B.exec B.bytes hr (fun t ht hW => ⟨⟨σ, rfl, hv, by show va_P _ _ _ t.heap; rw [ht]; exact hP⟩, hS.F ht⟩) hS.2.2 hd) hP hD va_S.rf _ hl h
abbrev rm_C2_functionOf : Room := { frames := 1, cells := 0, slots := 0, locals := 21 }
def fC2_functionOf (σ : xSt) (x1 : Int32) : Option Int32 :=
  (fC1_isTold σ x1).bind fun v1 =>
  if v1 = 0 then
    some (-1 : Int32)
  else
    if (x1 - (16 : Int32)) < 0 ∨ 24 ≤ (x1 - (16 : Int32)).toNatClampNeg then none else
    some (σ.1 15 (x1 - (16 : Int32)).toNatClampNeg)
set_option maxHeartbeats 4000000 in
set_option maxRecDepth 100000 in
theorem wC2_functionOf {p : Program} {l : Launch} {e : Env} {s : State} {m : MethodId} {args : Array Value} {below : List Frame} {meth : Method} {c : Code} {Q : State → Prop} {dC : Nat → ClassId} {dI : Nat → Nat → Nat} {ad : Nat → Nat} {cA : Nat → ClassId} {r : Int32} {H : Heap} {locs : List Loc} {σ : xSt} (C : CallFix p m c cC2_functionOf 2 s args wAll RC2) (hK : va_K (dC, dI) vwC (xT cA) s) (hP : va_P (dC, dI) vwC (xW ad cA σ) H) (hend : ∀ (v : Int32) (pc : Nat) (ls : Array Slot), v = r → decode cC2_functionOf pc = .ok (.ireturn, 1) → W p l e rm_C2_functionOf s m args below meth c H locs 0 0 Q (F0 m pc ls [.int v])) {x1 : Int32} (ls : Array Slot) (hl : lv_has ls 2 [(0, .ref (ad 2)), (1, .int (x1))]) (h : fC2_functionOf σ x1 = some r) : W p l e rm_C2_functionOf s m args below meth c H locs 0 0 Q (F0 m 0 ls []) := by
  obtain ⟨hx, hb, hml, hown, hts⟩ := id C
  unfold fC2_functionOf at h
  refine lv_aload_n hx hb dC2_functionOf_0 rfl (lv_at hl 0 rfl) ?_
  refine va_get (D := (dC, dI)) (ci := 2) (v := .ref (ad 1)) (C := RC2) (T := TC2) (N := 10) hx hb hts inC2 hown hK hP 2 rfl rfl 0 (by decide) (hts _ mw_57) (fun _ h9 => h9) rfl dC2_functionOf_1 ?_
  refine lv_iload_n hx hb dC2_functionOf_4 rfl (lv_at hl 1 rfl) ?_
  obtain ⟨v1, ev1, h⟩ := Option.bind_eq_some_iff.mp h
  refine gcall_r (b := ad 1) (As := [.int (x1)]) (rest := []) C hK hP (ci := 1) (q0 := 1) rfl rfl (kC1_isTold l dC dI ad cA σ x1 v1 ev1) (cwV 1 hts (gw mw_58 mw_10 mw_11 mw_7 mw_12) rfl rfl rfl hdC1_isTold ⟨Nat.le_of_ble_eq_true rfl, Nat.le_of_ble_eq_true rfl⟩) rfl hl.1 rfl (Nat.le_of_ble_eq_true rfl) dC2_functionOf_5 ⟨Nat.le_refl _, Nat.le_refl _⟩ ?_
  refine lv_if_eq (tgt := 23) hx hb dC2_functionOf_8 (by decide) (fun c3 => ?_) (fun c3 => ?_)
  · have h := (if_pos c3).symm.trans h
    refine lv_iconst (v := (-1 : Int32)) hx hb dC2_functionOf_23 (by decide) ?_
    exact hend _ _ _ (Option.some.inj h) dC2_functionOf_24
  · have h := (if_neg c3).symm.trans h
    refine lv_aload_n hx hb dC2_functionOf_11 rfl (lv_at hl 0 rfl) ?_
    refine va_get (D := (dC, dI)) (ci := 2) (v := .ref (ad 15)) (C := RC2) (T := TC2) (N := 10) hx hb hts inC2 hown hK hP 2 rfl rfl 7 (by decide) (hts _ mw_139) (fun _ h9 => h9) rfl dC2_functionOf_12 ?_
    refine lv_iload_n hx hb dC2_functionOf_15 rfl (lv_at hl 1 rfl) ?_
    refine lv_bipush (v := (16 : Int32)) hx hb dC2_functionOf_16 (by decide) ?_
    refine lv_isub hx hb dC2_functionOf_18 ?_
    obtain ⟨b2, h⟩ := gx_nb h
    refine va_iald hx hb hK hP 15 10 rfl rfl b2 dC2_functionOf_19 ?_
    refine lv_goto (tgt := 24) hx hb dC2_functionOf_20 (by decide) ?_
    exact hend _ _ _ (Option.some.inj h) dC2_functionOf_24
set_option maxHeartbeats 4000000 in
set_option maxRecDepth 100000 in
theorem kC2_functionOf (l : Launch) (dC : Nat → ClassId) (dI : Nat → Nat → Nat) (ad : Nat → Nat) (cA : Nat → ClassId) (σ : xSt) (x1 : Int32) (r : Int32) (h : fC2_functionOf σ x1 = some r) : Met l yC2_functionOf wsC2_functionOf rm_C2_functionOf (va_Pc [.ref (ad 2), .int (x1)] (fun U => va_P (dC, dI) vwC (xW ad cA σ) U.heap ∧ va_K (dC, dI) vwC (xT cA) U)) (vp_Si (fun v => v = r)) 0 0 (fun _ => False) := by
  refine Met.ofW (cc := cC2_functionOf) (maxL := 2) (ret := (some .int)) (by decide) rfl ?_
  intro p e s m args below meth c s₁ B hml hv
  obtain ⟨rfl, hP, hK⟩ := hv
  have hr := B.returns
  have hlocks := B.notSynchronized
  have hl := lv_entry ([.ref (ad 2), .int (x1)]) (n := 2) (Nat.le_of_ble_eq_true rfl)
  rw [lg_entry_eq]
  exact wC2_functionOf ⟨B.exec, B.bytes, hml, findClass_of_methodNamed B.named, fun w h => atoms_spec (ws := wsC2_functionOf) B.pre w (List.mem_cons_of_mem _ h)⟩ hK hP (fun v pc ls hv hd => W.iret (v := v) B.exec B.bytes hr (fun t ht hW => ⟨v, rfl, hv, ht⟩) (fun q hq => absurd hq List.not_mem_nil) hd) _ hl h
abbrev rm_C0_function : Room := { frames := 6, cells := 0, slots := 0, locals := 139 }
def fC0_function (σ : xSt) (x1 : Int32) : Option (Int32 × xSt) :=
  (fC1_isType σ x1).bind fun v1 =>
  if v1 = 0 then
    some ((-2 : Int32), σ)
  else
    (fC2_settleFunctions σ).bind fun σ3 =>
    (fC2_functionOf σ3 x1).bind fun v4 =>
    some (v4, σ3)
set_option maxHeartbeats 4000000 in
set_option maxRecDepth 100000 in
theorem wC0_function {p : Program} {l : Launch} {e : Env} {s : State} {m : MethodId} {args : Array Value} {below : List Frame} {meth : Method} {c : Code} {Q : State → Prop} {dC : Nat → ClassId} {dI : Nat → Nat → Nat} {ad : Nat → Nat} {cA : Nat → ClassId} {r : (Int32 × xSt)} (C : CallFix p m c cC0_function 2 s args wAll RC0) (hK : va_K (dC, dI) vwC (xT cA) s) (hend : ∀ (v : Int32) (σ : xSt) (H : Heap) (locs : List Loc) (pc : Nat) (ls : Array Slot), (v, σ) = r → va_P (dC, dI) vwC (xW ad cA σ) H → va_S (xA ad) s.heap H locs → decode cC0_function pc = .ok (.ireturn, 1) → W p l e rm_C0_function s m args below meth c H locs 0 0 Q (F0 m pc ls [.int v])) {H : Heap} {locs : List Loc} {σ : xSt} (hP : va_P (dC, dI) vwC (xW ad cA σ) H) (hD : va_D (xA ad) (xW ad cA σ)) (hS : va_S (xA ad) s.heap H locs) {x1 : Int32} (ls : Array Slot) (hl : lv_has ls 2 [(0, .ref (ad 0)), (1, .int (x1))]) (h : fC0_function σ x1 = some r) : W p l e rm_C0_function s m args below meth c H locs 0 0 Q (F0 m 0 ls []) := by
  obtain ⟨hx, hb, hml, hown, hts⟩ := id C
  unfold fC0_function at h
  refine lv_aload_n hx hb dC0_function_0 rfl (lv_at hl 0 rfl) ?_
  refine va_get (D := (dC, dI)) (ci := 0) (v := .ref (ad 1)) (C := RC0) (T := TC0) (N := 5) hx hb hts inC0 hown hK hP 0 rfl rfl 0 (by decide) (hts _ mw_0) (fun _ h9 => h9) rfl dC0_function_1 ?_
  refine lv_iload_n hx hb dC0_function_4 rfl (lv_at hl 1 rfl) ?_
  obtain ⟨v1, ev1, h⟩ := Option.bind_eq_some_iff.mp h
  refine gcall_r (b := ad 1) (As := [.int (x1)]) (rest := []) C hK hP (ci := 1) (q0 := 1) rfl rfl (kC1_isType l dC dI ad cA σ x1 v1 ev1) (cwV 1 hts (gw mw_123 mw_124 mw_125 mw_7 mw_126) rfl rfl rfl hdC1_isType ⟨Nat.le_of_ble_eq_true rfl, Nat.le_of_ble_eq_true rfl⟩) rfl hl.1 rfl (Nat.le_of_ble_eq_true rfl) dC0_function_5 ⟨Nat.le_refl _, Nat.le_refl _⟩ ?_
  refine lv_if_ne (tgt := 14) hx hb dC0_function_8 (by decide) (fun c5 => ?_) (fun c5 => ?_)
  · have h := (if_neg c5).symm.trans h
    refine lv_aload_n hx hb dC0_function_14 rfl (lv_at hl 0 rfl) ?_
    refine va_get (D := (dC, dI)) (ci := 0) (v := .ref (ad 2)) (C := RC0) (T := TC0) (N := 5) hx hb hts inC0 hown hK hP 0 rfl rfl 1 (by decide) (hts _ mw_35) (fun _ h9 => h9) rfl dC0_function_15 ?_
    obtain ⟨σ3, eσ3, h⟩ := Option.bind_eq_some_iff.mp h
    refine gcall_v (wd := xW ad cA) (b := ad 2) (As := []) (rest := []) xkeys C hK hP hD hS (ci := 2) (q0 := 2) rfl rfl (kC2_settleFunctions l dC dI ad cA σ σ3 eσ3) (cwV 0 hts (gw mw_157 mw_158 mw_159 mw_40 mw_160) rfl rfl rfl hdC2_settleFunctions ⟨Nat.le_of_ble_eq_true rfl, Nat.le_of_ble_eq_true rfl⟩) rfl hl.1 rfl (Nat.le_of_ble_eq_true rfl) dC0_function_18 ⟨Nat.le_refl _, Nat.le_refl _⟩ (fun H locs hP hD hS => ?_)
    refine lv_aload_n hx hb dC0_function_21 rfl (lv_at hl 0 rfl) ?_
    refine va_get (D := (dC, dI)) (ci := 0) (v := .ref (ad 2)) (C := RC0) (T := TC0) (N := 5) hx hb hts inC0 hown hK hP 0 rfl rfl 1 (by decide) (hts _ mw_35) (fun _ h9 => h9) rfl dC0_function_22 ?_
    refine lv_iload_n hx hb dC0_function_25 rfl (lv_at hl 1 rfl) ?_
    obtain ⟨v4, ev4, h⟩ := Option.bind_eq_some_iff.mp h
    refine gcall_r (b := ad 2) (As := [.int (x1)]) (rest := []) C hK hP (ci := 2) (q0 := 2) rfl rfl (kC2_functionOf l dC dI ad cA σ3 x1 v4 ev4) (cwV 1 hts (gw mw_161 mw_162 mw_163 mw_40 mw_164) rfl rfl rfl hdC2_functionOf ⟨Nat.le_of_ble_eq_true rfl, Nat.le_of_ble_eq_true rfl⟩) rfl hl.1 rfl (Nat.le_of_ble_eq_true rfl) dC0_function_26 ⟨Nat.le_refl _, Nat.le_refl _⟩ ?_
    exact hend _ _ _ _ _ _ (Option.some.inj h) hP hS dC0_function_29
  · have h := (if_pos c5).symm.trans h
    refine lv_bipush (v := (-2 : Int32)) hx hb dC0_function_11 (by decide) ?_
    exact hend _ _ _ _ _ _ (Option.some.inj h) hP hS dC0_function_13
set_option maxHeartbeats 4000000 in
set_option maxRecDepth 100000 in
theorem kC0_function (l : Launch) (dC : Nat → ClassId) (dI : Nat → Nat → Nat) (ad : Nat → Nat) (cA : Nat → ClassId) (σ : xSt) (x1 : Int32) (r : (Int32 × xSt)) (h : fC0_function σ x1 = some r) : Met l yC0_function wsC0_function rm_C0_function (va_Pc [.ref (ad 0), .int (x1)] (fun U => va_P (dC, dI) vwC (xW ad cA σ) U.heap ∧ va_K (dC, dI) vwC (xT cA) U ∧ va_D (xA ad) (xW ad cA σ))) (va_Qi (fun (v : Int32) (u : xSt) => (v, u) = r) (fun u t => va_P (dC, dI) vwC (xW ad cA u) t.heap) (xA ad)) 0 0 (xA ad) := by
  refine Met.ofW (cc := cC0_function) (maxL := 2) (ret := (some .int)) (by decide) rfl ?_
  intro p e s m args below meth c s₁ B hml hv
  obtain ⟨rfl, hP, hK, hD⟩ := hv
  have hr := B.returns
  have hlocks := B.notSynchronized
  have hl := lv_entry ([.ref (ad 0), .int (x1)]) (n := 2) (Nat.le_of_ble_eq_true rfl)
  rw [lg_entry_eq]
  exact wC0_function ⟨B.exec, B.bytes, hml, findClass_of_methodNamed B.named, fun w h => atoms_spec (ws := wsC0_function) B.pre w (List.mem_cons_of_mem _ h)⟩ hK (fun v σ H locs pc ls hv hP hS hd => W.iret (v := v) B.exec B.bytes hr (fun t ht hW => ⟨⟨v, σ, rfl, hv, by show va_P _ _ _ t.heap; rw [ht]; exact hP⟩, hS.F ht⟩) hS.2.2 hd) hP hD va_S.rf _ hl h
abbrev rm_C0_canBeAsked : Room := { frames := 1, cells := 0, slots := 0, locals := 21 }
def fC0_canBeAsked (σ : xSt) (x1 : Int32) (x2 : Int32) (x3 : Int32) : Option Int32 :=
  (fC1_isTold σ x1).bind fun v1 =>
  if v1 = 0 then
    some (0 : Int32)
  else
    if x2 < 0 then
      some (0 : Int32)
    else
      if (16 : Int32) ≤ x2 then
        some (0 : Int32)
      else
        if x3 = (-1 : Int32) then
          some (1 : Int32)
        else
          (fC1_isTold σ x3).bind fun v2 =>
          if v2 = 0 then
            some (0 : Int32)
          else
            some (1 : Int32)
set_option maxHeartbeats 4000000 in
set_option maxRecDepth 100000 in
theorem wC0_canBeAsked {p : Program} {l : Launch} {e : Env} {s : State} {m : MethodId} {args : Array Value} {below : List Frame} {meth : Method} {c : Code} {Q : State → Prop} {dC : Nat → ClassId} {dI : Nat → Nat → Nat} {ad : Nat → Nat} {cA : Nat → ClassId} {r : Int32} {H : Heap} {locs : List Loc} {σ : xSt} (C : CallFix p m c cC0_canBeAsked 4 s args wAll RC0) (hK : va_K (dC, dI) vwC (xT cA) s) (hP : va_P (dC, dI) vwC (xW ad cA σ) H) (hend : ∀ (v : Int32) (pc : Nat) (ls : Array Slot), v = r → narrow .boolean (.int v) = .int v → decode cC0_canBeAsked pc = .ok (.ireturn, 1) → W p l e rm_C0_canBeAsked s m args below meth c H locs 0 0 Q (F0 m pc ls [.int v])) {x1 : Int32} {x2 : Int32} {x3 : Int32} (ls : Array Slot) (hl : lv_has ls 4 [(0, .ref (ad 0)), (1, .int (x1)), (2, .int (x2)), (3, .int (x3))]) (h : fC0_canBeAsked σ x1 x2 x3 = some r) : W p l e rm_C0_canBeAsked s m args below meth c H locs 0 0 Q (F0 m 0 ls []) := by
  obtain ⟨hx, hb, hml, hown, hts⟩ := id C
  unfold fC0_canBeAsked at h
  refine lv_aload_n hx hb dC0_canBeAsked_0 rfl (lv_at hl 0 rfl) ?_
  refine va_get (D := (dC, dI)) (ci := 0) (v := .ref (ad 1)) (C := RC0) (T := TC0) (N := 5) hx hb hts inC0 hown hK hP 0 rfl rfl 0 (by decide) (hts _ mw_0) (fun _ h9 => h9) rfl dC0_canBeAsked_1 ?_
  refine lv_iload_n hx hb dC0_canBeAsked_4 rfl (lv_at hl 1 rfl) ?_
  obtain ⟨v1, ev1, h⟩ := Option.bind_eq_some_iff.mp h
  refine gcall_r (b := ad 1) (As := [.int (x1)]) (rest := []) C hK hP (ci := 1) (q0 := 1) rfl rfl (kC1_isTold l dC dI ad cA σ x1 v1 ev1) (cwV 1 hts (gw mw_9 mw_10 mw_11 mw_7 mw_12) rfl rfl rfl hdC1_isTold ⟨Nat.le_of_ble_eq_true rfl, Nat.le_of_ble_eq_true rfl⟩) rfl hl.1 rfl (Nat.le_of_ble_eq_true rfl) dC0_canBeAsked_5 ⟨Nat.le_refl _, Nat.le_refl _⟩ ?_
  refine lv_if_eq (tgt := 41) hx hb dC0_canBeAsked_8 (by decide) (fun c7 => ?_) (fun c7 => ?_)
  · have h := (if_pos c7).symm.trans h
    refine lv_iconst (v := (0 : Int32)) hx hb dC0_canBeAsked_41 (by decide) ?_
    exact hend _ _ _ (Option.some.inj h) rfl dC0_canBeAsked_42
  · have h := (if_neg c7).symm.trans h
    refine lv_iload_n hx hb dC0_canBeAsked_11 rfl (lv_at hl 2 rfl) ?_
    refine lv_if_lt (tgt := 41) hx hb dC0_canBeAsked_12 (by decide) (fun c6 => ?_) (fun c6 => ?_)
    · have h := (if_pos c6).symm.trans h
      refine lv_iconst (v := (0 : Int32)) hx hb dC0_canBeAsked_41 (by decide) ?_
      exact hend _ _ _ (Option.some.inj h) rfl dC0_canBeAsked_42
    · have h := (if_neg c6).symm.trans h
      refine lv_iload_n hx hb dC0_canBeAsked_15 rfl (lv_at hl 2 rfl) ?_
      refine lv_bipush (v := (16 : Int32)) hx hb dC0_canBeAsked_16 (by decide) ?_
      refine lv_icmp_ge (tgt := 41) hx hb dC0_canBeAsked_18 (by decide) (fun c5 => ?_) (fun c5 => ?_)
      · have h := (if_pos c5).symm.trans h
        refine lv_iconst (v := (0 : Int32)) hx hb dC0_canBeAsked_41 (by decide) ?_
        exact hend _ _ _ (Option.some.inj h) rfl dC0_canBeAsked_42
      · have h := (if_neg c5).symm.trans h
        refine lv_iload_n hx hb dC0_canBeAsked_21 rfl (lv_at hl 3 rfl) ?_
        refine lv_iconst (v := (-1 : Int32)) hx hb dC0_canBeAsked_22 (by decide) ?_
        refine lv_icmp_eq (tgt := 37) hx hb dC0_canBeAsked_23 (by decide) (fun c4 => ?_) (fun c4 => ?_)
        · have h := (if_pos c4).symm.trans h
          refine lv_iconst (v := (1 : Int32)) hx hb dC0_canBeAsked_37 (by decide) ?_
          refine lv_goto (tgt := 42) hx hb dC0_canBeAsked_38 (by decide) ?_
          exact hend _ _ _ (Option.some.inj h) rfl dC0_canBeAsked_42
        · have h := (if_neg c4).symm.trans h
          refine lv_aload_n hx hb dC0_canBeAsked_26 rfl (lv_at hl 0 rfl) ?_
          refine va_get (D := (dC, dI)) (ci := 0) (v := .ref (ad 1)) (C := RC0) (T := TC0) (N := 5) hx hb hts inC0 hown hK hP 0 rfl rfl 0 (by decide) (hts _ mw_0) (fun _ h9 => h9) rfl dC0_canBeAsked_27 ?_
          refine lv_iload_n hx hb dC0_canBeAsked_30 rfl (lv_at hl 3 rfl) ?_
          obtain ⟨v2, ev2, h⟩ := Option.bind_eq_some_iff.mp h
          refine gcall_r (b := ad 1) (As := [.int (x3)]) (rest := []) C hK hP (ci := 1) (q0 := 1) rfl rfl (kC1_isTold l dC dI ad cA σ x3 v2 ev2) (cwV 1 hts (gw mw_9 mw_10 mw_11 mw_7 mw_12) rfl rfl rfl hdC1_isTold ⟨Nat.le_of_ble_eq_true rfl, Nat.le_of_ble_eq_true rfl⟩) rfl hl.1 rfl (Nat.le_of_ble_eq_true rfl) dC0_canBeAsked_31 ⟨Nat.le_refl _, Nat.le_refl _⟩ ?_
          refine lv_if_eq (tgt := 41) hx hb dC0_canBeAsked_34 (by decide) (fun c3 => ?_) (fun c3 => ?_)
          · have h := (if_pos c3).symm.trans h
            refine lv_iconst (v := (0 : Int32)) hx hb dC0_canBeAsked_41 (by decide) ?_
            exact hend _ _ _ (Option.some.inj h) rfl dC0_canBeAsked_42
          · have h := (if_neg c3).symm.trans h
            refine lv_iconst (v := (1 : Int32)) hx hb dC0_canBeAsked_37 (by decide) ?_
            refine lv_goto (tgt := 42) hx hb dC0_canBeAsked_38 (by decide) ?_
            exact hend _ _ _ (Option.some.inj h) rfl dC0_canBeAsked_42
set_option maxHeartbeats 4000000 in
set_option maxRecDepth 100000 in
theorem kC0_canBeAsked (l : Launch) (dC : Nat → ClassId) (dI : Nat → Nat → Nat) (ad : Nat → Nat) (cA : Nat → ClassId) (σ : xSt) (x1 : Int32) (x2 : Int32) (x3 : Int32) (r : Int32) (h : fC0_canBeAsked σ x1 x2 x3 = some r) : Met l yC0_canBeAsked wsC0_canBeAsked rm_C0_canBeAsked (va_Pc [.ref (ad 0), .int (x1), .int (x2), .int (x3)] (fun U => va_P (dC, dI) vwC (xW ad cA σ) U.heap ∧ va_K (dC, dI) vwC (xT cA) U)) (vp_Si (fun v => v = r)) 0 0 (fun _ => False) := by
  refine Met.ofW (cc := cC0_canBeAsked) (maxL := 4) (ret := (some .boolean)) (by decide) rfl ?_
  intro p e s m args below meth c s₁ B hml hv
  obtain ⟨rfl, hP, hK⟩ := hv
  have hr := B.returns
  have hlocks := B.notSynchronized
  have hl := lv_entry ([.ref (ad 0), .int (x1), .int (x2), .int (x3)]) (n := 4) (Nat.le_of_ble_eq_true rfl)
  rw [lg_entry_eq]
  exact wC0_canBeAsked ⟨B.exec, B.bytes, hml, findClass_of_methodNamed B.named, fun w h => atoms_spec (ws := wsC0_canBeAsked) B.pre w (List.mem_cons_of_mem _ h)⟩ hK hP (fun v pc ls hv hn hd => W.zret (v := v) B.exec B.bytes hr hn (fun t ht hW => ⟨v, rfl, hv, ht⟩) (fun q hq => absurd hq List.not_mem_nil) hd) _ hl h
abbrev rm_C2_listSeen_5 : Room := { frames := 4, cells := 0, slots := 0, locals := 94 }
def fC2_listSeen_5_b55 (k6 : xSt → Int32 → Int32 → Int32 → Int32 → Int32 → Option (Int32 × xSt)) (σ : xSt) (x1 : Int32) (x2 : Int32) (x3 : Int32) (x5 : Int32) (x6 : Int32) : Option (Int32 × xSt) :=
  k6 σ x1 x2 x3 x5 (x6 + (1 : Int32))
set_option maxHeartbeats 4000000 in
set_option maxRecDepth 100000 in
theorem wC2_listSeen_5_b55 {p : Program} {l : Launch} {e : Env} {s : State} {m : MethodId} {args : Array Value} {below : List Frame} {meth : Method} {c : Code} {Q : State → Prop} {dC : Nat → ClassId} {dI : Nat → Nat → Nat} {ad : Nat → Nat} {cA : Nat → ClassId} {r : (Int32 × xSt)} (C : CallFix p m c cC2_listSeen 7 s args wAll RC2) (hK : va_K (dC, dI) vwC (xT cA) s) (hend : ∀ (v : Int32) (σ : xSt) (H : Heap) (locs : List Loc) (pc : Nat) (ls : Array Slot), (v, σ) = r → va_P (dC, dI) vwC (xW ad cA σ) H → va_S (xA ad) s.heap H locs → decode cC2_listSeen pc = .ok (.ireturn, 1) → W p l e rm_C2_listSeen_5 s m args below meth c H locs 0 0 Q (F0 m pc ls [.int v])) {k6 : xSt → Int32 → Int32 → Int32 → Int32 → Int32 → Option (Int32 × xSt)} (hk6 : ∀ (σ : xSt) (H : Heap) (locs : List Loc) (x1 : Int32) (x2 : Int32) (x3 : Int32) (x5 : Int32) (x6 : Int32) (ls : Array Slot), va_P (dC, dI) vwC (xW ad cA σ) H → va_D (xA ad) (xW ad cA σ) → va_S (xA ad) s.heap H locs → lv_has ls 7 [(0, .ref (ad 2)), (1, .int (x1)), (2, .int (x2)), (3, .int (x3)), (4, .ref (ad 5)), (5, .int (x5)), (6, .int (x6))] → k6 σ x1 x2 x3 x5 x6 = some r → W p l e rm_C2_listSeen_5 s m args below meth c H locs 0 0 Q (F0 m 6 ls [])) :
    ∀ (σ : xSt) (H : Heap) (locs : List Loc) (x1 : Int32) (x2 : Int32) (x3 : Int32) (x5 : Int32) (x6 : Int32) (ls : Array Slot), va_P (dC, dI) vwC (xW ad cA σ) H → va_D (xA ad) (xW ad cA σ) → va_S (xA ad) s.heap H locs → lv_has ls 7 [(0, .ref (ad 2)), (1, .int (x1)), (2, .int (x2)), (3, .int (x3)), (4, .ref (ad 5)), (5, .int (x5)), (6, .int (x6))] → fC2_listSeen_5_b55 k6 σ x1 x2 x3 x5 x6 = some r → W p l e rm_C2_listSeen_5 s m args below meth c H locs 0 0 Q (F0 m 55 ls []) := by
  obtain ⟨hx, hb, hml, hown, hts⟩ := id C
  intro σ H locs x1 x2 x3 x5 x6 ls hP hD hS hl h
  unfold fC2_listSeen_5_b55 at h
  refine lv_iinc (v := x6 + (1 : Int32)) (lv' := [(6, .int (x6 + (1 : Int32))), (0, .ref (ad 2)), (1, .int (x1)), (2, .int (x2)), (3, .int (x3)), (4, .ref (ad 5)), (5, .int (x5))]) hx hb dC2_listSeen_55 hl (k := 6) rfl rfl (by decide) rfl (fun ls hl => ?_)
  refine lv_goto (tgt := 6) hx hb dC2_listSeen_58 (by decide) ?_
  exact hk6 _ _ _ _ _ _ _ _ _ hP hD hS (lv_sub hl [1, 2, 3, 4, 5, 6, 0] rfl) h
def fC2_listSeen_5_b6 : Nat → xSt → Int32 → Int32 → Int32 → Int32 → Int32 → Option (Int32 × xSt)
  | 0, _, _, _, _, _, _ => none
  | n + 1, σ, x1, x2, x3, x5, x6 =>
    if (σ.1 2 9) ≤ x6 then
      some (x5, σ)
    else
      if (60 : Int32) ≤ x5 then
        some (x5, σ)
      else
        if x6 < 0 ∨ 61 ≤ x6.toNatClampNeg then none else
        if (σ.1 10 x6.toNatClampNeg) = x2 then
          (fC2_isSeen σ x6 x1 x3).bind fun v2 =>
          if v2 = 0 then
            fC2_listSeen_5_b55 (fC2_listSeen_5_b6 n) σ x1 x2 x3 x5 x6
          else
            if x5 < 0 ∨ 60 ≤ x5.toNatClampNeg then none else
            nm (sI σ 5 x5.toNatClampNeg x6) fun σ4 =>
            fC2_listSeen_5_b55 (fC2_listSeen_5_b6 n) σ4 x1 x2 x3 (x5 + (1 : Int32)) x6
        else
          fC2_listSeen_5_b55 (fC2_listSeen_5_b6 n) σ x1 x2 x3 x5 x6
set_option maxHeartbeats 4000000 in
set_option maxRecDepth 100000 in
theorem wC2_listSeen_5_b6 {p : Program} {l : Launch} {e : Env} {s : State} {m : MethodId} {args : Array Value} {below : List Frame} {meth : Method} {c : Code} {Q : State → Prop} {dC : Nat → ClassId} {dI : Nat → Nat → Nat} {ad : Nat → Nat} {cA : Nat → ClassId} {r : (Int32 × xSt)} (C : CallFix p m c cC2_listSeen 7 s args wAll RC2) (hK : va_K (dC, dI) vwC (xT cA) s) (hend : ∀ (v : Int32) (σ : xSt) (H : Heap) (locs : List Loc) (pc : Nat) (ls : Array Slot), (v, σ) = r → va_P (dC, dI) vwC (xW ad cA σ) H → va_S (xA ad) s.heap H locs → decode cC2_listSeen pc = .ok (.ireturn, 1) → W p l e rm_C2_listSeen_5 s m args below meth c H locs 0 0 Q (F0 m pc ls [.int v])) :
    ∀ (n : Nat) (σ : xSt) (H : Heap) (locs : List Loc) (x1 : Int32) (x2 : Int32) (x3 : Int32) (x5 : Int32) (x6 : Int32) (ls : Array Slot), va_P (dC, dI) vwC (xW ad cA σ) H → va_D (xA ad) (xW ad cA σ) → va_S (xA ad) s.heap H locs → lv_has ls 7 [(0, .ref (ad 2)), (1, .int (x1)), (2, .int (x2)), (3, .int (x3)), (4, .ref (ad 5)), (5, .int (x5)), (6, .int (x6))] → fC2_listSeen_5_b6 n σ x1 x2 x3 x5 x6 = some r → W p l e rm_C2_listSeen_5 s m args below meth c H locs 0 0 Q (F0 m 6 ls []) := by
  obtain ⟨hx, hb, hml, hown, hts⟩ := id C
  intro n
  induction n with
  | zero =>
    intro σ H locs x1 x2 x3 x5 x6 ls hP hD hS hl h
    rw [fC2_listSeen_5_b6] at h
    cases h
  | succ n ih =>
    intro σ H locs x1 x2 x3 x5 x6 ls hP hD hS hl h
    rw [fC2_listSeen_5_b6] at h
    refine lv_iload hx hb dC2_listSeen_6 (lv_at hl 6 rfl) ?_
    refine lv_aload_n hx hb dC2_listSeen_8 rfl (lv_at hl 0 rfl) ?_
    refine va_get (D := (dC, dI)) (ci := 2) (v := .int (σ.1 2 9)) (C := RC2) (T := TC2) (N := 10) hx hb hts inC2 hown hK hP 2 rfl rfl 9 (by decide) (hts _ mw_43) (fun _ h9 => h9) rfl dC2_listSeen_9 ?_
    refine lv_icmp_ge (tgt := 61) hx hb dC2_listSeen_12 (by decide) (fun c8 => ?_) (fun c8 => ?_)
    · have h := (if_pos c8).symm.trans h
      refine lv_iload hx hb dC2_listSeen_61 (lv_at hl 5 rfl) ?_
      exact hend _ _ _ _ _ _ (Option.some.inj h) hP hS dC2_listSeen_63
    · have h := (if_neg c8).symm.trans h
      refine lv_iload hx hb dC2_listSeen_15 (lv_at hl 5 rfl) ?_
      refine lv_aload hx hb dC2_listSeen_17 (lv_at hl 4 rfl) ?_
      refine va_alen (v := (60 : Int32)) hx hb hK hP 5 0 rfl rfl rfl dC2_listSeen_19 ?_
      refine lv_icmp_ge (tgt := 61) hx hb dC2_listSeen_20 (by decide) (fun c7 => ?_) (fun c7 => ?_)
      · have h := (if_pos c7).symm.trans h
        refine lv_iload hx hb dC2_listSeen_61 (lv_at hl 5 rfl) ?_
        exact hend _ _ _ _ _ _ (Option.some.inj h) hP hS dC2_listSeen_63
      · have h := (if_neg c7).symm.trans h
        refine lv_aload_n hx hb dC2_listSeen_23 rfl (lv_at hl 0 rfl) ?_
        refine va_get (D := (dC, dI)) (ci := 2) (v := .ref (ad 10)) (C := RC2) (T := TC2) (N := 10) hx hb hts inC2 hown hK hP 2 rfl rfl 2 (by decide) (hts _ mw_44) (fun _ h9 => h9) rfl dC2_listSeen_24 ?_
        refine lv_iload hx hb dC2_listSeen_27 (lv_at hl 6 rfl) ?_
        obtain ⟨b1, h⟩ := gx_nb h
        refine va_iald hx hb hK hP 10 5 rfl rfl b1 dC2_listSeen_29 ?_
        refine lv_iload_n hx hb dC2_listSeen_30 rfl (lv_at hl 2 rfl) ?_
        refine lv_icmp_ne (tgt := 55) hx hb dC2_listSeen_31 (by decide) (fun c6 => ?_) (fun c6 => ?_)
        · have h := (if_neg c6).symm.trans h
          exact wC2_listSeen_5_b55 C hK hend ih _ _ _ _ _ _ _ _ _ hP hD hS (lv_sub hl [0, 1, 2, 3, 4, 5, 6] rfl) h
        · have h := (if_pos c6).symm.trans h
          refine lv_aload_n hx hb dC2_listSeen_34 rfl (lv_at hl 0 rfl) ?_
          refine lv_iload hx hb dC2_listSeen_35 (lv_at hl 6 rfl) ?_
          refine lv_iload_n hx hb dC2_listSeen_37 rfl (lv_at hl 1 rfl) ?_
          refine lv_iload_n hx hb dC2_listSeen_38 rfl (lv_at hl 3 rfl) ?_
          obtain ⟨v2, ev2, h⟩ := Option.bind_eq_some_iff.mp h
          refine gcall_r (b := ad 2) (As := [.int (x6), .int (x1), .int (x3)]) (rest := []) C hK hP (ci := 2) (q0 := 2) rfl rfl (kC2_isSeen l dC dI ad cA σ x6 x1 x3 v2 ev2) (cwV 3 hts (gw mw_149 mw_150 mw_151 mw_40 mw_152) rfl rfl rfl hdC2_isSeen ⟨Nat.le_of_ble_eq_true rfl, Nat.le_of_ble_eq_true rfl⟩) rfl hl.1 rfl (Nat.le_of_ble_eq_true rfl) dC2_listSeen_39 ⟨Nat.le_refl _, Nat.le_refl _⟩ ?_
          refine lv_if_eq (tgt := 55) hx hb dC2_listSeen_42 (by decide) (fun c5 => ?_) (fun c5 => ?_)
          · have h := (if_pos c5).symm.trans h
            exact wC2_listSeen_5_b55 C hK hend ih _ _ _ _ _ _ _ _ _ hP hD hS (lv_sub hl [0, 1, 2, 3, 4, 5, 6] rfl) h
          · have h := (if_neg c5).symm.trans h
            refine lv_aload hx hb dC2_listSeen_45 (lv_at hl 4 rfl) ?_
            refine lv_iload hx hb dC2_listSeen_47 (lv_at hl 5 rfl) ?_
            refine lv_iload hx hb dC2_listSeen_49 (lv_at hl 6 rfl) ?_
            obtain ⟨b3, h⟩ := gx_nb h
            refine va_iast hx hb hK hP hD hS 5 0 rfl rfl b3 dC2_listSeen_51 (fun H locs hP hD hS => ?_)
            obtain ⟨σ4, eσ4⟩ : ∃ z, z = sI σ 5 x5.toNatClampNeg x6 := ⟨_, rfl⟩
            have hP : va_P (dC, dI) vwC (xW ad cA σ4) H := by rw [eσ4]; exact hP
            have hD : va_D (xA ad) (xW ad cA σ4) := by rw [eσ4]; exact hD
            have h := nm_at eσ4 h
            refine lv_iinc (v := x5 + (1 : Int32)) (lv' := [(5, .int (x5 + (1 : Int32))), (0, .ref (ad 2)), (1, .int (x1)), (2, .int (x2)), (3, .int (x3)), (4, .ref (ad 5)), (6, .int (x6))]) hx hb dC2_listSeen_52 hl (k := 5) rfl rfl (by decide) rfl (fun ls hl => ?_)
            exact wC2_listSeen_5_b55 C hK hend ih _ _ _ _ _ _ _ _ _ hP hD hS (lv_sub hl [1, 2, 3, 4, 5, 0, 6] rfl) h
def fC2_listSeen_5 (σ : xSt) (x1 : Int32) (x2 : Int32) (x3 : Int32) : Option (Int32 × xSt) :=
  fC2_listSeen_5_b6 gF σ x1 x2 x3 (0 : Int32) (0 : Int32)
set_option maxHeartbeats 4000000 in
set_option maxRecDepth 100000 in
theorem wC2_listSeen_5 {p : Program} {l : Launch} {e : Env} {s : State} {m : MethodId} {args : Array Value} {below : List Frame} {meth : Method} {c : Code} {Q : State → Prop} {dC : Nat → ClassId} {dI : Nat → Nat → Nat} {ad : Nat → Nat} {cA : Nat → ClassId} {r : (Int32 × xSt)} (C : CallFix p m c cC2_listSeen 7 s args wAll RC2) (hK : va_K (dC, dI) vwC (xT cA) s) (hend : ∀ (v : Int32) (σ : xSt) (H : Heap) (locs : List Loc) (pc : Nat) (ls : Array Slot), (v, σ) = r → va_P (dC, dI) vwC (xW ad cA σ) H → va_S (xA ad) s.heap H locs → decode cC2_listSeen pc = .ok (.ireturn, 1) → W p l e rm_C2_listSeen_5 s m args below meth c H locs 0 0 Q (F0 m pc ls [.int v])) {H : Heap} {locs : List Loc} {σ : xSt} (hP : va_P (dC, dI) vwC (xW ad cA σ) H) (hD : va_D (xA ad) (xW ad cA σ)) (hS : va_S (xA ad) s.heap H locs) {x1 : Int32} {x2 : Int32} {x3 : Int32} (ls : Array Slot) (hl : lv_has ls 7 [(0, .ref (ad 2)), (1, .int (x1)), (2, .int (x2)), (3, .int (x3)), (4, .ref (ad 5))]) (h : fC2_listSeen_5 σ x1 x2 x3 = some r) : W p l e rm_C2_listSeen_5 s m args below meth c H locs 0 0 Q (F0 m 0 ls []) := by
  obtain ⟨hx, hb, hml, hown, hts⟩ := id C
  unfold fC2_listSeen_5 at h
  refine lv_iconst (v := (0 : Int32)) hx hb dC2_listSeen_0 (by decide) ?_
  refine lv_istore (lv' := [(5, .int ((0 : Int32))), (0, .ref (ad 2)), (1, .int (x1)), (2, .int (x2)), (3, .int (x3)), (4, .ref (ad 5))]) hx hb dC2_listSeen_1 hl (by decide) rfl (fun ls hl => ?_)
  refine lv_iconst (v := (0 : Int32)) hx hb dC2_listSeen_3 (by decide) ?_
  refine lv_istore (lv' := [(6, .int ((0 : Int32))), (5, .int ((0 : Int32))), (0, .ref (ad 2)), (1, .int (x1)), (2, .int (x2)), (3, .int (x3)), (4, .ref (ad 5))]) hx hb dC2_listSeen_4 hl (by decide) rfl (fun ls hl => ?_)
  exact wC2_listSeen_5_b6 C hK hend _ _ _ _ _ _ _ _ _ _ hP hD hS (lv_sub hl [2, 3, 4, 5, 6, 1, 0] rfl) h
set_option maxHeartbeats 4000000 in
set_option maxRecDepth 100000 in
theorem kC2_listSeen_5 (l : Launch) (dC : Nat → ClassId) (dI : Nat → Nat → Nat) (ad : Nat → Nat) (cA : Nat → ClassId) (σ : xSt) (x1 : Int32) (x2 : Int32) (x3 : Int32) (r : (Int32 × xSt)) (h : fC2_listSeen_5 σ x1 x2 x3 = some r) : Met l yC2_listSeen wsC2_listSeen rm_C2_listSeen_5 (va_Pc [.ref (ad 2), .int (x1), .int (x2), .int (x3), .ref (ad 5)] (fun U => va_P (dC, dI) vwC (xW ad cA σ) U.heap ∧ va_K (dC, dI) vwC (xT cA) U ∧ va_D (xA ad) (xW ad cA σ))) (va_Qi (fun (v : Int32) (u : xSt) => (v, u) = r) (fun u t => va_P (dC, dI) vwC (xW ad cA u) t.heap) (xA ad)) 0 0 (xA ad) := by
  refine Met.ofW (cc := cC2_listSeen) (maxL := 7) (ret := (some .int)) (by decide) rfl ?_
  intro p e s m args below meth c s₁ B hml hv
  obtain ⟨rfl, hP, hK, hD⟩ := hv
  have hr := B.returns
  have hlocks := B.notSynchronized
  have hl := lv_entry ([.ref (ad 2), .int (x1), .int (x2), .int (x3), .ref (ad 5)]) (n := 7) (Nat.le_of_ble_eq_true rfl)
  rw [lg_entry_eq]
  exact wC2_listSeen_5 ⟨B.exec, B.bytes, hml, findClass_of_methodNamed B.named, fun w h => atoms_spec (ws := wsC2_listSeen) B.pre w (List.mem_cons_of_mem _ h)⟩ hK (fun v σ H locs pc ls hv hP hS hd => W.iret (v := v) B.exec B.bytes hr (fun t ht hW => ⟨⟨v, σ, rfl, hv, by show va_P _ _ _ t.heap; rw [ht]; exact hP⟩, hS.F ht⟩) hS.2.2 hd) hP hD va_S.rf _ hl h
abbrev rm_C0_seen : Room := { frames := 5, cells := 0, slots := 0, locals := 120 }
def fC0_seen (σ : xSt) (x1 : Int32) (x2 : Int32) (x3 : Int32) : Option (Int32 × xSt) :=
  (fC0_canBeAsked σ x1 x2 x3).bind fun v1 =>
  if v1 = 0 then
    some ((-2 : Int32), σ)
  else
    gx_b2 (fC2_listSeen_5 σ x1 x2 x3) fun v2 σ3 =>
    some (v2, σ3)
set_option maxHeartbeats 4000000 in
set_option maxRecDepth 100000 in
theorem wC0_seen {p : Program} {l : Launch} {e : Env} {s : State} {m : MethodId} {args : Array Value} {below : List Frame} {meth : Method} {c : Code} {Q : State → Prop} {dC : Nat → ClassId} {dI : Nat → Nat → Nat} {ad : Nat → Nat} {cA : Nat → ClassId} {r : (Int32 × xSt)} (C : CallFix p m c cC0_seen 4 s args wAll RC0) (hK : va_K (dC, dI) vwC (xT cA) s) (hend : ∀ (v : Int32) (σ : xSt) (H : Heap) (locs : List Loc) (pc : Nat) (ls : Array Slot), (v, σ) = r → va_P (dC, dI) vwC (xW ad cA σ) H → va_S (xA ad) s.heap H locs → decode cC0_seen pc = .ok (.ireturn, 1) → W p l e rm_C0_seen s m args below meth c H locs 0 0 Q (F0 m pc ls [.int v])) {H : Heap} {locs : List Loc} {σ : xSt} (hP : va_P (dC, dI) vwC (xW ad cA σ) H) (hD : va_D (xA ad) (xW ad cA σ)) (hS : va_S (xA ad) s.heap H locs) {x1 : Int32} {x2 : Int32} {x3 : Int32} (ls : Array Slot) (hl : lv_has ls 4 [(0, .ref (ad 0)), (1, .int (x1)), (2, .int (x2)), (3, .int (x3))]) (h : fC0_seen σ x1 x2 x3 = some r) : W p l e rm_C0_seen s m args below meth c H locs 0 0 Q (F0 m 0 ls []) := by
  obtain ⟨hx, hb, hml, hown, hts⟩ := id C
  unfold fC0_seen at h
  refine lv_aload_n hx hb dC0_seen_0 rfl (lv_at hl 0 rfl) ?_
  refine lv_iload_n hx hb dC0_seen_1 rfl (lv_at hl 1 rfl) ?_
  refine lv_iload_n hx hb dC0_seen_2 rfl (lv_at hl 2 rfl) ?_
  refine lv_iload_n hx hb dC0_seen_3 rfl (lv_at hl 3 rfl) ?_
  obtain ⟨v1, ev1, h⟩ := Option.bind_eq_some_iff.mp h
  refine gcall_r (b := ad 0) (As := [.int (x1), .int (x2), .int (x3)]) (rest := []) C hK hP (ci := 0) (q0 := 0) rfl rfl (kC0_canBeAsked l dC dI ad cA σ x1 x2 x3 v1 ev1) (cwV 3 hts (gw mw_165 mw_166 mw_167 mw_168 mw_169) rfl rfl rfl hdC0_canBeAsked ⟨Nat.le_of_ble_eq_true rfl, Nat.le_of_ble_eq_true rfl⟩) rfl hl.1 rfl (Nat.le_of_ble_eq_true rfl) dC0_seen_4 ⟨Nat.le_refl _, Nat.le_refl _⟩ ?_
  refine lv_if_eq (tgt := 27) hx hb dC0_seen_7 (by decide) (fun c5 => ?_) (fun c5 => ?_)
  · have h := (if_pos c5).symm.trans h
    refine lv_bipush (v := (-2 : Int32)) hx hb dC0_seen_27 (by decide) ?_
    exact hend _ _ _ _ _ _ (Option.some.inj h) hP hS dC0_seen_29
  · have h := (if_neg c5).symm.trans h
    refine lv_aload_n hx hb dC0_seen_10 rfl (lv_at hl 0 rfl) ?_
    refine va_get (D := (dC, dI)) (ci := 0) (v := .ref (ad 2)) (C := RC0) (T := TC0) (N := 5) hx hb hts inC0 hown hK hP 0 rfl rfl 1 (by decide) (hts _ mw_35) (fun _ h9 => h9) rfl dC0_seen_11 ?_
    refine lv_iload_n hx hb dC0_seen_14 rfl (lv_at hl 1 rfl) ?_
    refine lv_iload_n hx hb dC0_seen_15 rfl (lv_at hl 2 rfl) ?_
    refine lv_iload_n hx hb dC0_seen_16 rfl (lv_at hl 3 rfl) ?_
    refine lv_aload_n hx hb dC0_seen_17 rfl (lv_at hl 0 rfl) ?_
    refine va_get (D := (dC, dI)) (ci := 0) (v := .ref (ad 5)) (C := RC0) (T := TC0) (N := 5) hx hb hts inC0 hown hK hP 0 rfl rfl 4 (by decide) (hts _ mw_170) (fun _ h9 => h9) rfl dC0_seen_18 ?_
    obtain ⟨v2, σ3, ez4, h⟩ := gx_b2_at h
    refine gcall_i (wd := xW ad cA) (b := ad 2) (As := [.int (x1), .int (x2), .int (x3), .ref (ad 5)]) (rest := []) xkeys C hK hP hD hS (ci := 2) (q0 := 2) rfl rfl (kC2_listSeen_5 l dC dI ad cA σ x1 x2 x3 (v2, σ3) ez4) (cwV 4 hts (gw mw_171 mw_172 mw_173 mw_40 mw_174) rfl rfl rfl hdC2_listSeen ⟨Nat.le_of_ble_eq_true rfl, Nat.le_of_ble_eq_true rfl⟩) rfl hl.1 rfl (Nat.le_of_ble_eq_true rfl) dC0_seen_21 ⟨Nat.le_refl _, Nat.le_refl _⟩ (fun H locs hP hD hS => ?_)
    refine lv_goto (tgt := 29) hx hb dC0_seen_24 (by decide) ?_
    exact hend _ _ _ _ _ _ (Option.some.inj h) hP hS dC0_seen_29
set_option maxHeartbeats 4000000 in
set_option maxRecDepth 100000 in
theorem kC0_seen (l : Launch) (dC : Nat → ClassId) (dI : Nat → Nat → Nat) (ad : Nat → Nat) (cA : Nat → ClassId) (σ : xSt) (x1 : Int32) (x2 : Int32) (x3 : Int32) (r : (Int32 × xSt)) (h : fC0_seen σ x1 x2 x3 = some r) : Met l yC0_seen wsC0_seen rm_C0_seen (va_Pc [.ref (ad 0), .int (x1), .int (x2), .int (x3)] (fun U => va_P (dC, dI) vwC (xW ad cA σ) U.heap ∧ va_K (dC, dI) vwC (xT cA) U ∧ va_D (xA ad) (xW ad cA σ))) (va_Qi (fun (v : Int32) (u : xSt) => (v, u) = r) (fun u t => va_P (dC, dI) vwC (xW ad cA u) t.heap) (xA ad)) 0 0 (xA ad) := by
  refine Met.ofW (cc := cC0_seen) (maxL := 4) (ret := (some .int)) (by decide) rfl ?_
  intro p e s m args below meth c s₁ B hml hv
  obtain ⟨rfl, hP, hK, hD⟩ := hv
  have hr := B.returns
  have hlocks := B.notSynchronized
  have hl := lv_entry ([.ref (ad 0), .int (x1), .int (x2), .int (x3)]) (n := 4) (Nat.le_of_ble_eq_true rfl)
  rw [lg_entry_eq]
  exact wC0_seen ⟨B.exec, B.bytes, hml, findClass_of_methodNamed B.named, fun w h => atoms_spec (ws := wsC0_seen) B.pre w (List.mem_cons_of_mem _ h)⟩ hK (fun v σ H locs pc ls hv hP hS hd => W.iret (v := v) B.exec B.bytes hr (fun t ht hW => ⟨⟨v, σ, rfl, hv, by show va_P _ _ _ t.heap; rw [ht]; exact hP⟩, hS.F ht⟩) hS.2.2 hd) hP hD va_S.rf _ hl h
abbrev rm_C0_seenAt : Room := { frames := 5, cells := 0, slots := 0, locals := 120 }
def fC0_seenAt (σ : xSt) (x1 : Int32) (x2 : Int32) (x3 : Int32) (x4 : Int32) : Option (Int32 × xSt) :=
  (fC0_canBeAsked σ x1 x2 x3).bind fun v1 =>
  if v1 = 0 then
    some ((-2 : Int32), σ)
  else
    gx_b2 (fC2_listSeen_5 σ x1 x2 x3) fun v2 σ3 =>
    if x4 < 0 then
      some ((-1 : Int32), σ3)
    else
      if v2 ≤ x4 then
        some ((-1 : Int32), σ3)
      else
        if x4 < 0 ∨ 60 ≤ x4.toNatClampNeg then none else
        some (σ3.1 5 x4.toNatClampNeg, σ3)
set_option maxHeartbeats 4000000 in
set_option maxRecDepth 100000 in
theorem wC0_seenAt {p : Program} {l : Launch} {e : Env} {s : State} {m : MethodId} {args : Array Value} {below : List Frame} {meth : Method} {c : Code} {Q : State → Prop} {dC : Nat → ClassId} {dI : Nat → Nat → Nat} {ad : Nat → Nat} {cA : Nat → ClassId} {r : (Int32 × xSt)} (C : CallFix p m c cC0_seenAt 6 s args wAll RC0) (hK : va_K (dC, dI) vwC (xT cA) s) (hend : ∀ (v : Int32) (σ : xSt) (H : Heap) (locs : List Loc) (pc : Nat) (ls : Array Slot), (v, σ) = r → va_P (dC, dI) vwC (xW ad cA σ) H → va_S (xA ad) s.heap H locs → decode cC0_seenAt pc = .ok (.ireturn, 1) → W p l e rm_C0_seenAt s m args below meth c H locs 0 0 Q (F0 m pc ls [.int v])) {H : Heap} {locs : List Loc} {σ : xSt} (hP : va_P (dC, dI) vwC (xW ad cA σ) H) (hD : va_D (xA ad) (xW ad cA σ)) (hS : va_S (xA ad) s.heap H locs) {x1 : Int32} {x2 : Int32} {x3 : Int32} {x4 : Int32} (ls : Array Slot) (hl : lv_has ls 6 [(0, .ref (ad 0)), (1, .int (x1)), (2, .int (x2)), (3, .int (x3)), (4, .int (x4))]) (h : fC0_seenAt σ x1 x2 x3 x4 = some r) : W p l e rm_C0_seenAt s m args below meth c H locs 0 0 Q (F0 m 0 ls []) := by
  obtain ⟨hx, hb, hml, hown, hts⟩ := id C
  unfold fC0_seenAt at h
  refine lv_aload_n hx hb dC0_seenAt_0 rfl (lv_at hl 0 rfl) ?_
  refine lv_iload_n hx hb dC0_seenAt_1 rfl (lv_at hl 1 rfl) ?_
  refine lv_iload_n hx hb dC0_seenAt_2 rfl (lv_at hl 2 rfl) ?_
  refine lv_iload_n hx hb dC0_seenAt_3 rfl (lv_at hl 3 rfl) ?_
  obtain ⟨v1, ev1, h⟩ := Option.bind_eq_some_iff.mp h
  refine gcall_r (b := ad 0) (As := [.int (x1), .int (x2), .int (x3)]) (rest := []) C hK hP (ci := 0) (q0 := 0) rfl rfl (kC0_canBeAsked l dC dI ad cA σ x1 x2 x3 v1 ev1) (cwV 3 hts (gw mw_165 mw_166 mw_167 mw_168 mw_169) rfl rfl rfl hdC0_canBeAsked ⟨Nat.le_of_ble_eq_true rfl, Nat.le_of_ble_eq_true rfl⟩) rfl hl.1 rfl (Nat.le_of_ble_eq_true rfl) dC0_seenAt_4 ⟨Nat.le_refl _, Nat.le_refl _⟩ ?_
  refine lv_if_ne (tgt := 13) hx hb dC0_seenAt_7 (by decide) (fun c8 => ?_) (fun c8 => ?_)
  · have h := (if_neg c8).symm.trans h
    refine lv_aload_n hx hb dC0_seenAt_13 rfl (lv_at hl 0 rfl) ?_
    refine va_get (D := (dC, dI)) (ci := 0) (v := .ref (ad 2)) (C := RC0) (T := TC0) (N := 5) hx hb hts inC0 hown hK hP 0 rfl rfl 1 (by decide) (hts _ mw_35) (fun _ h9 => h9) rfl dC0_seenAt_14 ?_
    refine lv_iload_n hx hb dC0_seenAt_17 rfl (lv_at hl 1 rfl) ?_
    refine lv_iload_n hx hb dC0_seenAt_18 rfl (lv_at hl 2 rfl) ?_
    refine lv_iload_n hx hb dC0_seenAt_19 rfl (lv_at hl 3 rfl) ?_
    refine lv_aload_n hx hb dC0_seenAt_20 rfl (lv_at hl 0 rfl) ?_
    refine va_get (D := (dC, dI)) (ci := 0) (v := .ref (ad 5)) (C := RC0) (T := TC0) (N := 5) hx hb hts inC0 hown hK hP 0 rfl rfl 4 (by decide) (hts _ mw_170) (fun _ h9 => h9) rfl dC0_seenAt_21 ?_
    obtain ⟨v2, σ3, ez4, h⟩ := gx_b2_at h
    refine gcall_i (wd := xW ad cA) (b := ad 2) (As := [.int (x1), .int (x2), .int (x3), .ref (ad 5)]) (rest := []) xkeys C hK hP hD hS (ci := 2) (q0 := 2) rfl rfl (kC2_listSeen_5 l dC dI ad cA σ x1 x2 x3 (v2, σ3) ez4) (cwV 4 hts (gw mw_171 mw_172 mw_173 mw_40 mw_174) rfl rfl rfl hdC2_listSeen ⟨Nat.le_of_ble_eq_true rfl, Nat.le_of_ble_eq_true rfl⟩) rfl hl.1 rfl (Nat.le_of_ble_eq_true rfl) dC0_seenAt_24 ⟨Nat.le_refl _, Nat.le_refl _⟩ (fun H locs hP hD hS => ?_)
    refine lv_istore (lv' := [(5, .int (v2)), (0, .ref (ad 0)), (1, .int (x1)), (2, .int (x2)), (3, .int (x3)), (4, .int (x4))]) hx hb dC0_seenAt_27 hl (by decide) rfl (fun ls hl => ?_)
    refine lv_iload hx hb dC0_seenAt_29 (lv_at hl 5 rfl) ?_
    refine lv_if_lt (tgt := 51) hx hb dC0_seenAt_31 (by decide) (fun c7 => ?_) (fun c7 => ?_)
    · have h := (if_pos c7).symm.trans h
      refine lv_iconst (v := (-1 : Int32)) hx hb dC0_seenAt_51 (by decide) ?_
      exact hend _ _ _ _ _ _ (Option.some.inj h) hP hS dC0_seenAt_52
    · have h := (if_neg c7).symm.trans h
      refine lv_iload hx hb dC0_seenAt_34 (lv_at hl 5 rfl) ?_
      refine lv_iload hx hb dC0_seenAt_36 (lv_at hl 0 rfl) ?_
      refine lv_icmp_ge (tgt := 51) hx hb dC0_seenAt_38 (by decide) (fun c6 => ?_) (fun c6 => ?_)
      · have h := (if_pos c6).symm.trans h
        refine lv_iconst (v := (-1 : Int32)) hx hb dC0_seenAt_51 (by decide) ?_
        exact hend _ _ _ _ _ _ (Option.some.inj h) hP hS dC0_seenAt_52
      · have h := (if_neg c6).symm.trans h
        refine lv_aload_n hx hb dC0_seenAt_41 rfl (lv_at hl 1 rfl) ?_
        refine va_get (D := (dC, dI)) (ci := 0) (v := .ref (ad 5)) (C := RC0) (T := TC0) (N := 5) hx hb hts inC0 hown hK hP 0 rfl rfl 4 (by decide) (hts _ mw_170) (fun _ h9 => h9) rfl dC0_seenAt_42 ?_
        refine lv_iload hx hb dC0_seenAt_45 (lv_at hl 5 rfl) ?_
        obtain ⟨b5, h⟩ := gx_nb h
        refine va_iald hx hb hK hP 5 0 rfl rfl b5 dC0_seenAt_47 ?_
        refine lv_goto (tgt := 52) hx hb dC0_seenAt_48 (by decide) ?_
        exact hend _ _ _ _ _ _ (Option.some.inj h) hP hS dC0_seenAt_52
  · have h := (if_pos c8).symm.trans h
    refine lv_bipush (v := (-2 : Int32)) hx hb dC0_seenAt_10 (by decide) ?_
    exact hend _ _ _ _ _ _ (Option.some.inj h) hP hS dC0_seenAt_12
set_option maxHeartbeats 4000000 in
set_option maxRecDepth 100000 in
theorem kC0_seenAt (l : Launch) (dC : Nat → ClassId) (dI : Nat → Nat → Nat) (ad : Nat → Nat) (cA : Nat → ClassId) (σ : xSt) (x1 : Int32) (x2 : Int32) (x3 : Int32) (x4 : Int32) (r : (Int32 × xSt)) (h : fC0_seenAt σ x1 x2 x3 x4 = some r) : Met l yC0_seenAt wsC0_seenAt rm_C0_seenAt (va_Pc [.ref (ad 0), .int (x1), .int (x2), .int (x3), .int (x4)] (fun U => va_P (dC, dI) vwC (xW ad cA σ) U.heap ∧ va_K (dC, dI) vwC (xT cA) U ∧ va_D (xA ad) (xW ad cA σ))) (va_Qi (fun (v : Int32) (u : xSt) => (v, u) = r) (fun u t => va_P (dC, dI) vwC (xW ad cA u) t.heap) (xA ad)) 0 0 (xA ad) := by
  refine Met.ofW (cc := cC0_seenAt) (maxL := 6) (ret := (some .int)) (by decide) rfl ?_
  intro p e s m args below meth c s₁ B hml hv
  obtain ⟨rfl, hP, hK, hD⟩ := hv
  have hr := B.returns
  have hlocks := B.notSynchronized
  have hl := lv_entry ([.ref (ad 0), .int (x1), .int (x2), .int (x3), .int (x4)]) (n := 6) (Nat.le_of_ble_eq_true rfl)
  rw [lg_entry_eq]
  exact wC0_seenAt ⟨B.exec, B.bytes, hml, findClass_of_methodNamed B.named, fun w h => atoms_spec (ws := wsC0_seenAt) B.pre w (List.mem_cons_of_mem _ h)⟩ hK (fun v σ H locs pc ls hv hP hS hd => W.iret (v := v) B.exec B.bytes hr (fun t ht hW => ⟨⟨v, σ, rfl, hv, by show va_P _ _ _ t.heap; rw [ht]; exact hP⟩, hS.F ht⟩) hS.2.2 hd) hP hD va_S.rf _ hl h
abbrev rm_C3_addType : Room := { frames := 0, cells := 0, slots := 0, locals := 0 }
def fC3_addType (σ : xSt) (x1 : Int32) : Option (Int32 × xSt) :=
  if (σ.1 3 5) < (5 : Int32) then
    if (σ.1 3 5) < 0 ∨ 5 ≤ (σ.1 3 5).toNatClampNeg then none else
    nm (sI σ 16 (σ.1 3 5).toNatClampNeg (vp_nar .boolean (0 : Int32))) fun σ2 =>
    if (σ2.1 3 5) < 0 ∨ 5 ≤ (σ2.1 3 5).toNatClampNeg then none else
    nm (sI σ2 17 (σ2.1 3 5).toNatClampNeg (vp_nar .boolean (0 : Int32))) fun σ4 =>
    if (σ4.1 3 5) < 0 ∨ 5 ≤ (σ4.1 3 5).toNatClampNeg then none else
    nm (sI σ4 18 (σ4.1 3 5).toNatClampNeg x1) fun σ6 =>
    if (σ6.1 3 5) < 0 ∨ 5 ≤ (σ6.1 3 5).toNatClampNeg then none else
    nm (sI σ6 19 (σ6.1 3 5).toNatClampNeg (0 : Int32)) fun σ8 =>
    nm (sI σ8 3 5 ((σ8.1 3 5) + (1 : Int32))) fun σ9 =>
    some (σ9.1 3 5, σ9)
  else
    some ((-2 : Int32), σ)
set_option maxHeartbeats 4000000 in
set_option maxRecDepth 100000 in
theorem wC3_addType {p : Program} {l : Launch} {e : Env} {s : State} {m : MethodId} {args : Array Value} {below : List Frame} {meth : Method} {c : Code} {Q : State → Prop} {dC : Nat → ClassId} {dI : Nat → Nat → Nat} {ad : Nat → Nat} {cA : Nat → ClassId} {r : (Int32 × xSt)} (C : CallFix p m c cC3_addType 2 s args wAll RC3) (hK : va_K (dC, dI) vwC (xT cA) s) (hend : ∀ (v : Int32) (σ : xSt) (H : Heap) (locs : List Loc) (pc : Nat) (ls : Array Slot), (v, σ) = r → va_P (dC, dI) vwC (xW ad cA σ) H → va_S (xA ad) s.heap H locs → decode cC3_addType pc = .ok (.ireturn, 1) → W p l e rm_C3_addType s m args below meth c H locs 0 0 Q (F0 m pc ls [.int v])) {H : Heap} {locs : List Loc} {σ : xSt} (hP : va_P (dC, dI) vwC (xW ad cA σ) H) (hD : va_D (xA ad) (xW ad cA σ)) (hS : va_S (xA ad) s.heap H locs) {x1 : Int32} (ls : Array Slot) (hl : lv_has ls 2 [(0, .ref (ad 3)), (1, .int (x1))]) (h : fC3_addType σ x1 = some r) : W p l e rm_C3_addType s m args below meth c H locs 0 0 Q (F0 m 0 ls []) := by
  obtain ⟨hx, hb, hml, hown, hts⟩ := id C
  unfold fC3_addType at h
  refine lv_aload_n hx hb dC3_addType_0 rfl (lv_at hl 0 rfl) ?_
  refine va_get (D := (dC, dI)) (ci := 3) (v := .int (σ.1 3 5)) (C := RC3) (T := TC3) (N := 6) hx hb hts inC3 hown hK hP 3 rfl rfl 5 (by decide) (hts _ mw_176) (fun _ h9 => h9) rfl dC3_addType_1 ?_
  refine lv_iconst (v := (5 : Int32)) hx hb dC3_addType_4 (by decide) ?_
  refine lv_icmp_lt (tgt := 11) hx hb dC3_addType_5 (by decide) (fun c10 => ?_) (fun c10 => ?_)
  · have h := (if_pos c10).symm.trans h
    refine lv_aload_n hx hb dC3_addType_11 rfl (lv_at hl 0 rfl) ?_
    refine va_get (D := (dC, dI)) (ci := 3) (v := .ref (ad 16)) (C := RC3) (T := TC3) (N := 6) hx hb hts inC3 hown hK hP 3 rfl rfl 0 (by decide) (hts _ mw_177) (fun _ h9 => h9) rfl dC3_addType_12 ?_
    refine lv_aload_n hx hb dC3_addType_15 rfl (lv_at hl 0 rfl) ?_
    refine va_get (D := (dC, dI)) (ci := 3) (v := .int (σ.1 3 5)) (C := RC3) (T := TC3) (N := 6) hx hb hts inC3 hown hK hP 3 rfl rfl 5 (by decide) (hts _ mw_176) (fun _ h9 => h9) rfl dC3_addType_16 ?_
    refine lv_iconst (v := (0 : Int32)) hx hb dC3_addType_19 (by decide) ?_
    obtain ⟨b1, h⟩ := gx_nb h
    refine va_zast hx hb hK hP hD hS 16 11 rfl rfl b1 dC3_addType_20 (fun H locs hP hD hS => ?_)
    obtain ⟨σ2, eσ2⟩ : ∃ z, z = sI σ 16 (σ.1 3 5).toNatClampNeg (vp_nar .boolean (0 : Int32)) := ⟨_, rfl⟩
    have hP : va_P (dC, dI) vwC (xW ad cA σ2) H := by rw [eσ2]; exact hP
    have hD : va_D (xA ad) (xW ad cA σ2) := by rw [eσ2]; exact hD
    have h := nm_at eσ2 h
    refine lv_aload_n hx hb dC3_addType_21 rfl (lv_at hl 0 rfl) ?_
    refine va_get (D := (dC, dI)) (ci := 3) (v := .ref (ad 17)) (C := RC3) (T := TC3) (N := 6) hx hb hts inC3 hown hK hP 3 rfl rfl 1 (by decide) (hts _ mw_178) (fun _ h9 => h9) rfl dC3_addType_22 ?_
    refine lv_aload_n hx hb dC3_addType_25 rfl (lv_at hl 0 rfl) ?_
    refine va_get (D := (dC, dI)) (ci := 3) (v := .int (σ2.1 3 5)) (C := RC3) (T := TC3) (N := 6) hx hb hts inC3 hown hK hP 3 rfl rfl 5 (by decide) (hts _ mw_176) (fun _ h9 => h9) rfl dC3_addType_26 ?_
    refine lv_iconst (v := (0 : Int32)) hx hb dC3_addType_29 (by decide) ?_
    obtain ⟨b3, h⟩ := gx_nb h
    refine va_zast hx hb hK hP hD hS 17 12 rfl rfl b3 dC3_addType_30 (fun H locs hP hD hS => ?_)
    obtain ⟨σ4, eσ4⟩ : ∃ z, z = sI σ2 17 (σ2.1 3 5).toNatClampNeg (vp_nar .boolean (0 : Int32)) := ⟨_, rfl⟩
    have hP : va_P (dC, dI) vwC (xW ad cA σ4) H := by rw [eσ4]; exact hP
    have hD : va_D (xA ad) (xW ad cA σ4) := by rw [eσ4]; exact hD
    have h := nm_at eσ4 h
    refine lv_aload_n hx hb dC3_addType_31 rfl (lv_at hl 0 rfl) ?_
    refine va_get (D := (dC, dI)) (ci := 3) (v := .ref (ad 18)) (C := RC3) (T := TC3) (N := 6) hx hb hts inC3 hown hK hP 3 rfl rfl 2 (by decide) (hts _ mw_179) (fun _ h9 => h9) rfl dC3_addType_32 ?_
    refine lv_aload_n hx hb dC3_addType_35 rfl (lv_at hl 0 rfl) ?_
    refine va_get (D := (dC, dI)) (ci := 3) (v := .int (σ4.1 3 5)) (C := RC3) (T := TC3) (N := 6) hx hb hts inC3 hown hK hP 3 rfl rfl 5 (by decide) (hts _ mw_176) (fun _ h9 => h9) rfl dC3_addType_36 ?_
    refine lv_iload_n hx hb dC3_addType_39 rfl (lv_at hl 1 rfl) ?_
    obtain ⟨b5, h⟩ := gx_nb h
    refine va_iast hx hb hK hP hD hS 18 13 rfl rfl b5 dC3_addType_40 (fun H locs hP hD hS => ?_)
    obtain ⟨σ6, eσ6⟩ : ∃ z, z = sI σ4 18 (σ4.1 3 5).toNatClampNeg x1 := ⟨_, rfl⟩
    have hP : va_P (dC, dI) vwC (xW ad cA σ6) H := by rw [eσ6]; exact hP
    have hD : va_D (xA ad) (xW ad cA σ6) := by rw [eσ6]; exact hD
    have h := nm_at eσ6 h
    refine lv_aload_n hx hb dC3_addType_41 rfl (lv_at hl 0 rfl) ?_
    refine va_get (D := (dC, dI)) (ci := 3) (v := .ref (ad 19)) (C := RC3) (T := TC3) (N := 6) hx hb hts inC3 hown hK hP 3 rfl rfl 3 (by decide) (hts _ mw_180) (fun _ h9 => h9) rfl dC3_addType_42 ?_
    refine lv_aload_n hx hb dC3_addType_45 rfl (lv_at hl 0 rfl) ?_
    refine va_get (D := (dC, dI)) (ci := 3) (v := .int (σ6.1 3 5)) (C := RC3) (T := TC3) (N := 6) hx hb hts inC3 hown hK hP 3 rfl rfl 5 (by decide) (hts _ mw_176) (fun _ h9 => h9) rfl dC3_addType_46 ?_
    refine lv_iconst (v := (0 : Int32)) hx hb dC3_addType_49 (by decide) ?_
    obtain ⟨b7, h⟩ := gx_nb h
    refine va_iast hx hb hK hP hD hS 19 14 rfl rfl b7 dC3_addType_50 (fun H locs hP hD hS => ?_)
    obtain ⟨σ8, eσ8⟩ : ∃ z, z = sI σ6 19 (σ6.1 3 5).toNatClampNeg (0 : Int32) := ⟨_, rfl⟩
    have hP : va_P (dC, dI) vwC (xW ad cA σ8) H := by rw [eσ8]; exact hP
    have hD : va_D (xA ad) (xW ad cA σ8) := by rw [eσ8]; exact hD
    have h := nm_at eσ8 h
    refine lv_aload_n hx hb dC3_addType_51 rfl (lv_at hl 0 rfl) ?_
    refine lv_dup hx hb dC3_addType_52 rfl ?_
    refine va_get (D := (dC, dI)) (ci := 3) (v := .int (σ8.1 3 5)) (C := RC3) (T := TC3) (N := 6) hx hb hts inC3 hown hK hP 3 rfl rfl 5 (by decide) (hts _ mw_176) (fun _ h9 => h9) rfl dC3_addType_53 ?_
    refine lv_iconst (v := (1 : Int32)) hx hb dC3_addType_56 (by decide) ?_
    refine lv_iadd hx hb dC3_addType_57 ?_
    refine va_put (D := (dC, dI)) (ci := 3) (v := .int ((σ8.1 3 5) + (1 : Int32))) (ty := .int) (C := RC3) (T := TC3) (N := 6) hx hb hts inC3 tyC3 tyC3_ok nnC3 hown hK hP hD hS 3 rfl rfl 5 (by decide) (hts _ mw_176) (fun _ h9 => h9) rfl (by decide +kernel) rfl rfl (Nat.le_of_ble_eq_true rfl) dC3_addType_58 (fun H locs hP hD hS => ?_)
    obtain ⟨σ9, eσ9⟩ : ∃ z, z = sI σ8 3 5 ((σ8.1 3 5) + (1 : Int32)) := ⟨_, rfl⟩
    have hP : va_P (dC, dI) vwC (xW ad cA σ9) H := by rw [eσ9]; exact hP
    have hD : va_D (xA ad) (xW ad cA σ9) := by rw [eσ9]; exact hD
    have h := nm_at eσ9 h
    refine lv_aload_n hx hb dC3_addType_61 rfl (lv_at hl 0 rfl) ?_
    refine va_get (D := (dC, dI)) (ci := 3) (v := .int (σ9.1 3 5)) (C := RC3) (T := TC3) (N := 6) hx hb hts inC3 hown hK hP 3 rfl rfl 5 (by decide) (hts _ mw_176) (fun _ h9 => h9) rfl dC3_addType_62 ?_
    exact hend _ _ _ _ _ _ (Option.some.inj h) hP hS dC3_addType_65
  · have h := (if_neg c10).symm.trans h
    refine lv_bipush (v := (-2 : Int32)) hx hb dC3_addType_8 (by decide) ?_
    exact hend _ _ _ _ _ _ (Option.some.inj h) hP hS dC3_addType_10
set_option maxHeartbeats 4000000 in
set_option maxRecDepth 100000 in
theorem kC3_addType (l : Launch) (dC : Nat → ClassId) (dI : Nat → Nat → Nat) (ad : Nat → Nat) (cA : Nat → ClassId) (σ : xSt) (x1 : Int32) (r : (Int32 × xSt)) (h : fC3_addType σ x1 = some r) : Met l yC3_addType wsC3_addType rm_C3_addType (va_Pc [.ref (ad 3), .int (x1)] (fun U => va_P (dC, dI) vwC (xW ad cA σ) U.heap ∧ va_K (dC, dI) vwC (xT cA) U ∧ va_D (xA ad) (xW ad cA σ))) (va_Qi (fun (v : Int32) (u : xSt) => (v, u) = r) (fun u t => va_P (dC, dI) vwC (xW ad cA u) t.heap) (xA ad)) 0 0 (xA ad) := by
  refine Met.ofW (cc := cC3_addType) (maxL := 2) (ret := (some .int)) (by decide) rfl ?_
  intro p e s m args below meth c s₁ B hml hv
  obtain ⟨rfl, hP, hK, hD⟩ := hv
  have hr := B.returns
  have hlocks := B.notSynchronized
  have hl := lv_entry ([.ref (ad 3), .int (x1)]) (n := 2) (Nat.le_of_ble_eq_true rfl)
  rw [lg_entry_eq]
  exact wC3_addType ⟨B.exec, B.bytes, hml, findClass_of_methodNamed B.named, fun w h => atoms_spec (ws := wsC3_addType) B.pre w (List.mem_cons_of_mem _ h)⟩ hK (fun v σ H locs pc ls hv hP hS hd => W.iret (v := v) B.exec B.bytes hr (fun t ht hW => ⟨⟨v, σ, rfl, hv, by show va_P _ _ _ t.heap; rw [ht]; exact hP⟩, hS.F ht⟩) hS.2.2 hd) hP hD va_S.rf _ hl h
abbrev rm_C0_argument : Room := { frames := 4, cells := 0, slots := 0, locals := 84 }
def fC0_argument (σ : xSt) (x1 : Int32) : Option (Int32 × xSt) :=
  (fC1_isType σ x1).bind fun v1 =>
  if v1 = 0 then
    some ((-2 : Int32), σ)
  else
    gx_b2 (fC3_addType σ x1) fun v2 σ3 =>
    some (v2, σ3)
set_option maxHeartbeats 4000000 in
set_option maxRecDepth 100000 in
theorem wC0_argument {p : Program} {l : Launch} {e : Env} {s : State} {m : MethodId} {args : Array Value} {below : List Frame} {meth : Method} {c : Code} {Q : State → Prop} {dC : Nat → ClassId} {dI : Nat → Nat → Nat} {ad : Nat → Nat} {cA : Nat → ClassId} {r : (Int32 × xSt)} (C : CallFix p m c cC0_argument 2 s args wAll RC0) (hK : va_K (dC, dI) vwC (xT cA) s) (hend : ∀ (v : Int32) (σ : xSt) (H : Heap) (locs : List Loc) (pc : Nat) (ls : Array Slot), (v, σ) = r → va_P (dC, dI) vwC (xW ad cA σ) H → va_S (xA ad) s.heap H locs → decode cC0_argument pc = .ok (.ireturn, 1) → W p l e rm_C0_argument s m args below meth c H locs 0 0 Q (F0 m pc ls [.int v])) {H : Heap} {locs : List Loc} {σ : xSt} (hP : va_P (dC, dI) vwC (xW ad cA σ) H) (hD : va_D (xA ad) (xW ad cA σ)) (hS : va_S (xA ad) s.heap H locs) {x1 : Int32} (ls : Array Slot) (hl : lv_has ls 2 [(0, .ref (ad 0)), (1, .int (x1))]) (h : fC0_argument σ x1 = some r) : W p l e rm_C0_argument s m args below meth c H locs 0 0 Q (F0 m 0 ls []) := by
  obtain ⟨hx, hb, hml, hown, hts⟩ := id C
  unfold fC0_argument at h
  refine lv_aload_n hx hb dC0_argument_0 rfl (lv_at hl 0 rfl) ?_
  refine va_get (D := (dC, dI)) (ci := 0) (v := .ref (ad 1)) (C := RC0) (T := TC0) (N := 5) hx hb hts inC0 hown hK hP 0 rfl rfl 0 (by decide) (hts _ mw_0) (fun _ h9 => h9) rfl dC0_argument_1 ?_
  refine lv_iload_n hx hb dC0_argument_4 rfl (lv_at hl 1 rfl) ?_
  obtain ⟨v1, ev1, h⟩ := Option.bind_eq_some_iff.mp h
  refine gcall_r (b := ad 1) (As := [.int (x1)]) (rest := []) C hK hP (ci := 1) (q0 := 1) rfl rfl (kC1_isType l dC dI ad cA σ x1 v1 ev1) (cwV 1 hts (gw mw_123 mw_124 mw_125 mw_7 mw_126) rfl rfl rfl hdC1_isType ⟨Nat.le_of_ble_eq_true rfl, Nat.le_of_ble_eq_true rfl⟩) rfl hl.1 rfl (Nat.le_of_ble_eq_true rfl) dC0_argument_5 ⟨Nat.le_refl _, Nat.le_refl _⟩ ?_
  refine lv_if_eq (tgt := 22) hx hb dC0_argument_8 (by decide) (fun c5 => ?_) (fun c5 => ?_)
  · have h := (if_pos c5).symm.trans h
    refine lv_bipush (v := (-2 : Int32)) hx hb dC0_argument_22 (by decide) ?_
    exact hend _ _ _ _ _ _ (Option.some.inj h) hP hS dC0_argument_24
  · have h := (if_neg c5).symm.trans h
    refine lv_aload_n hx hb dC0_argument_11 rfl (lv_at hl 0 rfl) ?_
    refine va_get (D := (dC, dI)) (ci := 0) (v := .ref (ad 3)) (C := RC0) (T := TC0) (N := 5) hx hb hts inC0 hown hK hP 0 rfl rfl 2 (by decide) (hts _ mw_175) (fun _ h9 => h9) rfl dC0_argument_12 ?_
    refine lv_iload_n hx hb dC0_argument_15 rfl (lv_at hl 1 rfl) ?_
    obtain ⟨v2, σ3, ez4, h⟩ := gx_b2_at h
    refine gcall_i (wd := xW ad cA) (b := ad 3) (As := [.int (x1)]) (rest := []) xkeys C hK hP hD hS (ci := 3) (q0 := 3) rfl rfl (kC3_addType l dC dI ad cA σ x1 (v2, σ3) ez4) (cwV 1 hts (gw mw_181 mw_182 mw_183 mw_184 mw_185) rfl rfl rfl hdC3_addType ⟨Nat.le_of_ble_eq_true rfl, Nat.le_of_ble_eq_true rfl⟩) rfl hl.1 rfl (Nat.le_of_ble_eq_true rfl) dC0_argument_16 ⟨Nat.le_refl _, Nat.le_refl _⟩ (fun H locs hP hD hS => ?_)
    refine lv_goto (tgt := 24) hx hb dC0_argument_19 (by decide) ?_
    exact hend _ _ _ _ _ _ (Option.some.inj h) hP hS dC0_argument_24
set_option maxHeartbeats 4000000 in
set_option maxRecDepth 100000 in
theorem kC0_argument (l : Launch) (dC : Nat → ClassId) (dI : Nat → Nat → Nat) (ad : Nat → Nat) (cA : Nat → ClassId) (σ : xSt) (x1 : Int32) (r : (Int32 × xSt)) (h : fC0_argument σ x1 = some r) : Met l yC0_argument wsC0_argument rm_C0_argument (va_Pc [.ref (ad 0), .int (x1)] (fun U => va_P (dC, dI) vwC (xW ad cA σ) U.heap ∧ va_K (dC, dI) vwC (xT cA) U ∧ va_D (xA ad) (xW ad cA σ))) (va_Qi (fun (v : Int32) (u : xSt) => (v, u) = r) (fun u t => va_P (dC, dI) vwC (xW ad cA u) t.heap) (xA ad)) 0 0 (xA ad) := by
  refine Met.ofW (cc := cC0_argument) (maxL := 2) (ret := (some .int)) (by decide) rfl ?_
  intro p e s m args below meth c s₁ B hml hv
  obtain ⟨rfl, hP, hK, hD⟩ := hv
  have hr := B.returns
  have hlocks := B.notSynchronized
  have hl := lv_entry ([.ref (ad 0), .int (x1)]) (n := 2) (Nat.le_of_ble_eq_true rfl)
  rw [lg_entry_eq]
  exact wC0_argument ⟨B.exec, B.bytes, hml, findClass_of_methodNamed B.named, fun w h => atoms_spec (ws := wsC0_argument) B.pre w (List.mem_cons_of_mem _ h)⟩ hK (fun v σ H locs pc ls hv hP hS hd => W.iret (v := v) B.exec B.bytes hr (fun t ht hW => ⟨⟨v, σ, rfl, hv, by show va_P _ _ _ t.heap; rw [ht]; exact hP⟩, hS.F ht⟩) hS.2.2 hd) hP hD va_S.rf _ hl h
abbrev rm_C3_addLambda : Room := { frames := 0, cells := 0, slots := 0, locals := 0 }
def fC3_addLambda (σ : xSt) (x1 : Int32) (x2 : Int32) (x3 : Int32) (x4 : Int32) (x5 : Int32) : Option (Int32 × xSt) :=
  if (σ.1 3 5) < (5 : Int32) then
    if (σ.1 3 5) < 0 ∨ 5 ≤ (σ.1 3 5).toNatClampNeg then none else
    nm (sI σ 16 (σ.1 3 5).toNatClampNeg (vp_nar .boolean (1 : Int32))) fun σ2 =>
    if (σ2.1 3 5) < 0 ∨ 5 ≤ (σ2.1 3 5).toNatClampNeg then none else
    nm (sI σ2 17 (σ2.1 3 5).toNatClampNeg (vp_nar .boolean x2)) fun σ4 =>
    if (σ4.1 3 5) < 0 ∨ 5 ≤ (σ4.1 3 5).toNatClampNeg then none else
    nm (sI σ4 18 (σ4.1 3 5).toNatClampNeg x5) fun σ6 =>
    if (σ6.1 3 5) < 0 ∨ 5 ≤ (σ6.1 3 5).toNatClampNeg then none else
    nm (sI σ6 19 (σ6.1 3 5).toNatClampNeg x1) fun σ8 =>
    if ((σ8.1 3 5) * (2 : Int32)) < 0 ∨ 10 ≤ ((σ8.1 3 5) * (2 : Int32)).toNatClampNeg then none else
    nm (sI σ8 20 ((σ8.1 3 5) * (2 : Int32)).toNatClampNeg x3) fun σ10 =>
    if (((σ10.1 3 5) * (2 : Int32)) + (1 : Int32)) < 0 ∨ 10 ≤ (((σ10.1 3 5) * (2 : Int32)) + (1 : Int32)).toNatClampNeg then none else
    nm (sI σ10 20 (((σ10.1 3 5) * (2 : Int32)) + (1 : Int32)).toNatClampNeg x4) fun σ12 =>
    nm (sI σ12 3 5 ((σ12.1 3 5) + (1 : Int32))) fun σ13 =>
    some (σ13.1 3 5, σ13)
  else
    some ((-2 : Int32), σ)
set_option maxHeartbeats 4000000 in
set_option maxRecDepth 100000 in
theorem wC3_addLambda {p : Program} {l : Launch} {e : Env} {s : State} {m : MethodId} {args : Array Value} {below : List Frame} {meth : Method} {c : Code} {Q : State → Prop} {dC : Nat → ClassId} {dI : Nat → Nat → Nat} {ad : Nat → Nat} {cA : Nat → ClassId} {r : (Int32 × xSt)} (C : CallFix p m c cC3_addLambda 6 s args wAll RC3) (hK : va_K (dC, dI) vwC (xT cA) s) (hend : ∀ (v : Int32) (σ : xSt) (H : Heap) (locs : List Loc) (pc : Nat) (ls : Array Slot), (v, σ) = r → va_P (dC, dI) vwC (xW ad cA σ) H → va_S (xA ad) s.heap H locs → decode cC3_addLambda pc = .ok (.ireturn, 1) → W p l e rm_C3_addLambda s m args below meth c H locs 0 0 Q (F0 m pc ls [.int v])) {H : Heap} {locs : List Loc} {σ : xSt} (hP : va_P (dC, dI) vwC (xW ad cA σ) H) (hD : va_D (xA ad) (xW ad cA σ)) (hS : va_S (xA ad) s.heap H locs) {x1 : Int32} {x2 : Int32} {x3 : Int32} {x4 : Int32} {x5 : Int32} (ls : Array Slot) (hl : lv_has ls 6 [(0, .ref (ad 3)), (1, .int (x1)), (2, .int (x2)), (3, .int (x3)), (4, .int (x4)), (5, .int (x5))]) (h : fC3_addLambda σ x1 x2 x3 x4 x5 = some r) : W p l e rm_C3_addLambda s m args below meth c H locs 0 0 Q (F0 m 0 ls []) := by
  obtain ⟨hx, hb, hml, hown, hts⟩ := id C
  unfold fC3_addLambda at h
  refine lv_aload_n hx hb dC3_addLambda_0 rfl (lv_at hl 0 rfl) ?_
  refine va_get (D := (dC, dI)) (ci := 3) (v := .int (σ.1 3 5)) (C := RC3) (T := TC3) (N := 6) hx hb hts inC3 hown hK hP 3 rfl rfl 5 (by decide) (hts _ mw_176) (fun _ h9 => h9) rfl dC3_addLambda_1 ?_
  refine lv_iconst (v := (5 : Int32)) hx hb dC3_addLambda_4 (by decide) ?_
  refine lv_icmp_lt (tgt := 11) hx hb dC3_addLambda_5 (by decide) (fun c14 => ?_) (fun c14 => ?_)
  · have h := (if_pos c14).symm.trans h
    refine lv_aload_n hx hb dC3_addLambda_11 rfl (lv_at hl 0 rfl) ?_
    refine va_get (D := (dC, dI)) (ci := 3) (v := .ref (ad 16)) (C := RC3) (T := TC3) (N := 6) hx hb hts inC3 hown hK hP 3 rfl rfl 0 (by decide) (hts _ mw_177) (fun _ h9 => h9) rfl dC3_addLambda_12 ?_
    refine lv_aload_n hx hb dC3_addLambda_15 rfl (lv_at hl 0 rfl) ?_
    refine va_get (D := (dC, dI)) (ci := 3) (v := .int (σ.1 3 5)) (C := RC3) (T := TC3) (N := 6) hx hb hts inC3 hown hK hP 3 rfl rfl 5 (by decide) (hts _ mw_176) (fun _ h9 => h9) rfl dC3_addLambda_16 ?_
    refine lv_iconst (v := (1 : Int32)) hx hb dC3_addLambda_19 (by decide) ?_
    obtain ⟨b1, h⟩ := gx_nb h
    refine va_zast hx hb hK hP hD hS 16 11 rfl rfl b1 dC3_addLambda_20 (fun H locs hP hD hS => ?_)
    obtain ⟨σ2, eσ2⟩ : ∃ z, z = sI σ 16 (σ.1 3 5).toNatClampNeg (vp_nar .boolean (1 : Int32)) := ⟨_, rfl⟩
    have hP : va_P (dC, dI) vwC (xW ad cA σ2) H := by rw [eσ2]; exact hP
    have hD : va_D (xA ad) (xW ad cA σ2) := by rw [eσ2]; exact hD
    have h := nm_at eσ2 h
    refine lv_aload_n hx hb dC3_addLambda_21 rfl (lv_at hl 0 rfl) ?_
    refine va_get (D := (dC, dI)) (ci := 3) (v := .ref (ad 17)) (C := RC3) (T := TC3) (N := 6) hx hb hts inC3 hown hK hP 3 rfl rfl 1 (by decide) (hts _ mw_178) (fun _ h9 => h9) rfl dC3_addLambda_22 ?_
    refine lv_aload_n hx hb dC3_addLambda_25 rfl (lv_at hl 0 rfl) ?_
    refine va_get (D := (dC, dI)) (ci := 3) (v := .int (σ2.1 3 5)) (C := RC3) (T := TC3) (N := 6) hx hb hts inC3 hown hK hP 3 rfl rfl 5 (by decide) (hts _ mw_176) (fun _ h9 => h9) rfl dC3_addLambda_26 ?_
    refine lv_iload_n hx hb dC3_addLambda_29 rfl (lv_at hl 2 rfl) ?_
    obtain ⟨b3, h⟩ := gx_nb h
    refine va_zast hx hb hK hP hD hS 17 12 rfl rfl b3 dC3_addLambda_30 (fun H locs hP hD hS => ?_)
    obtain ⟨σ4, eσ4⟩ : ∃ z, z = sI σ2 17 (σ2.1 3 5).toNatClampNeg (vp_nar .boolean x2) := ⟨_, rfl⟩
    have hP : va_P (dC, dI) vwC (xW ad cA σ4) H := by rw [eσ4]; exact hP
    have hD : va_D (xA ad) (xW ad cA σ4) := by rw [eσ4]; exact hD
    have h := nm_at eσ4 h
    refine lv_aload_n hx hb dC3_addLambda_31 rfl (lv_at hl 0 rfl) ?_
    refine va_get (D := (dC, dI)) (ci := 3) (v := .ref (ad 18)) (C := RC3) (T := TC3) (N := 6) hx hb hts inC3 hown hK hP 3 rfl rfl 2 (by decide) (hts _ mw_179) (fun _ h9 => h9) rfl dC3_addLambda_32 ?_
    refine lv_aload_n hx hb dC3_addLambda_35 rfl (lv_at hl 0 rfl) ?_
    refine va_get (D := (dC, dI)) (ci := 3) (v := .int (σ4.1 3 5)) (C := RC3) (T := TC3) (N := 6) hx hb hts inC3 hown hK hP 3 rfl rfl 5 (by decide) (hts _ mw_176) (fun _ h9 => h9) rfl dC3_addLambda_36 ?_
    refine lv_iload hx hb dC3_addLambda_39 (lv_at hl 5 rfl) ?_
    obtain ⟨b5, h⟩ := gx_nb h
    refine va_iast hx hb hK hP hD hS 18 13 rfl rfl b5 dC3_addLambda_41 (fun H locs hP hD hS => ?_)
    obtain ⟨σ6, eσ6⟩ : ∃ z, z = sI σ4 18 (σ4.1 3 5).toNatClampNeg x5 := ⟨_, rfl⟩
    have hP : va_P (dC, dI) vwC (xW ad cA σ6) H := by rw [eσ6]; exact hP
    have hD : va_D (xA ad) (xW ad cA σ6) := by rw [eσ6]; exact hD
    have h := nm_at eσ6 h
    refine lv_aload_n hx hb dC3_addLambda_42 rfl (lv_at hl 0 rfl) ?_
    refine va_get (D := (dC, dI)) (ci := 3) (v := .ref (ad 19)) (C := RC3) (T := TC3) (N := 6) hx hb hts inC3 hown hK hP 3 rfl rfl 3 (by decide) (hts _ mw_180) (fun _ h9 => h9) rfl dC3_addLambda_43 ?_
    refine lv_aload_n hx hb dC3_addLambda_46 rfl (lv_at hl 0 rfl) ?_
    refine va_get (D := (dC, dI)) (ci := 3) (v := .int (σ6.1 3 5)) (C := RC3) (T := TC3) (N := 6) hx hb hts inC3 hown hK hP 3 rfl rfl 5 (by decide) (hts _ mw_176) (fun _ h9 => h9) rfl dC3_addLambda_47 ?_
    refine lv_iload_n hx hb dC3_addLambda_50 rfl (lv_at hl 1 rfl) ?_
    obtain ⟨b7, h⟩ := gx_nb h
    refine va_iast hx hb hK hP hD hS 19 14 rfl rfl b7 dC3_addLambda_51 (fun H locs hP hD hS => ?_)
    obtain ⟨σ8, eσ8⟩ : ∃ z, z = sI σ6 19 (σ6.1 3 5).toNatClampNeg x1 := ⟨_, rfl⟩
    have hP : va_P (dC, dI) vwC (xW ad cA σ8) H := by rw [eσ8]; exact hP
    have hD : va_D (xA ad) (xW ad cA σ8) := by rw [eσ8]; exact hD
    have h := nm_at eσ8 h
    refine lv_aload_n hx hb dC3_addLambda_52 rfl (lv_at hl 0 rfl) ?_
    refine va_get (D := (dC, dI)) (ci := 3) (v := .ref (ad 20)) (C := RC3) (T := TC3) (N := 6) hx hb hts inC3 hown hK hP 3 rfl rfl 4 (by decide) (hts _ mw_187) (fun _ h9 => h9) rfl dC3_addLambda_53 ?_
    refine lv_aload_n hx hb dC3_addLambda_56 rfl (lv_at hl 0 rfl) ?_
    refine va_get (D := (dC, dI)) (ci := 3) (v := .int (σ8.1 3 5)) (C := RC3) (T := TC3) (N := 6) hx hb hts inC3 hown hK hP 3 rfl rfl 5 (by decide) (hts _ mw_176) (fun _ h9 => h9) rfl dC3_addLambda_57 ?_
    refine lv_iconst (v := (2 : Int32)) hx hb dC3_addLambda_60 (by decide) ?_
    refine lv_imul hx hb dC3_addLambda_61 ?_
    refine lv_iload_n hx hb dC3_addLambda_62 rfl (lv_at hl 3 rfl) ?_
    obtain ⟨b9, h⟩ := gx_nb h
    refine va_iast hx hb hK hP hD hS 20 15 rfl rfl b9 dC3_addLambda_63 (fun H locs hP hD hS => ?_)
    obtain ⟨σ10, eσ10⟩ : ∃ z, z = sI σ8 20 ((σ8.1 3 5) * (2 : Int32)).toNatClampNeg x3 := ⟨_, rfl⟩
    have hP : va_P (dC, dI) vwC (xW ad cA σ10) H := by rw [eσ10]; exact hP
    have hD : va_D (xA ad) (xW ad cA σ10) := by rw [eσ10]; exact hD
    have h := nm_at eσ10 h
    refine lv_aload_n hx hb dC3_addLambda_64 rfl (lv_at hl 0 rfl) ?_
    refine va_get (D := (dC, dI)) (ci := 3) (v := .ref (ad 20)) (C := RC3) (T := TC3) (N := 6) hx hb hts inC3 hown hK hP 3 rfl rfl 4 (by decide) (hts _ mw_187) (fun _ h9 => h9) rfl dC3_addLambda_65 ?_
    refine lv_aload_n hx hb dC3_addLambda_68 rfl (lv_at hl 0 rfl) ?_
    refine va_get (D := (dC, dI)) (ci := 3) (v := .int (σ10.1 3 5)) (C := RC3) (T := TC3) (N := 6) hx hb hts inC3 hown hK hP 3 rfl rfl 5 (by decide) (hts _ mw_176) (fun _ h9 => h9) rfl dC3_addLambda_69 ?_
    refine lv_iconst (v := (2 : Int32)) hx hb dC3_addLambda_72 (by decide) ?_
    refine lv_imul hx hb dC3_addLambda_73 ?_
    refine lv_iconst (v := (1 : Int32)) hx hb dC3_addLambda_74 (by decide) ?_
    refine lv_iadd hx hb dC3_addLambda_75 ?_
    refine lv_iload hx hb dC3_addLambda_76 (lv_at hl 4 rfl) ?_
    obtain ⟨b11, h⟩ := gx_nb h
    refine va_iast hx hb hK hP hD hS 20 15 rfl rfl b11 dC3_addLambda_78 (fun H locs hP hD hS => ?_)
    obtain ⟨σ12, eσ12⟩ : ∃ z, z = sI σ10 20 (((σ10.1 3 5) * (2 : Int32)) + (1 : Int32)).toNatClampNeg x4 := ⟨_, rfl⟩
    have hP : va_P (dC, dI) vwC (xW ad cA σ12) H := by rw [eσ12]; exact hP
    have hD : va_D (xA ad) (xW ad cA σ12) := by rw [eσ12]; exact hD
    have h := nm_at eσ12 h
    refine lv_aload_n hx hb dC3_addLambda_79 rfl (lv_at hl 0 rfl) ?_
    refine lv_dup hx hb dC3_addLambda_80 rfl ?_
    refine va_get (D := (dC, dI)) (ci := 3) (v := .int (σ12.1 3 5)) (C := RC3) (T := TC3) (N := 6) hx hb hts inC3 hown hK hP 3 rfl rfl 5 (by decide) (hts _ mw_176) (fun _ h9 => h9) rfl dC3_addLambda_81 ?_
    refine lv_iconst (v := (1 : Int32)) hx hb dC3_addLambda_84 (by decide) ?_
    refine lv_iadd hx hb dC3_addLambda_85 ?_
    refine va_put (D := (dC, dI)) (ci := 3) (v := .int ((σ12.1 3 5) + (1 : Int32))) (ty := .int) (C := RC3) (T := TC3) (N := 6) hx hb hts inC3 tyC3 tyC3_ok nnC3 hown hK hP hD hS 3 rfl rfl 5 (by decide) (hts _ mw_176) (fun _ h9 => h9) rfl (by decide +kernel) rfl rfl (Nat.le_of_ble_eq_true rfl) dC3_addLambda_86 (fun H locs hP hD hS => ?_)
    obtain ⟨σ13, eσ13⟩ : ∃ z, z = sI σ12 3 5 ((σ12.1 3 5) + (1 : Int32)) := ⟨_, rfl⟩
    have hP : va_P (dC, dI) vwC (xW ad cA σ13) H := by rw [eσ13]; exact hP
    have hD : va_D (xA ad) (xW ad cA σ13) := by rw [eσ13]; exact hD
    have h := nm_at eσ13 h
    refine lv_aload_n hx hb dC3_addLambda_89 rfl (lv_at hl 0 rfl) ?_
    refine va_get (D := (dC, dI)) (ci := 3) (v := .int (σ13.1 3 5)) (C := RC3) (T := TC3) (N := 6) hx hb hts inC3 hown hK hP 3 rfl rfl 5 (by decide) (hts _ mw_176) (fun _ h9 => h9) rfl dC3_addLambda_90 ?_
    exact hend _ _ _ _ _ _ (Option.some.inj h) hP hS dC3_addLambda_93
  · have h := (if_neg c14).symm.trans h
    refine lv_bipush (v := (-2 : Int32)) hx hb dC3_addLambda_8 (by decide) ?_
    exact hend _ _ _ _ _ _ (Option.some.inj h) hP hS dC3_addLambda_10
set_option maxHeartbeats 4000000 in
set_option maxRecDepth 100000 in
theorem kC3_addLambda (l : Launch) (dC : Nat → ClassId) (dI : Nat → Nat → Nat) (ad : Nat → Nat) (cA : Nat → ClassId) (σ : xSt) (x1 : Int32) (x2 : Int32) (x3 : Int32) (x4 : Int32) (x5 : Int32) (r : (Int32 × xSt)) (h : fC3_addLambda σ x1 x2 x3 x4 x5 = some r) : Met l yC3_addLambda wsC3_addLambda rm_C3_addLambda (va_Pc [.ref (ad 3), .int (x1), .int (x2), .int (x3), .int (x4), .int (x5)] (fun U => va_P (dC, dI) vwC (xW ad cA σ) U.heap ∧ va_K (dC, dI) vwC (xT cA) U ∧ va_D (xA ad) (xW ad cA σ))) (va_Qi (fun (v : Int32) (u : xSt) => (v, u) = r) (fun u t => va_P (dC, dI) vwC (xW ad cA u) t.heap) (xA ad)) 0 0 (xA ad) := by
  refine Met.ofW (cc := cC3_addLambda) (maxL := 6) (ret := (some .int)) (by decide) rfl ?_
  intro p e s m args below meth c s₁ B hml hv
  obtain ⟨rfl, hP, hK, hD⟩ := hv
  have hr := B.returns
  have hlocks := B.notSynchronized
  have hl := lv_entry ([.ref (ad 3), .int (x1), .int (x2), .int (x3), .int (x4), .int (x5)]) (n := 6) (Nat.le_of_ble_eq_true rfl)
  rw [lg_entry_eq]
  exact wC3_addLambda ⟨B.exec, B.bytes, hml, findClass_of_methodNamed B.named, fun w h => atoms_spec (ws := wsC3_addLambda) B.pre w (List.mem_cons_of_mem _ h)⟩ hK (fun v σ H locs pc ls hv hP hS hd => W.iret (v := v) B.exec B.bytes hr (fun t ht hW => ⟨⟨v, σ, rfl, hv, by show va_P _ _ _ t.heap; rw [ht]; exact hP⟩, hS.F ht⟩) hS.2.2 hd) hP hD va_S.rf _ hl h
abbrev rm_C0_lambda : Room := { frames := 5, cells := 0, slots := 0, locals := 105 }
def fC0_lambda_b112 (σ : xSt) (x3 : Int32) (x4 : Int32) (x5 : Int32) (s1 : Int32) (s2 : Int32) : Option (Int32 × xSt) :=
  gx_b2 (fC3_addLambda σ s1 s2 x3 x4 x5) fun v2 σ3 =>
  some (v2, σ3)
set_option maxHeartbeats 4000000 in
set_option maxRecDepth 100000 in
theorem wC0_lambda_b112 {p : Program} {l : Launch} {e : Env} {s : State} {m : MethodId} {args : Array Value} {below : List Frame} {meth : Method} {c : Code} {Q : State → Prop} {dC : Nat → ClassId} {dI : Nat → Nat → Nat} {ad : Nat → Nat} {cA : Nat → ClassId} {r : (Int32 × xSt)} (C : CallFix p m c cC0_lambda 8 s args wAll RC0) (hK : va_K (dC, dI) vwC (xT cA) s) (hend : ∀ (v : Int32) (σ : xSt) (H : Heap) (locs : List Loc) (pc : Nat) (ls : Array Slot), (v, σ) = r → va_P (dC, dI) vwC (xW ad cA σ) H → va_S (xA ad) s.heap H locs → decode cC0_lambda pc = .ok (.ireturn, 1) → W p l e rm_C0_lambda s m args below meth c H locs 0 0 Q (F0 m pc ls [.int v])) :
    ∀ (σ : xSt) (H : Heap) (locs : List Loc) (x3 : Int32) (x4 : Int32) (x5 : Int32) (s1 : Int32) (s2 : Int32) (ls : Array Slot), va_P (dC, dI) vwC (xW ad cA σ) H → va_D (xA ad) (xW ad cA σ) → va_S (xA ad) s.heap H locs → lv_has ls 8 [(3, .int (x3)), (4, .int (x4)), (5, .int (x5))] → fC0_lambda_b112 σ x3 x4 x5 s1 s2 = some r → W p l e rm_C0_lambda s m args below meth c H locs 0 0 Q (F0 m 112 ls [.int (s2), .int (s1), .ref (ad 3)]) := by
  obtain ⟨hx, hb, hml, hown, hts⟩ := id C
  intro σ H locs x3 x4 x5 s1 s2 ls hP hD hS hl h
  unfold fC0_lambda_b112 at h
  refine lv_iload_n hx hb dC0_lambda_112 rfl (lv_at hl 0 rfl) ?_
  refine lv_iload hx hb dC0_lambda_113 (lv_at hl 1 rfl) ?_
  refine lv_iload hx hb dC0_lambda_115 (lv_at hl 2 rfl) ?_
  obtain ⟨v2, σ3, ez4, h⟩ := gx_b2_at h
  refine gcall_i (wd := xW ad cA) (b := ad 3) (As := [.int (s1), .int (s2), .int (x3), .int (x4), .int (x5)]) (rest := []) xkeys C hK hP hD hS (ci := 3) (q0 := 3) rfl rfl (kC3_addLambda l dC dI ad cA σ s1 s2 x3 x4 x5 (v2, σ3) ez4) (cwV 5 hts (gw mw_188 mw_189 mw_190 mw_184 mw_191) rfl rfl rfl hdC3_addLambda ⟨Nat.le_of_ble_eq_true rfl, Nat.le_of_ble_eq_true rfl⟩) rfl hl.1 rfl (Nat.le_of_ble_eq_true rfl) dC0_lambda_117 ⟨Nat.le_refl _, Nat.le_refl _⟩ (fun H locs hP hD hS => ?_)
  exact hend _ _ _ _ _ _ (Option.some.inj h) hP hS dC0_lambda_120
def fC0_lambda_b97 (σ : xSt) (x1 : Int32) (x2 : Int32) (x3 : Int32) (x4 : Int32) (x5 : Int32) : Option (Int32 × xSt) :=
  if x2 = (1 : Int32) then
    fC0_lambda_b112 σ x3 x4 x5 x1 (1 : Int32)
  else
    fC0_lambda_b112 σ x3 x4 x5 x1 (0 : Int32)
set_option maxHeartbeats 4000000 in
set_option maxRecDepth 100000 in
theorem wC0_lambda_b97 {p : Program} {l : Launch} {e : Env} {s : State} {m : MethodId} {args : Array Value} {below : List Frame} {meth : Method} {c : Code} {Q : State → Prop} {dC : Nat → ClassId} {dI : Nat → Nat → Nat} {ad : Nat → Nat} {cA : Nat → ClassId} {r : (Int32 × xSt)} (C : CallFix p m c cC0_lambda 8 s args wAll RC0) (hK : va_K (dC, dI) vwC (xT cA) s) (hend : ∀ (v : Int32) (σ : xSt) (H : Heap) (locs : List Loc) (pc : Nat) (ls : Array Slot), (v, σ) = r → va_P (dC, dI) vwC (xW ad cA σ) H → va_S (xA ad) s.heap H locs → decode cC0_lambda pc = .ok (.ireturn, 1) → W p l e rm_C0_lambda s m args below meth c H locs 0 0 Q (F0 m pc ls [.int v])) :
    ∀ (σ : xSt) (H : Heap) (locs : List Loc) (x1 : Int32) (x2 : Int32) (x3 : Int32) (x4 : Int32) (x5 : Int32) (ls : Array Slot), va_P (dC, dI) vwC (xW ad cA σ) H → va_D (xA ad) (xW ad cA σ) → va_S (xA ad) s.heap H locs → lv_has ls 8 [(0, .ref (ad 0)), (1, .int (x1)), (2, .int (x2)), (3, .int (x3)), (4, .int (x4)), (5, .int (x5))] → fC0_lambda_b97 σ x1 x2 x3 x4 x5 = some r → W p l e rm_C0_lambda s m args below meth c H locs 0 0 Q (F0 m 97 ls []) := by
  obtain ⟨hx, hb, hml, hown, hts⟩ := id C
  intro σ H locs x1 x2 x3 x4 x5 ls hP hD hS hl h
  unfold fC0_lambda_b97 at h
  refine lv_aload_n hx hb dC0_lambda_97 rfl (lv_at hl 0 rfl) ?_
  refine va_get (D := (dC, dI)) (ci := 0) (v := .ref (ad 3)) (C := RC0) (T := TC0) (N := 5) hx hb hts inC0 hown hK hP 0 rfl rfl 2 (by decide) (hts _ mw_175) (fun _ h9 => h9) rfl dC0_lambda_98 ?_
  refine lv_iload_n hx hb dC0_lambda_101 rfl (lv_at hl 1 rfl) ?_
  refine lv_iload_n hx hb dC0_lambda_102 rfl (lv_at hl 2 rfl) ?_
  refine lv_iconst (v := (1 : Int32)) hx hb dC0_lambda_103 (by decide) ?_
  refine lv_icmp_ne (tgt := 111) hx hb dC0_lambda_104 (by decide) (fun c5 => ?_) (fun c5 => ?_)
  · have h := (if_neg c5).symm.trans h
    refine lv_iconst (v := (0 : Int32)) hx hb dC0_lambda_111 (by decide) ?_
    exact wC0_lambda_b112 C hK hend _ _ _ _ _ _ _ _ _ hP hD hS (lv_sub hl [3, 4, 5] rfl) h
  · have h := (if_pos c5).symm.trans h
    refine lv_iconst (v := (1 : Int32)) hx hb dC0_lambda_107 (by decide) ?_
    refine lv_goto (tgt := 112) hx hb dC0_lambda_108 (by decide) ?_
    exact wC0_lambda_b112 C hK hend _ _ _ _ _ _ _ _ _ hP hD hS (lv_sub hl [3, 4, 5] rfl) h
def fC0_lambda_b77 (σ : xSt) (x1 : Int32) (x2 : Int32) (x3 : Int32) (x4 : Int32) (x5 : Int32) (x6 : Int32) (s0 : Int32) : Option (Int32 × xSt) :=
  if x2 = (1 : Int32) then
    if x6 = 0 then
      if s0 = 0 then
        fC0_lambda_b97 σ x1 x2 x3 x4 x5
      else
        some ((-2 : Int32), σ)
    else
      some ((-2 : Int32), σ)
  else
    fC0_lambda_b97 σ x1 x2 x3 x4 x5
set_option maxHeartbeats 4000000 in
set_option maxRecDepth 100000 in
theorem wC0_lambda_b77 {p : Program} {l : Launch} {e : Env} {s : State} {m : MethodId} {args : Array Value} {below : List Frame} {meth : Method} {c : Code} {Q : State → Prop} {dC : Nat → ClassId} {dI : Nat → Nat → Nat} {ad : Nat → Nat} {cA : Nat → ClassId} {r : (Int32 × xSt)} (C : CallFix p m c cC0_lambda 8 s args wAll RC0) (hK : va_K (dC, dI) vwC (xT cA) s) (hend : ∀ (v : Int32) (σ : xSt) (H : Heap) (locs : List Loc) (pc : Nat) (ls : Array Slot), (v, σ) = r → va_P (dC, dI) vwC (xW ad cA σ) H → va_S (xA ad) s.heap H locs → decode cC0_lambda pc = .ok (.ireturn, 1) → W p l e rm_C0_lambda s m args below meth c H locs 0 0 Q (F0 m pc ls [.int v])) :
    ∀ (σ : xSt) (H : Heap) (locs : List Loc) (x1 : Int32) (x2 : Int32) (x3 : Int32) (x4 : Int32) (x5 : Int32) (x6 : Int32) (s0 : Int32) (ls : Array Slot), va_P (dC, dI) vwC (xW ad cA σ) H → va_D (xA ad) (xW ad cA σ) → va_S (xA ad) s.heap H locs → lv_has ls 8 [(0, .ref (ad 0)), (1, .int (x1)), (2, .int (x2)), (3, .int (x3)), (4, .int (x4)), (5, .int (x5)), (6, .int (x6))] → fC0_lambda_b77 σ x1 x2 x3 x4 x5 x6 s0 = some r → W p l e rm_C0_lambda s m args below meth c H locs 0 0 Q (F0 m 77 ls [.int (s0)]) := by
  obtain ⟨hx, hb, hml, hown, hts⟩ := id C
  intro σ H locs x1 x2 x3 x4 x5 x6 s0 ls hP hD hS hl h
  unfold fC0_lambda_b77 at h
  refine lv_istore (lv' := [(7, .int (s0)), (0, .ref (ad 0)), (1, .int (x1)), (2, .int (x2)), (3, .int (x3)), (4, .int (x4)), (5, .int (x5)), (6, .int (x6))]) hx hb dC0_lambda_77 hl (by decide) rfl (fun ls hl => ?_)
  refine lv_iload_n hx hb dC0_lambda_79 rfl (lv_at hl 3 rfl) ?_
  refine lv_iconst (v := (1 : Int32)) hx hb dC0_lambda_80 (by decide) ?_
  refine lv_icmp_ne (tgt := 97) hx hb dC0_lambda_81 (by decide) (fun c8 => ?_) (fun c8 => ?_)
  · have h := (if_neg c8).symm.trans h
    exact wC0_lambda_b97 C hK hend _ _ _ _ _ _ _ _ _ hP hD hS (lv_sub hl [1, 2, 3, 4, 5, 6] rfl) h
  · have h := (if_pos c8).symm.trans h
    refine lv_iload hx hb dC0_lambda_84 (lv_at hl 7 rfl) ?_
    refine lv_if_ne (tgt := 94) hx hb dC0_lambda_86 (by decide) (fun c7 => ?_) (fun c7 => ?_)
    · have h := (if_neg c7).symm.trans h
      refine lv_bipush (v := (-2 : Int32)) hx hb dC0_lambda_94 (by decide) ?_
      exact hend _ _ _ _ _ _ (Option.some.inj h) hP hS dC0_lambda_96
    · have h := (if_pos c7).symm.trans h
      refine lv_iload hx hb dC0_lambda_89 (lv_at hl 0 rfl) ?_
      refine lv_if_eq (tgt := 97) hx hb dC0_lambda_91 (by decide) (fun c6 => ?_) (fun c6 => ?_)
      · have h := (if_pos c6).symm.trans h
        exact wC0_lambda_b97 C hK hend _ _ _ _ _ _ _ _ _ hP hD hS (lv_sub hl [1, 2, 3, 4, 5, 6] rfl) h
      · have h := (if_neg c6).symm.trans h
        refine lv_bipush (v := (-2 : Int32)) hx hb dC0_lambda_94 (by decide) ?_
        exact hend _ _ _ _ _ _ (Option.some.inj h) hP hS dC0_lambda_96
def fC0_lambda_b76 (σ : xSt) (x1 : Int32) (x2 : Int32) (x3 : Int32) (x4 : Int32) (x5 : Int32) (x6 : Int32) : Option (Int32 × xSt) :=
  fC0_lambda_b77 σ x1 x2 x3 x4 x5 x6 (0 : Int32)
set_option maxHeartbeats 4000000 in
set_option maxRecDepth 100000 in
theorem wC0_lambda_b76 {p : Program} {l : Launch} {e : Env} {s : State} {m : MethodId} {args : Array Value} {below : List Frame} {meth : Method} {c : Code} {Q : State → Prop} {dC : Nat → ClassId} {dI : Nat → Nat → Nat} {ad : Nat → Nat} {cA : Nat → ClassId} {r : (Int32 × xSt)} (C : CallFix p m c cC0_lambda 8 s args wAll RC0) (hK : va_K (dC, dI) vwC (xT cA) s) (hend : ∀ (v : Int32) (σ : xSt) (H : Heap) (locs : List Loc) (pc : Nat) (ls : Array Slot), (v, σ) = r → va_P (dC, dI) vwC (xW ad cA σ) H → va_S (xA ad) s.heap H locs → decode cC0_lambda pc = .ok (.ireturn, 1) → W p l e rm_C0_lambda s m args below meth c H locs 0 0 Q (F0 m pc ls [.int v])) :
    ∀ (σ : xSt) (H : Heap) (locs : List Loc) (x1 : Int32) (x2 : Int32) (x3 : Int32) (x4 : Int32) (x5 : Int32) (x6 : Int32) (ls : Array Slot), va_P (dC, dI) vwC (xW ad cA σ) H → va_D (xA ad) (xW ad cA σ) → va_S (xA ad) s.heap H locs → lv_has ls 8 [(0, .ref (ad 0)), (1, .int (x1)), (2, .int (x2)), (3, .int (x3)), (4, .int (x4)), (5, .int (x5)), (6, .int (x6))] → fC0_lambda_b76 σ x1 x2 x3 x4 x5 x6 = some r → W p l e rm_C0_lambda s m args below meth c H locs 0 0 Q (F0 m 76 ls []) := by
  obtain ⟨hx, hb, hml, hown, hts⟩ := id C
  intro σ H locs x1 x2 x3 x4 x5 x6 ls hP hD hS hl h
  unfold fC0_lambda_b76 at h
  refine lv_iconst (v := (0 : Int32)) hx hb dC0_lambda_76 (by decide) ?_
  exact wC0_lambda_b77 C hK hend _ _ _ _ _ _ _ _ _ _ _ hP hD hS (lv_sub hl [0, 1, 2, 3, 4, 5, 6] rfl) h
def fC0_lambda_b53 (σ : xSt) (x1 : Int32) (x2 : Int32) (x3 : Int32) (x4 : Int32) (x5 : Int32) (s0 : Int32) : Option (Int32 × xSt) :=
  if x1 ≤ (1 : Int32) then
    fC0_lambda_b76 σ x1 x2 x3 x4 x5 s0
  else
    (fC1_canBeDeclared σ x4).bind fun v9 =>
    if v9 = 0 then
      fC0_lambda_b77 σ x1 x2 x3 x4 x5 s0 (1 : Int32)
    else
      fC0_lambda_b76 σ x1 x2 x3 x4 x5 s0
set_option maxHeartbeats 4000000 in
set_option maxRecDepth 100000 in
theorem wC0_lambda_b53 {p : Program} {l : Launch} {e : Env} {s : State} {m : MethodId} {args : Array Value} {below : List Frame} {meth : Method} {c : Code} {Q : State → Prop} {dC : Nat → ClassId} {dI : Nat → Nat → Nat} {ad : Nat → Nat} {cA : Nat → ClassId} {r : (Int32 × xSt)} (C : CallFix p m c cC0_lambda 8 s args wAll RC0) (hK : va_K (dC, dI) vwC (xT cA) s) (hend : ∀ (v : Int32) (σ : xSt) (H : Heap) (locs : List Loc) (pc : Nat) (ls : Array Slot), (v, σ) = r → va_P (dC, dI) vwC (xW ad cA σ) H → va_S (xA ad) s.heap H locs → decode cC0_lambda pc = .ok (.ireturn, 1) → W p l e rm_C0_lambda s m args below meth c H locs 0 0 Q (F0 m pc ls [.int v])) :
    ∀ (σ : xSt) (H : Heap) (locs : List Loc) (x1 : Int32) (x2 : Int32) (x3 : Int32) (x4 : Int32) (x5 : Int32) (s0 : Int32) (ls : Array Slot), va_P (dC, dI) vwC (xW ad cA σ) H → va_D (xA ad) (xW ad cA σ) → va_S (xA ad) s.heap H locs → lv_has ls 8 [(0, .ref (ad 0)), (1, .int (x1)), (2, .int (x2)), (3, .int (x3)), (4, .int (x4)), (5, .int (x5))] → fC0_lambda_b53 σ x1 x2 x3 x4 x5 s0 = some r → W p l e rm_C0_lambda s m args below meth c H locs 0 0 Q (F0 m 53 ls [.int (s0)]) := by
  obtain ⟨hx, hb, hml, hown, hts⟩ := id C
  intro σ H locs x1 x2 x3 x4 x5 s0 ls hP hD hS hl h
  unfold fC0_lambda_b53 at h
  refine lv_istore (lv' := [(6, .int (s0)), (0, .ref (ad 0)), (1, .int (x1)), (2, .int (x2)), (3, .int (x3)), (4, .int (x4)), (5, .int (x5))]) hx hb dC0_lambda_53 hl (by decide) rfl (fun ls hl => ?_)
  refine lv_iload_n hx hb dC0_lambda_55 rfl (lv_at hl 2 rfl) ?_
  refine lv_iconst (v := (1 : Int32)) hx hb dC0_lambda_56 (by decide) ?_
  refine lv_icmp_le (tgt := 76) hx hb dC0_lambda_57 (by decide) (fun c11 => ?_) (fun c11 => ?_)
  · have h := (if_pos c11).symm.trans h
    exact wC0_lambda_b76 C hK hend _ _ _ _ _ _ _ _ _ _ hP hD hS (lv_sub hl [1, 2, 3, 4, 5, 6, 0] rfl) h
  · have h := (if_neg c11).symm.trans h
    refine lv_aload_n hx hb dC0_lambda_60 rfl (lv_at hl 1 rfl) ?_
    refine va_get (D := (dC, dI)) (ci := 0) (v := .ref (ad 1)) (C := RC0) (T := TC0) (N := 5) hx hb hts inC0 hown hK hP 0 rfl rfl 0 (by decide) (hts _ mw_0) (fun _ h9 => h9) rfl dC0_lambda_61 ?_
    refine lv_iload hx hb dC0_lambda_64 (lv_at hl 5 rfl) ?_
    obtain ⟨v9, ev9, h⟩ := Option.bind_eq_some_iff.mp h
    refine gcall_r (b := ad 1) (As := [.int (x4)]) (rest := []) C hK hP (ci := 1) (q0 := 1) rfl rfl (kC1_canBeDeclared l dC dI ad cA σ x4 v9 ev9) (cwV 1 hts (gw mw_192 mw_85 mw_86 mw_7 mw_87) rfl rfl rfl hdC1_canBeDeclared ⟨Nat.le_of_ble_eq_true rfl, Nat.le_of_ble_eq_true rfl⟩) rfl hl.1 rfl (Nat.le_of_ble_eq_true rfl) dC0_lambda_66 ⟨Nat.le_refl _, Nat.le_refl _⟩ ?_
    refine lv_if_ne (tgt := 76) hx hb dC0_lambda_69 (by decide) (fun c10 => ?_) (fun c10 => ?_)
    · have h := (if_neg c10).symm.trans h
      exact wC0_lambda_b76 C hK hend _ _ _ _ _ _ _ _ _ _ hP hD hS (lv_sub hl [1, 2, 3, 4, 5, 6, 0] rfl) h
    · have h := (if_pos c10).symm.trans h
      refine lv_iconst (v := (1 : Int32)) hx hb dC0_lambda_72 (by decide) ?_
      refine lv_goto (tgt := 77) hx hb dC0_lambda_73 (by decide) ?_
      exact wC0_lambda_b77 C hK hend _ _ _ _ _ _ _ _ _ _ _ hP hD hS (lv_sub hl [1, 2, 3, 4, 5, 6, 0] rfl) h
def fC0_lambda_b52 (σ : xSt) (x1 : Int32) (x2 : Int32) (x3 : Int32) (x4 : Int32) (x5 : Int32) : Option (Int32 × xSt) :=
  fC0_lambda_b53 σ x1 x2 x3 x4 x5 (0 : Int32)
set_option maxHeartbeats 4000000 in
set_option maxRecDepth 100000 in
theorem wC0_lambda_b52 {p : Program} {l : Launch} {e : Env} {s : State} {m : MethodId} {args : Array Value} {below : List Frame} {meth : Method} {c : Code} {Q : State → Prop} {dC : Nat → ClassId} {dI : Nat → Nat → Nat} {ad : Nat → Nat} {cA : Nat → ClassId} {r : (Int32 × xSt)} (C : CallFix p m c cC0_lambda 8 s args wAll RC0) (hK : va_K (dC, dI) vwC (xT cA) s) (hend : ∀ (v : Int32) (σ : xSt) (H : Heap) (locs : List Loc) (pc : Nat) (ls : Array Slot), (v, σ) = r → va_P (dC, dI) vwC (xW ad cA σ) H → va_S (xA ad) s.heap H locs → decode cC0_lambda pc = .ok (.ireturn, 1) → W p l e rm_C0_lambda s m args below meth c H locs 0 0 Q (F0 m pc ls [.int v])) :
    ∀ (σ : xSt) (H : Heap) (locs : List Loc) (x1 : Int32) (x2 : Int32) (x3 : Int32) (x4 : Int32) (x5 : Int32) (ls : Array Slot), va_P (dC, dI) vwC (xW ad cA σ) H → va_D (xA ad) (xW ad cA σ) → va_S (xA ad) s.heap H locs → lv_has ls 8 [(0, .ref (ad 0)), (1, .int (x1)), (2, .int (x2)), (3, .int (x3)), (4, .int (x4)), (5, .int (x5))] → fC0_lambda_b52 σ x1 x2 x3 x4 x5 = some r → W p l e rm_C0_lambda s m args below meth c H locs 0 0 Q (F0 m 52 ls []) := by
  obtain ⟨hx, hb, hml, hown, hts⟩ := id C
  intro σ H locs x1 x2 x3 x4 x5 ls hP hD hS hl h
  unfold fC0_lambda_b52 at h
  refine lv_iconst (v := (0 : Int32)) hx hb dC0_lambda_52 (by decide) ?_
  exact wC0_lambda_b53 C hK hend _ _ _ _ _ _ _ _ _ _ hP hD hS (lv_sub hl [0, 1, 2, 3, 4, 5] rfl) h
def fC0_lambda (σ : xSt) (x1 : Int32) (x2 : Int32) (x3 : Int32) (x4 : Int32) (x5 : Int32) : Option (Int32 × xSt) :=
  if x1 < 0 then
    some ((-2 : Int32), σ)
  else
    if (2 : Int32) < x1 then
      some ((-2 : Int32), σ)
    else
      if x2 < 0 then
        some ((-2 : Int32), σ)
      else
        if (1 : Int32) < x2 then
          some ((-2 : Int32), σ)
        else
          (fC1_canBeResult σ x5).bind fun v1 =>
          if v1 = 0 then
            some ((-2 : Int32), σ)
          else
            if x1 ≤ 0 then
              fC0_lambda_b52 σ x1 x2 x3 x4 x5
            else
              (fC1_canBeDeclared σ x3).bind fun v12 =>
              if v12 = 0 then
                fC0_lambda_b53 σ x1 x2 x3 x4 x5 (1 : Int32)
              else
                fC0_lambda_b52 σ x1 x2 x3 x4 x5
set_option maxHeartbeats 4000000 in
set_option maxRecDepth 100000 in
theorem wC0_lambda {p : Program} {l : Launch} {e : Env} {s : State} {m : MethodId} {args : Array Value} {below : List Frame} {meth : Method} {c : Code} {Q : State → Prop} {dC : Nat → ClassId} {dI : Nat → Nat → Nat} {ad : Nat → Nat} {cA : Nat → ClassId} {r : (Int32 × xSt)} (C : CallFix p m c cC0_lambda 8 s args wAll RC0) (hK : va_K (dC, dI) vwC (xT cA) s) (hend : ∀ (v : Int32) (σ : xSt) (H : Heap) (locs : List Loc) (pc : Nat) (ls : Array Slot), (v, σ) = r → va_P (dC, dI) vwC (xW ad cA σ) H → va_S (xA ad) s.heap H locs → decode cC0_lambda pc = .ok (.ireturn, 1) → W p l e rm_C0_lambda s m args below meth c H locs 0 0 Q (F0 m pc ls [.int v])) {H : Heap} {locs : List Loc} {σ : xSt} (hP : va_P (dC, dI) vwC (xW ad cA σ) H) (hD : va_D (xA ad) (xW ad cA σ)) (hS : va_S (xA ad) s.heap H locs) {x1 : Int32} {x2 : Int32} {x3 : Int32} {x4 : Int32} {x5 : Int32} (ls : Array Slot) (hl : lv_has ls 8 [(0, .ref (ad 0)), (1, .int (x1)), (2, .int (x2)), (3, .int (x3)), (4, .int (x4)), (5, .int (x5))]) (h : fC0_lambda σ x1 x2 x3 x4 x5 = some r) : W p l e rm_C0_lambda s m args below meth c H locs 0 0 Q (F0 m 0 ls []) := by
  obtain ⟨hx, hb, hml, hown, hts⟩ := id C
  unfold fC0_lambda at h
  refine lv_iload_n hx hb dC0_lambda_0 rfl (lv_at hl 1 rfl) ?_
  refine lv_if_lt (tgt := 30) hx hb dC0_lambda_1 (by decide) (fun c19 => ?_) (fun c19 => ?_)
  · have h := (if_pos c19).symm.trans h
    refine lv_bipush (v := (-2 : Int32)) hx hb dC0_lambda_30 (by decide) ?_
    exact hend _ _ _ _ _ _ (Option.some.inj h) hP hS dC0_lambda_32
  · have h := (if_neg c19).symm.trans h
    refine lv_iload_n hx hb dC0_lambda_4 rfl (lv_at hl 1 rfl) ?_
    refine lv_iconst (v := (2 : Int32)) hx hb dC0_lambda_5 (by decide) ?_
    refine lv_icmp_gt (tgt := 30) hx hb dC0_lambda_6 (by decide) (fun c18 => ?_) (fun c18 => ?_)
    · have h := (if_pos c18).symm.trans h
      refine lv_bipush (v := (-2 : Int32)) hx hb dC0_lambda_30 (by decide) ?_
      exact hend _ _ _ _ _ _ (Option.some.inj h) hP hS dC0_lambda_32
    · have h := (if_neg c18).symm.trans h
      refine lv_iload_n hx hb dC0_lambda_9 rfl (lv_at hl 2 rfl) ?_
      refine lv_if_lt (tgt := 30) hx hb dC0_lambda_10 (by decide) (fun c17 => ?_) (fun c17 => ?_)
      · have h := (if_pos c17).symm.trans h
        refine lv_bipush (v := (-2 : Int32)) hx hb dC0_lambda_30 (by decide) ?_
        exact hend _ _ _ _ _ _ (Option.some.inj h) hP hS dC0_lambda_32
      · have h := (if_neg c17).symm.trans h
        refine lv_iload_n hx hb dC0_lambda_13 rfl (lv_at hl 2 rfl) ?_
        refine lv_iconst (v := (1 : Int32)) hx hb dC0_lambda_14 (by decide) ?_
        refine lv_icmp_gt (tgt := 30) hx hb dC0_lambda_15 (by decide) (fun c16 => ?_) (fun c16 => ?_)
        · have h := (if_pos c16).symm.trans h
          refine lv_bipush (v := (-2 : Int32)) hx hb dC0_lambda_30 (by decide) ?_
          exact hend _ _ _ _ _ _ (Option.some.inj h) hP hS dC0_lambda_32
        · have h := (if_neg c16).symm.trans h
          refine lv_aload_n hx hb dC0_lambda_18 rfl (lv_at hl 0 rfl) ?_
          refine va_get (D := (dC, dI)) (ci := 0) (v := .ref (ad 1)) (C := RC0) (T := TC0) (N := 5) hx hb hts inC0 hown hK hP 0 rfl rfl 0 (by decide) (hts _ mw_0) (fun _ h9 => h9) rfl dC0_lambda_19 ?_
          refine lv_iload hx hb dC0_lambda_22 (lv_at hl 5 rfl) ?_
          obtain ⟨v1, ev1, h⟩ := Option.bind_eq_some_iff.mp h
          refine gcall_r (b := ad 1) (As := [.int (x5)]) (rest := []) C hK hP (ci := 1) (q0 := 1) rfl rfl (kC1_canBeResult l dC dI ad cA σ x5 v1 ev1) (cwV 1 hts (gw mw_186 mw_89 mw_90 mw_7 mw_91) rfl rfl rfl hdC1_canBeResult ⟨Nat.le_of_ble_eq_true rfl, Nat.le_of_ble_eq_true rfl⟩) rfl hl.1 rfl (Nat.le_of_ble_eq_true rfl) dC0_lambda_24 ⟨Nat.le_refl _, Nat.le_refl _⟩ ?_
          refine lv_if_ne (tgt := 33) hx hb dC0_lambda_27 (by decide) (fun c15 => ?_) (fun c15 => ?_)
          · have h := (if_neg c15).symm.trans h
            refine lv_iload_n hx hb dC0_lambda_33 rfl (lv_at hl 1 rfl) ?_
            refine lv_if_le (tgt := 52) hx hb dC0_lambda_34 (by decide) (fun c14 => ?_) (fun c14 => ?_)
            · have h := (if_pos c14).symm.trans h
              exact wC0_lambda_b52 C hK hend _ _ _ _ _ _ _ _ _ hP hD hS (lv_sub hl [0, 1, 2, 3, 4, 5] rfl) h
            · have h := (if_neg c14).symm.trans h
              refine lv_aload_n hx hb dC0_lambda_37 rfl (lv_at hl 0 rfl) ?_
              refine va_get (D := (dC, dI)) (ci := 0) (v := .ref (ad 1)) (C := RC0) (T := TC0) (N := 5) hx hb hts inC0 hown hK hP 0 rfl rfl 0 (by decide) (hts _ mw_0) (fun _ h9 => h9) rfl dC0_lambda_38 ?_
              refine lv_iload_n hx hb dC0_lambda_41 rfl (lv_at hl 3 rfl) ?_
              obtain ⟨v12, ev12, h⟩ := Option.bind_eq_some_iff.mp h
              refine gcall_r (b := ad 1) (As := [.int (x3)]) (rest := []) C hK hP (ci := 1) (q0 := 1) rfl rfl (kC1_canBeDeclared l dC dI ad cA σ x3 v12 ev12) (cwV 1 hts (gw mw_192 mw_85 mw_86 mw_7 mw_87) rfl rfl rfl hdC1_canBeDeclared ⟨Nat.le_of_ble_eq_true rfl, Nat.le_of_ble_eq_true rfl⟩) rfl hl.1 rfl (Nat.le_of_ble_eq_true rfl) dC0_lambda_42 ⟨Nat.le_refl _, Nat.le_refl _⟩ ?_
              refine lv_if_ne (tgt := 52) hx hb dC0_lambda_45 (by decide) (fun c13 => ?_) (fun c13 => ?_)
              · have h := (if_neg c13).symm.trans h
                exact wC0_lambda_b52 C hK hend _ _ _ _ _ _ _ _ _ hP hD hS (lv_sub hl [0, 1, 2, 3, 4, 5] rfl) h
              · have h := (if_pos c13).symm.trans h
                refine lv_iconst (v := (1 : Int32)) hx hb dC0_lambda_48 (by decide) ?_
                refine lv_goto (tgt := 53) hx hb dC0_lambda_49 (by decide) ?_
                exact wC0_lambda_b53 C hK hend _ _ _ _ _ _ _ _ _ _ hP hD hS (lv_sub hl [0, 1, 2, 3, 4, 5] rfl) h
          · have h := (if_pos c15).symm.trans h
            refine lv_bipush (v := (-2 : Int32)) hx hb dC0_lambda_30 (by decide) ?_
            exact hend _ _ _ _ _ _ (Option.some.inj h) hP hS dC0_lambda_32
set_option maxHeartbeats 4000000 in
set_option maxRecDepth 100000 in
theorem kC0_lambda (l : Launch) (dC : Nat → ClassId) (dI : Nat → Nat → Nat) (ad : Nat → Nat) (cA : Nat → ClassId) (σ : xSt) (x1 : Int32) (x2 : Int32) (x3 : Int32) (x4 : Int32) (x5 : Int32) (r : (Int32 × xSt)) (h : fC0_lambda σ x1 x2 x3 x4 x5 = some r) : Met l yC0_lambda wsC0_lambda rm_C0_lambda (va_Pc [.ref (ad 0), .int (x1), .int (x2), .int (x3), .int (x4), .int (x5)] (fun U => va_P (dC, dI) vwC (xW ad cA σ) U.heap ∧ va_K (dC, dI) vwC (xT cA) U ∧ va_D (xA ad) (xW ad cA σ))) (va_Qi (fun (v : Int32) (u : xSt) => (v, u) = r) (fun u t => va_P (dC, dI) vwC (xW ad cA u) t.heap) (xA ad)) 0 0 (xA ad) := by
  refine Met.ofW (cc := cC0_lambda) (maxL := 8) (ret := (some .int)) (by decide) rfl ?_
  intro p e s m args below meth c s₁ B hml hv
  obtain ⟨rfl, hP, hK, hD⟩ := hv
  have hr := B.returns
  have hlocks := B.notSynchronized
  have hl := lv_entry ([.ref (ad 0), .int (x1), .int (x2), .int (x3), .int (x4), .int (x5)]) (n := 8) (Nat.le_of_ble_eq_true rfl)
  rw [lg_entry_eq]
  exact wC0_lambda ⟨B.exec, B.bytes, hml, findClass_of_methodNamed B.named, fun w h => atoms_spec (ws := wsC0_lambda) B.pre w (List.mem_cons_of_mem _ h)⟩ hK (fun v σ H locs pc ls hv hP hS hd => W.iret (v := v) B.exec B.bytes hr (fun t ht hW => ⟨⟨v, σ, rfl, hv, by show va_P _ _ _ t.heap; rw [ht]; exact hP⟩, hS.F ht⟩) hS.2.2 hd) hP hD va_S.rf _ hl h
