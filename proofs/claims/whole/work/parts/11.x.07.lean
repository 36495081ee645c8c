abbrev rm_C3_parameterAt : Room := { frames := 0, cells := 0, slots := 0, locals := 0 }
def fC3_parameterAt (σ : xSt) (x1 : Int32) (x2 : Int32) : Option Int32 :=
  if x2 < 0 then
    some (-1 : Int32)
  else
    if x1 < 0 ∨ 5 ≤ x1.toNatClampNeg then none else
    if (σ.1 19 x1.toNatClampNeg) ≤ x2 then
      some (-1 : Int32)
    else
      if ((x1 * (2 : Int32)) + x2) < 0 ∨ 10 ≤ ((x1 * (2 : Int32)) + x2).toNatClampNeg then none else
      some (σ.1 20 ((x1 * (2 : Int32)) + x2).toNatClampNeg)
set_option maxHeartbeats 4000000 in
set_option maxRecDepth 100000 in
theorem wC3_parameterAt {p : Program} {l : Launch} {e : Env} {s : State} {m : MethodId} {args : Array Value} {below : List Frame} {meth : Method} {c : Code} {Q : State → Prop} {dC : Nat → ClassId} {dI : Nat → Nat → Nat} {ad : Nat → Nat} {cA : Nat → ClassId} {r : Int32} {H : Heap} {locs : List Loc} {σ : xSt} (C : CallFix p m c cC3_parameterAt 3 s args wAll RC3) (hK : va_K (dC, dI) vwC (xT cA) s) (hP : va_P (dC, dI) vwC (xW ad cA σ) H) (hend : ∀ (v : Int32) (pc : Nat) (ls : Array Slot), v = r → decode cC3_parameterAt pc = .ok (.ireturn, 1) → W p l e rm_C3_parameterAt s m args below meth c H locs 0 0 Q (F0 m pc ls [.int v])) {x1 : Int32} {x2 : Int32} (ls : Array Slot) (hl : lv_has ls 3 [(0, .ref (ad 3)), (1, .int (x1)), (2, .int (x2))]) (h : fC3_parameterAt σ x1 x2 = some r) : W p l e rm_C3_parameterAt s m args below meth c H locs 0 0 Q (F0 m 0 ls []) := by
  obtain ⟨hx, hb, hml, hown, hts⟩ := id C
  unfold fC3_parameterAt at h
  refine lv_iload_n hx hb dC3_parameterAt_0 rfl (lv_at hl 2 rfl) ?_
  refine lv_if_lt (tgt := 27) hx hb dC3_parameterAt_1 (by decide) (fun c4 => ?_) (fun c4 => ?_)
  · have h := (if_pos c4).symm.trans h
    refine lv_iconst (v := (-1 : Int32)) hx hb dC3_parameterAt_27 (by decide) ?_
    exact hend _ _ _ (Option.some.inj h) dC3_parameterAt_28
  · have h := (if_neg c4).symm.trans h
    refine lv_iload_n hx hb dC3_parameterAt_4 rfl (lv_at hl 2 rfl) ?_
    refine lv_aload_n hx hb dC3_parameterAt_5 rfl (lv_at hl 0 rfl) ?_
    refine va_get (D := (dC, dI)) (ci := 3) (v := .ref (ad 19)) (C := RC3) (T := TC3) (N := 6) hx hb hts inC3 hown hK hP 3 rfl rfl 3 (by decide) (hts _ mw_180) (fun _ h9 => h9) rfl dC3_parameterAt_6 ?_
    refine lv_iload_n hx hb dC3_parameterAt_9 rfl (lv_at hl 1 rfl) ?_
    obtain ⟨b1, h⟩ := gx_nb h
    refine va_iald hx hb hK hP 19 14 rfl rfl b1 dC3_parameterAt_10 ?_
    refine lv_icmp_ge (tgt := 27) hx hb dC3_parameterAt_11 (by decide) (fun c3 => ?_) (fun c3 => ?_)
    · have h := (if_pos c3).symm.trans h
      refine lv_iconst (v := (-1 : Int32)) hx hb dC3_parameterAt_27 (by decide) ?_
      exact hend _ _ _ (Option.some.inj h) dC3_parameterAt_28
    · have h := (if_neg c3).symm.trans h
      refine lv_aload_n hx hb dC3_parameterAt_14 rfl (lv_at hl 0 rfl) ?_
      refine va_get (D := (dC, dI)) (ci := 3) (v := .ref (ad 20)) (C := RC3) (T := TC3) (N := 6) hx hb hts inC3 hown hK hP 3 rfl rfl 4 (by decide) (hts _ mw_187) (fun _ h9 => h9) rfl dC3_parameterAt_15 ?_
      refine lv_iload_n hx hb dC3_parameterAt_18 rfl (lv_at hl 1 rfl) ?_
      refine lv_iconst (v := (2 : Int32)) hx hb dC3_parameterAt_19 (by decide) ?_
      refine lv_imul hx hb dC3_parameterAt_20 ?_
      refine lv_iload_n hx hb dC3_parameterAt_21 rfl (lv_at hl 2 rfl) ?_
      refine lv_iadd hx hb dC3_parameterAt_22 ?_
      obtain ⟨b2, h⟩ := gx_nb h
      refine va_iald hx hb hK hP 20 15 rfl rfl b2 dC3_parameterAt_23 ?_
      refine lv_goto (tgt := 28) hx hb dC3_parameterAt_24 (by decide) ?_
      exact hend _ _ _ (Option.some.inj h) dC3_parameterAt_28
set_option maxHeartbeats 4000000 in
set_option maxRecDepth 100000 in
theorem kC3_parameterAt (l : Launch) (dC : Nat → ClassId) (dI : Nat → Nat → Nat) (ad : Nat → Nat) (cA : Nat → ClassId) (σ : xSt) (x1 : Int32) (x2 : Int32) (r : Int32) (h : fC3_parameterAt σ x1 x2 = some r) : Met l yC3_parameterAt wsC3_parameterAt rm_C3_parameterAt (va_Pc [.ref (ad 3), .int (x1), .int (x2)] (fun U => va_P (dC, dI) vwC (xW ad cA σ) U.heap ∧ va_K (dC, dI) vwC (xT cA) U)) (vp_Si (fun v => v = r)) 0 0 (fun _ => False) := by
  refine Met.ofW (cc := cC3_parameterAt) (maxL := 3) (ret := (some .int)) (by decide) rfl ?_
  intro p e s m args below meth c s₁ B hml hv
  obtain ⟨rfl, hP, hK⟩ := hv
  have hr := B.returns
  have hlocks := B.notSynchronized
  have hl := lv_entry ([.ref (ad 3), .int (x1), .int (x2)]) (n := 3) (Nat.le_of_ble_eq_true rfl)
  rw [lg_entry_eq]
  exact wC3_parameterAt ⟨B.exec, B.bytes, hml, findClass_of_methodNamed B.named, fun w h => atoms_spec (ws := wsC3_parameterAt) B.pre w (List.mem_cons_of_mem _ h)⟩ hK hP (fun v pc ls hv hd => W.iret (v := v) B.exec B.bytes hr (fun t ht hW => ⟨v, rfl, hv, ht⟩) (fun q hq => absurd hq List.not_mem_nil) hd) _ hl h
abbrev rm_C4_takesTold : Room := { frames := 2, cells := 0, slots := 0, locals := 49 }
def fC4_takesTold_b3 (σ : xSt) : Nat → Int32 → Int32 → Int32 → Int32 → Option Int32
  | 0, _, _, _, _ => none
  | n + 1, x1, x2, x3, x4 =>
    (fC3_widthOf σ x2).bind fun v1 =>
    if v1 ≤ x4 then
      (fC3_hasResult σ x2).bind fun v2 =>
      if v2 = 0 then
        some (1 : Int32)
      else
        (fC3_valueOf σ x2).bind fun v3 =>
        (fC2_resultOf σ x1).bind fun v4 =>
        (fC1_accepts σ v3 v4 x3).bind fun v5 =>
        if v5 = 0 then
          some (0 : Int32)
        else
          some (1 : Int32)
    else
      (fC2_parameterAt σ x1 x4).bind fun v8 =>
      (fC3_parameterAt σ x2 x4).bind fun v9 =>
      if v8 = v9 then
        fC4_takesTold_b3 σ n x1 x2 x3 (x4 + (1 : Int32))
      else
        some (0 : Int32)
set_option maxHeartbeats 4000000 in
set_option maxRecDepth 100000 in
theorem wC4_takesTold_b3 {p : Program} {l : Launch} {e : Env} {s : State} {m : MethodId} {args : Array Value} {below : List Frame} {meth : Method} {c : Code} {Q : State → Prop} {dC : Nat → ClassId} {dI : Nat → Nat → Nat} {ad : Nat → Nat} {cA : Nat → ClassId} {r : Int32} {H : Heap} {locs : List Loc} {σ : xSt} (C : CallFix p m c cC4_takesTold 5 s args wAll RC4) (hK : va_K (dC, dI) vwC (xT cA) s) (hP : va_P (dC, dI) vwC (xW ad cA σ) H) (hend : ∀ (v : Int32) (pc : Nat) (ls : Array Slot), v = r → narrow .boolean (.int v) = .int v → decode cC4_takesTold pc = .ok (.ireturn, 1) → W p l e rm_C4_takesTold s m args below meth c H locs 0 0 Q (F0 m pc ls [.int v])) :
    ∀ (n : Nat) (x1 : Int32) (x2 : Int32) (x3 : Int32) (x4 : Int32) (ls : Array Slot), lv_has ls 5 [(0, .ref (ad 4)), (1, .int (x1)), (2, .int (x2)), (3, .int (x3)), (4, .int (x4))] → fC4_takesTold_b3 σ n x1 x2 x3 x4 = some r → W p l e rm_C4_takesTold s m args below meth c H locs 0 0 Q (F0 m 3 ls []) := by
  obtain ⟨hx, hb, hml, hown, hts⟩ := id C
  intro n
  induction n with
  | zero =>
    intro x1 x2 x3 x4 ls hl h
    rw [fC4_takesTold_b3] at h
    cases h
  | succ n ih =>
    intro x1 x2 x3 x4 ls hl h
    rw [fC4_takesTold_b3] at h
    refine lv_iload hx hb dC4_takesTold_3 (lv_at hl 4 rfl) ?_
    refine lv_aload_n hx hb dC4_takesTold_5 rfl (lv_at hl 0 rfl) ?_
    refine va_get (D := (dC, dI)) (ci := 4) (v := .ref (ad 3)) (C := RC4) (T := TC4) (N := 10) hx hb hts inC4 hown hK hP 4 rfl rfl 2 (by decide) (hts _ mw_216) (fun _ h9 => h9) rfl dC4_takesTold_6 ?_
    refine lv_iload_n hx hb dC4_takesTold_9 rfl (lv_at hl 2 rfl) ?_
    obtain ⟨v1, ev1, h⟩ := Option.bind_eq_some_iff.mp h
    refine gcall_r (b := ad 3) (As := [.int (x2)]) (rest := [.int (x4)]) C hK hP (ci := 3) (q0 := 3) rfl rfl (kC3_widthOf l dC dI ad cA σ x2 v1 ev1) (cwV 1 hts (gw mw_234 mw_235 mw_236 mw_184 mw_237) rfl rfl rfl hdC3_widthOf ⟨Nat.le_of_ble_eq_true rfl, Nat.le_of_ble_eq_true rfl⟩) rfl hl.1 rfl (Nat.le_of_ble_eq_true rfl) dC4_takesTold_10 ⟨Nat.le_refl _, Nat.le_refl _⟩ ?_
    refine lv_icmp_ge (tgt := 47) hx hb dC4_takesTold_13 (by decide) (fun c11 => ?_) (fun c11 => ?_)
    · have h := (if_pos c11).symm.trans h
      refine lv_aload_n hx hb dC4_takesTold_47 rfl (lv_at hl 0 rfl) ?_
      refine va_get (D := (dC, dI)) (ci := 4) (v := .ref (ad 3)) (C := RC4) (T := TC4) (N := 10) hx hb hts inC4 hown hK hP 4 rfl rfl 2 (by decide) (hts _ mw_216) (fun _ h9 => h9) rfl dC4_takesTold_48 ?_
      refine lv_iload_n hx hb dC4_takesTold_51 rfl (lv_at hl 2 rfl) ?_
      obtain ⟨v2, ev2, h⟩ := Option.bind_eq_some_iff.mp h
      refine gcall_r (b := ad 3) (As := [.int (x2)]) (rest := []) C hK hP (ci := 3) (q0 := 3) rfl rfl (kC3_hasResult l dC dI ad cA σ x2 v2 ev2) (cwV 1 hts (gw mw_242 mw_243 mw_244 mw_184 mw_245) rfl rfl rfl hdC3_hasResult ⟨Nat.le_of_ble_eq_true rfl, Nat.le_of_ble_eq_true rfl⟩) rfl hl.1 rfl (Nat.le_of_ble_eq_true rfl) dC4_takesTold_52 ⟨Nat.le_refl _, Nat.le_refl _⟩ ?_
      refine lv_if_eq (tgt := 85) hx hb dC4_takesTold_55 (by decide) (fun c7 => ?_) (fun c7 => ?_)
      · have h := (if_pos c7).symm.trans h
        refine lv_iconst (v := (1 : Int32)) hx hb dC4_takesTold_85 (by decide) ?_
        refine lv_goto (tgt := 90) hx hb dC4_takesTold_86 (by decide) ?_
        exact hend _ _ _ (Option.some.inj h) rfl dC4_takesTold_90
      · have h := (if_neg c7).symm.trans h
        refine lv_aload_n hx hb dC4_takesTold_58 rfl (lv_at hl 0 rfl) ?_
        refine va_get (D := (dC, dI)) (ci := 4) (v := .ref (ad 1)) (C := RC4) (T := TC4) (N := 10) hx hb hts inC4 hown hK hP 4 rfl rfl 0 (by decide) (hts _ mw_260) (fun _ h9 => h9) rfl dC4_takesTold_59 ?_
        refine lv_aload_n hx hb dC4_takesTold_62 rfl (lv_at hl 0 rfl) ?_
        refine va_get (D := (dC, dI)) (ci := 4) (v := .ref (ad 3)) (C := RC4) (T := TC4) (N := 10) hx hb hts inC4 hown hK hP 4 rfl rfl 2 (by decide) (hts _ mw_216) (fun _ h9 => h9) rfl dC4_takesTold_63 ?_
        refine lv_iload_n hx hb dC4_takesTold_66 rfl (lv_at hl 2 rfl) ?_
        obtain ⟨v3, ev3, h⟩ := Option.bind_eq_some_iff.mp h
        refine gcall_r (b := ad 3) (As := [.int (x2)]) (rest := [.ref (ad 1)]) C hK hP (ci := 3) (q0 := 3) rfl rfl (kC3_valueOf l dC dI ad cA σ x2 v3 ev3) (cwV 1 hts (gw mw_272 mw_273 mw_274 mw_184 mw_275) rfl rfl rfl hdC3_valueOf ⟨Nat.le_of_ble_eq_true rfl, Nat.le_of_ble_eq_true rfl⟩) rfl hl.1 rfl (Nat.le_of_ble_eq_true rfl) dC4_takesTold_67 ⟨Nat.le_refl _, Nat.le_refl _⟩ ?_
        refine lv_aload_n hx hb dC4_takesTold_70 rfl (lv_at hl 0 rfl) ?_
        refine va_get (D := (dC, dI)) (ci := 4) (v := .ref (ad 2)) (C := RC4) (T := TC4) (N := 10) hx hb hts inC4 hown hK hP 4 rfl rfl 1 (by decide) (hts _ mw_206) (fun _ h9 => h9) rfl dC4_takesTold_71 ?_
        refine lv_iload_n hx hb dC4_takesTold_74 rfl (lv_at hl 1 rfl) ?_
        obtain ⟨v4, ev4, h⟩ := Option.bind_eq_some_iff.mp h
        refine gcall_r (b := ad 2) (As := [.int (x1)]) (rest := [.int (v3), .ref (ad 1)]) C hK hP (ci := 2) (q0 := 2) rfl rfl (kC2_resultOf l dC dI ad cA σ x1 v4 ev4) (cwV 1 hts (gw mw_276 mw_277 mw_278 mw_40 mw_279) rfl rfl rfl hdC2_resultOf ⟨Nat.le_of_ble_eq_true rfl, Nat.le_of_ble_eq_true rfl⟩) rfl hl.1 rfl (Nat.le_of_ble_eq_true rfl) dC4_takesTold_75 ⟨Nat.le_refl _, Nat.le_refl _⟩ ?_
        refine lv_iload_n hx hb dC4_takesTold_78 rfl (lv_at hl 3 rfl) ?_
        obtain ⟨v5, ev5, h⟩ := Option.bind_eq_some_iff.mp h
        refine gcall_r (b := ad 1) (As := [.int (v3), .int (v4), .int (x3)]) (rest := []) C hK hP (ci := 1) (q0 := 1) rfl rfl (kC1_accepts l dC dI ad cA σ v3 v4 x3 v5 ev5) (cwV 3 hts (gw mw_306 mw_132 mw_133 mw_7 mw_134) rfl rfl rfl hdC1_accepts ⟨Nat.le_of_ble_eq_true rfl, Nat.le_of_ble_eq_true rfl⟩) rfl hl.1 rfl (Nat.le_of_ble_eq_true rfl) dC4_takesTold_79 ⟨Nat.le_refl _, Nat.le_refl _⟩ ?_
        refine lv_if_eq (tgt := 89) hx hb dC4_takesTold_82 (by decide) (fun c6 => ?_) (fun c6 => ?_)
        · have h := (if_pos c6).symm.trans h
          refine lv_iconst (v := (0 : Int32)) hx hb dC4_takesTold_89 (by decide) ?_
          exact hend _ _ _ (Option.some.inj h) rfl dC4_takesTold_90
        · have h := (if_neg c6).symm.trans h
          refine lv_iconst (v := (1 : Int32)) hx hb dC4_takesTold_85 (by decide) ?_
          refine lv_goto (tgt := 90) hx hb dC4_takesTold_86 (by decide) ?_
          exact hend _ _ _ (Option.some.inj h) rfl dC4_takesTold_90
    · have h := (if_neg c11).symm.trans h
      refine lv_aload_n hx hb dC4_takesTold_16 rfl (lv_at hl 0 rfl) ?_
      refine va_get (D := (dC, dI)) (ci := 4) (v := .ref (ad 2)) (C := RC4) (T := TC4) (N := 10) hx hb hts inC4 hown hK hP 4 rfl rfl 1 (by decide) (hts _ mw_206) (fun _ h9 => h9) rfl dC4_takesTold_17 ?_
      refine lv_iload_n hx hb dC4_takesTold_20 rfl (lv_at hl 1 rfl) ?_
      refine lv_iload hx hb dC4_takesTold_21 (lv_at hl 4 rfl) ?_
      obtain ⟨v8, ev8, h⟩ := Option.bind_eq_some_iff.mp h
      refine gcall_r (b := ad 2) (As := [.int (x1), .int (x4)]) (rest := []) C hK hP (ci := 2) (q0 := 2) rfl rfl (kC2_parameterAt l dC dI ad cA σ x1 x4 v8 ev8) (cwV 2 hts (gw mw_307 mw_101 mw_102 mw_40 mw_103) rfl rfl rfl hdC2_parameterAt ⟨Nat.le_of_ble_eq_true rfl, Nat.le_of_ble_eq_true rfl⟩) rfl hl.1 rfl (Nat.le_of_ble_eq_true rfl) dC4_takesTold_23 ⟨Nat.le_refl _, Nat.le_refl _⟩ ?_
      refine lv_aload_n hx hb dC4_takesTold_26 rfl (lv_at hl 0 rfl) ?_
      refine va_get (D := (dC, dI)) (ci := 4) (v := .ref (ad 3)) (C := RC4) (T := TC4) (N := 10) hx hb hts inC4 hown hK hP 4 rfl rfl 2 (by decide) (hts _ mw_216) (fun _ h9 => h9) rfl dC4_takesTold_27 ?_
      refine lv_iload_n hx hb dC4_takesTold_30 rfl (lv_at hl 2 rfl) ?_
      refine lv_iload hx hb dC4_takesTold_31 (lv_at hl 4 rfl) ?_
      obtain ⟨v9, ev9, h⟩ := Option.bind_eq_some_iff.mp h
      refine gcall_r (b := ad 3) (As := [.int (x2), .int (x4)]) (rest := [.int (v8)]) C hK hP (ci := 3) (q0 := 3) rfl rfl (kC3_parameterAt l dC dI ad cA σ x2 x4 v9 ev9) (cwV 2 hts (gw mw_308 mw_309 mw_310 mw_184 mw_311) rfl rfl rfl hdC3_parameterAt ⟨Nat.le_of_ble_eq_true rfl, Nat.le_of_ble_eq_true rfl⟩) rfl hl.1 rfl (Nat.le_of_ble_eq_true rfl) dC4_takesTold_33 ⟨Nat.le_refl _, Nat.le_refl _⟩ ?_
      refine lv_icmp_eq (tgt := 41) hx hb dC4_takesTold_36 (by decide) (fun c10 => ?_) (fun c10 => ?_)
      · have h := (if_pos c10).symm.trans h
        refine lv_iinc (v := x4 + (1 : Int32)) (lv' := [(4, .int (x4 + (1 : Int32))), (0, .ref (ad 4)), (1, .int (x1)), (2, .int (x2)), (3, .int (x3))]) hx hb dC4_takesTold_41 hl (k := 4) rfl rfl (by decide) rfl (fun ls hl => ?_)
        refine lv_goto (tgt := 3) hx hb dC4_takesTold_44 (by decide) ?_
        exact ih _ _ _ _ _ (lv_sub hl [1, 2, 3, 4, 0] rfl) h
      · have h := (if_neg c10).symm.trans h
        refine lv_iconst (v := (0 : Int32)) hx hb dC4_takesTold_39 (by decide) ?_
        exact hend _ _ _ (Option.some.inj h) rfl dC4_takesTold_40
def fC4_takesTold (σ : xSt) (x1 : Int32) (x2 : Int32) (x3 : Int32) : Option Int32 :=
  fC4_takesTold_b3 σ gF x1 x2 x3 (0 : Int32)
set_option maxHeartbeats 4000000 in
set_option maxRecDepth 100000 in
theorem wC4_takesTold {p : Program} {l : Launch} {e : Env} {s : State} {m : MethodId} {args : Array Value} {below : List Frame} {meth : Method} {c : Code} {Q : State → Prop} {dC : Nat → ClassId} {dI : Nat → Nat → Nat} {ad : Nat → Nat} {cA : Nat → ClassId} {r : Int32} {H : Heap} {locs : List Loc} {σ : xSt} (C : CallFix p m c cC4_takesTold 5 s args wAll RC4) (hK : va_K (dC, dI) vwC (xT cA) s) (hP : va_P (dC, dI) vwC (xW ad cA σ) H) (hend : ∀ (v : Int32) (pc : Nat) (ls : Array Slot), v = r → narrow .boolean (.int v) = .int v → decode cC4_takesTold pc = .ok (.ireturn, 1) → W p l e rm_C4_takesTold s m args below meth c H locs 0 0 Q (F0 m pc ls [.int v])) {x1 : Int32} {x2 : Int32} {x3 : Int32} (ls : Array Slot) (hl : lv_has ls 5 [(0, .ref (ad 4)), (1, .int (x1)), (2, .int (x2)), (3, .int (x3))]) (h : fC4_takesTold σ x1 x2 x3 = some r) : W p l e rm_C4_takesTold s m args below meth c H locs 0 0 Q (F0 m 0 ls []) := by
  obtain ⟨hx, hb, hml, hown, hts⟩ := id C
  unfold fC4_takesTold at h
  refine lv_iconst (v := (0 : Int32)) hx hb dC4_takesTold_0 (by decide) ?_
  refine lv_istore (lv' := [(4, .int ((0 : Int32))), (0, .ref (ad 4)), (1, .int (x1)), (2, .int (x2)), (3, .int (x3))]) hx hb dC4_takesTold_1 hl (by decide) rfl (fun ls hl => ?_)
  exact wC4_takesTold_b3 C hK hP hend _ _ _ _ _ _ (lv_sub hl [1, 2, 3, 4, 0] rfl) h
set_option maxHeartbeats 4000000 in
set_option maxRecDepth 100000 in
theorem kC4_takesTold (l : Launch) (dC : Nat → ClassId) (dI : Nat → Nat → Nat) (ad : Nat → Nat) (cA : Nat → ClassId) (σ : xSt) (x1 : Int32) (x2 : Int32) (x3 : Int32) (r : Int32) (h : fC4_takesTold σ x1 x2 x3 = some r) : Met l yC4_takesTold wsC4_takesTold rm_C4_takesTold (va_Pc [.ref (ad 4), .int (x1), .int (x2), .int (x3)] (fun U => va_P (dC, dI) vwC (xW ad cA σ) U.heap ∧ va_K (dC, dI) vwC (xT cA) U)) (vp_Si (fun v => v = r)) 0 0 (fun _ => False) := by
  refine Met.ofW (cc := cC4_takesTold) (maxL := 5) (ret := (some .boolean)) (by decide) rfl ?_
  intro p e s m args below meth c s₁ B hml hv
  obtain ⟨rfl, hP, hK⟩ := hv
  have hr := B.returns
  have hlocks := B.notSynchronized
  have hl := lv_entry ([.ref (ad 4), .int (x1), .int (x2), .int (x3)]) (n := 5) (Nat.le_of_ble_eq_true rfl)
  rw [lg_entry_eq]
  exact wC4_takesTold ⟨B.exec, B.bytes, hml, findClass_of_methodNamed B.named, fun w h => atoms_spec (ws := wsC4_takesTold) B.pre w (List.mem_cons_of_mem _ h)⟩ hK hP (fun v pc ls hv hn hd => W.zret (v := v) B.exec B.bytes hr hn (fun t ht hW => ⟨v, rfl, hv, ht⟩) (fun q hq => absurd hq List.not_mem_nil) hd) _ hl h
abbrev rm_C4_takes : Room := { frames := 3, cells := 0, slots := 0, locals := 73 }
def fC4_takes (σ : xSt) (x1 : Int32) (x2 : Int32) (x3 : Int32) : Option Int32 :=
  (fC3_isLambda σ x2).bind fun v1 =>
  if v1 = 0 then
    (fC3_valueOf σ x2).bind fun v9 =>
    (fC1_accepts σ v9 x1 x3).bind fun v10 =>
    if v10 &&& 1 = v10 then
      some v10
    else none
  else
    (fC4_hasShape σ x1 x2).bind fun v2 =>
    if v2 = 0 then
      some (0 : Int32)
    else
      (fC3_isToldLambda σ x2).bind fun v3 =>
      if v3 = 0 then
        some (1 : Int32)
      else
        (fC2_functionOf σ x1).bind fun v4 =>
        (fC4_takesTold σ v4 x2 x3).bind fun v5 =>
        if v5 = 0 then
          some (0 : Int32)
        else
          some (1 : Int32)
set_option maxHeartbeats 4000000 in
set_option maxRecDepth 100000 in
theorem wC4_takes {p : Program} {l : Launch} {e : Env} {s : State} {m : MethodId} {args : Array Value} {below : List Frame} {meth : Method} {c : Code} {Q : State → Prop} {dC : Nat → ClassId} {dI : Nat → Nat → Nat} {ad : Nat → Nat} {cA : Nat → ClassId} {r : Int32} {H : Heap} {locs : List Loc} {σ : xSt} (C : CallFix p m c cC4_takes 4 s args wAll RC4) (hK : va_K (dC, dI) vwC (xT cA) s) (hP : va_P (dC, dI) vwC (xW ad cA σ) H) (hend : ∀ (v : Int32) (pc : Nat) (ls : Array Slot), v = r → narrow .boolean (.int v) = .int v → decode cC4_takes pc = .ok (.ireturn, 1) → W p l e rm_C4_takes s m args below meth c H locs 0 0 Q (F0 m pc ls [.int v])) {x1 : Int32} {x2 : Int32} {x3 : Int32} (ls : Array Slot) (hl : lv_has ls 4 [(0, .ref (ad 4)), (1, .int (x1)), (2, .int (x2)), (3, .int (x3))]) (h : fC4_takes σ x1 x2 x3 = some r) : W p l e rm_C4_takes s m args below meth c H locs 0 0 Q (F0 m 0 ls []) := by
  obtain ⟨hx, hb, hml, hown, hts⟩ := id C
  unfold fC4_takes at h
  refine lv_aload_n hx hb dC4_takes_0 rfl (lv_at hl 0 rfl) ?_
  refine va_get (D := (dC, dI)) (ci := 4) (v := .ref (ad 3)) (C := RC4) (T := TC4) (N := 10) hx hb hts inC4 hown hK hP 4 rfl rfl 2 (by decide) (hts _ mw_216) (fun _ h9 => h9) rfl dC4_takes_1 ?_
  refine lv_iload_n hx hb dC4_takes_4 rfl (lv_at hl 2 rfl) ?_
  obtain ⟨v1, ev1, h⟩ := Option.bind_eq_some_iff.mp h
  refine gcall_r (b := ad 3) (As := [.int (x2)]) (rest := []) C hK hP (ci := 3) (q0 := 3) rfl rfl (kC3_isLambda l dC dI ad cA σ x2 v1 ev1) (cwV 1 hts (gw mw_221 mw_222 mw_223 mw_184 mw_224) rfl rfl rfl hdC3_isLambda ⟨Nat.le_of_ble_eq_true rfl, Nat.le_of_ble_eq_true rfl⟩) rfl hl.1 rfl (Nat.le_of_ble_eq_true rfl) dC4_takes_5 ⟨Nat.le_refl _, Nat.le_refl _⟩ ?_
  refine lv_if_ne (tgt := 29) hx hb dC4_takes_8 (by decide) (fun c12 => ?_) (fun c12 => ?_)
  · have h := (if_neg c12).symm.trans h
    refine lv_aload_n hx hb dC4_takes_29 rfl (lv_at hl 0 rfl) ?_
    refine lv_iload_n hx hb dC4_takes_30 rfl (lv_at hl 1 rfl) ?_
    refine lv_iload_n hx hb dC4_takes_31 rfl (lv_at hl 2 rfl) ?_
    obtain ⟨v2, ev2, h⟩ := Option.bind_eq_some_iff.mp h
    refine gcall_r (b := ad 4) (As := [.int (x1), .int (x2)]) (rest := []) C hK hP (ci := 4) (q0 := 4) rfl rfl (kC4_hasShape l dC dI ad cA σ x1 x2 v2 ev2) (cwV 2 hts (gw mw_246 mw_247 mw_248 mw_204 mw_249) rfl rfl rfl hdC4_hasShape ⟨Nat.le_of_ble_eq_true rfl, Nat.le_of_ble_eq_true rfl⟩) rfl hl.1 rfl (Nat.le_of_ble_eq_true rfl) dC4_takes_32 ⟨Nat.le_refl _, Nat.le_refl _⟩ ?_
    refine lv_if_ne (tgt := 40) hx hb dC4_takes_35 (by decide) (fun c8 => ?_) (fun c8 => ?_)
    · have h := (if_neg c8).symm.trans h
      refine lv_aload_n hx hb dC4_takes_40 rfl (lv_at hl 0 rfl) ?_
      refine va_get (D := (dC, dI)) (ci := 4) (v := .ref (ad 3)) (C := RC4) (T := TC4) (N := 10) hx hb hts inC4 hown hK hP 4 rfl rfl 2 (by decide) (hts _ mw_216) (fun _ h9 => h9) rfl dC4_takes_41 ?_
      refine lv_iload_n hx hb dC4_takes_44 rfl (lv_at hl 2 rfl) ?_
      obtain ⟨v3, ev3, h⟩ := Option.bind_eq_some_iff.mp h
      refine gcall_r (b := ad 3) (As := [.int (x2)]) (rest := []) C hK hP (ci := 3) (q0 := 3) rfl rfl (kC3_isToldLambda l dC dI ad cA σ x2 v3 ev3) (cwV 1 hts (gw mw_267 mw_268 mw_269 mw_184 mw_270) rfl rfl rfl hdC3_isToldLambda ⟨Nat.le_of_ble_eq_true rfl, Nat.le_of_ble_eq_true rfl⟩) rfl hl.1 rfl (Nat.le_of_ble_eq_true rfl) dC4_takes_45 ⟨Nat.le_refl _, Nat.le_refl _⟩ ?_
      refine lv_if_eq (tgt := 68) hx hb dC4_takes_48 (by decide) (fun c7 => ?_) (fun c7 => ?_)
      · have h := (if_pos c7).symm.trans h
        refine lv_iconst (v := (1 : Int32)) hx hb dC4_takes_68 (by decide) ?_
        refine lv_goto (tgt := 73) hx hb dC4_takes_69 (by decide) ?_
        exact hend _ _ _ (Option.some.inj h) rfl dC4_takes_73
      · have h := (if_neg c7).symm.trans h
        refine lv_aload_n hx hb dC4_takes_51 rfl (lv_at hl 0 rfl) ?_
        refine lv_aload_n hx hb dC4_takes_52 rfl (lv_at hl 0 rfl) ?_
        refine va_get (D := (dC, dI)) (ci := 4) (v := .ref (ad 2)) (C := RC4) (T := TC4) (N := 10) hx hb hts inC4 hown hK hP 4 rfl rfl 1 (by decide) (hts _ mw_206) (fun _ h9 => h9) rfl dC4_takes_53 ?_
        refine lv_iload_n hx hb dC4_takes_56 rfl (lv_at hl 1 rfl) ?_
        obtain ⟨v4, ev4, h⟩ := Option.bind_eq_some_iff.mp h
        refine gcall_r (b := ad 2) (As := [.int (x1)]) (rest := [.ref (ad 4)]) C hK hP (ci := 2) (q0 := 2) rfl rfl (kC2_functionOf l dC dI ad cA σ x1 v4 ev4) (cwV 1 hts (gw mw_233 mw_162 mw_163 mw_40 mw_164) rfl rfl rfl hdC2_functionOf ⟨Nat.le_of_ble_eq_true rfl, Nat.le_of_ble_eq_true rfl⟩) rfl hl.1 rfl (Nat.le_of_ble_eq_true rfl) dC4_takes_57 ⟨Nat.le_refl _, Nat.le_refl _⟩ ?_
        refine lv_iload_n hx hb dC4_takes_60 rfl (lv_at hl 2 rfl) ?_
        refine lv_iload_n hx hb dC4_takes_61 rfl (lv_at hl 3 rfl) ?_
        obtain ⟨v5, ev5, h⟩ := Option.bind_eq_some_iff.mp h
        refine gcall_r (b := ad 4) (As := [.int (v4), .int (x2), .int (x3)]) (rest := []) C hK hP (ci := 4) (q0 := 4) rfl rfl (kC4_takesTold l dC dI ad cA σ v4 x2 x3 v5 ev5) (cwV 3 hts (gw mw_312 mw_313 mw_314 mw_204 mw_315) rfl rfl rfl hdC4_takesTold ⟨Nat.le_of_ble_eq_true rfl, Nat.le_of_ble_eq_true rfl⟩) rfl hl.1 rfl (Nat.le_of_ble_eq_true rfl) dC4_takes_62 ⟨Nat.le_refl _, Nat.le_refl _⟩ ?_
        refine lv_if_eq (tgt := 72) hx hb dC4_takes_65 (by decide) (fun c6 => ?_) (fun c6 => ?_)
        · have h := (if_pos c6).symm.trans h
          refine lv_iconst (v := (0 : Int32)) hx hb dC4_takes_72 (by decide) ?_
          exact hend _ _ _ (Option.some.inj h) rfl dC4_takes_73
        · have h := (if_neg c6).symm.trans h
          refine lv_iconst (v := (1 : Int32)) hx hb dC4_takes_68 (by decide) ?_
          refine lv_goto (tgt := 73) hx hb dC4_takes_69 (by decide) ?_
          exact hend _ _ _ (Option.some.inj h) rfl dC4_takes_73
    · have h := (if_pos c8).symm.trans h
      refine lv_iconst (v := (0 : Int32)) hx hb dC4_takes_38 (by decide) ?_
      exact hend _ _ _ (Option.some.inj h) rfl dC4_takes_39
  · have h := (if_pos c12).symm.trans h
    refine lv_aload_n hx hb dC4_takes_11 rfl (lv_at hl 0 rfl) ?_
    refine va_get (D := (dC, dI)) (ci := 4) (v := .ref (ad 1)) (C := RC4) (T := TC4) (N := 10) hx hb hts inC4 hown hK hP 4 rfl rfl 0 (by decide) (hts _ mw_260) (fun _ h9 => h9) rfl dC4_takes_12 ?_
    refine lv_aload_n hx hb dC4_takes_15 rfl (lv_at hl 0 rfl) ?_
    refine va_get (D := (dC, dI)) (ci := 4) (v := .ref (ad 3)) (C := RC4) (T := TC4) (N := 10) hx hb hts inC4 hown hK hP 4 rfl rfl 2 (by decide) (hts _ mw_216) (fun _ h9 => h9) rfl dC4_takes_16 ?_
    refine lv_iload_n hx hb dC4_takes_19 rfl (lv_at hl 2 rfl) ?_
    obtain ⟨v9, ev9, h⟩ := Option.bind_eq_some_iff.mp h
    refine gcall_r (b := ad 3) (As := [.int (x2)]) (rest := [.ref (ad 1)]) C hK hP (ci := 3) (q0 := 3) rfl rfl (kC3_valueOf l dC dI ad cA σ x2 v9 ev9) (cwV 1 hts (gw mw_272 mw_273 mw_274 mw_184 mw_275) rfl rfl rfl hdC3_valueOf ⟨Nat.le_of_ble_eq_true rfl, Nat.le_of_ble_eq_true rfl⟩) rfl hl.1 rfl (Nat.le_of_ble_eq_true rfl) dC4_takes_20 ⟨Nat.le_refl _, Nat.le_refl _⟩ ?_
    refine lv_iload_n hx hb dC4_takes_23 rfl (lv_at hl 1 rfl) ?_
    refine lv_iload_n hx hb dC4_takes_24 rfl (lv_at hl 3 rfl) ?_
    obtain ⟨v10, ev10, h⟩ := Option.bind_eq_some_iff.mp h
    refine gcall_r (b := ad 1) (As := [.int (v9), .int (x1), .int (x3)]) (rest := []) C hK hP (ci := 1) (q0 := 1) rfl rfl (kC1_accepts l dC dI ad cA σ v9 x1 x3 v10 ev10) (cwV 3 hts (gw mw_306 mw_132 mw_133 mw_7 mw_134) rfl rfl rfl hdC1_accepts ⟨Nat.le_of_ble_eq_true rfl, Nat.le_of_ble_eq_true rfl⟩) rfl hl.1 rfl (Nat.le_of_ble_eq_true rfl) dC4_takes_25 ⟨Nat.le_refl _, Nat.le_refl _⟩ ?_
    obtain ⟨b11, h⟩ := gx_gd h
    exact hend _ _ _ (Option.some.inj h) (gx_nar b11) dC4_takes_28
set_option maxHeartbeats 4000000 in
set_option maxRecDepth 100000 in
theorem kC4_takes (l : Launch) (dC : Nat → ClassId) (dI : Nat → Nat → Nat) (ad : Nat → Nat) (cA : Nat → ClassId) (σ : xSt) (x1 : Int32) (x2 : Int32) (x3 : Int32) (r : Int32) (h : fC4_takes σ x1 x2 x3 = some r) : Met l yC4_takes wsC4_takes rm_C4_takes (va_Pc [.ref (ad 4), .int (x1), .int (x2), .int (x3)] (fun U => va_P (dC, dI) vwC (xW ad cA σ) U.heap ∧ va_K (dC, dI) vwC (xT cA) U)) (vp_Si (fun v => v = r)) 0 0 (fun _ => False) := by
  refine Met.ofW (cc := cC4_takes) (maxL := 4) (ret := (some .boolean)) (by decide) rfl ?_
  intro p e s m args below meth c s₁ B hml hv
  obtain ⟨rfl, hP, hK⟩ := hv
  have hr := B.returns
  have hlocks := B.notSynchronized
  have hl := lv_entry ([.ref (ad 4), .int (x1), .int (x2), .int (x3)]) (n := 4) (Nat.le_of_ble_eq_true rfl)
  rw [lg_entry_eq]
  exact wC4_takes ⟨B.exec, B.bytes, hml, findClass_of_methodNamed B.named, fun w h => atoms_spec (ws := wsC4_takes) B.pre w (List.mem_cons_of_mem _ h)⟩ hK hP (fun v pc ls hv hn hd => W.zret (v := v) B.exec B.bytes hr hn (fun t ht hW => ⟨v, rfl, hv, ht⟩) (fun q hq => absurd hq List.not_mem_nil) hd) _ hl h
abbrev rm_C4_applies : Room := { frames := 4, cells := 0, slots := 0, locals := 96 }
def fC4_applies_b88 (k52 : Int32 → Int32 → Int32 → Int32 → Option Int32) (σ : xSt) (x1 : Int32) (x2 : Int32) (x3 : Int32) (x4 : Int32) (s1 : Int32) (s2 : Int32) (s3 : Int32) : Option Int32 :=
  (fC4_takes σ s1 s2 s3).bind fun v5 =>
  if v5 = 0 then
    some (0 : Int32)
  else
    k52 x1 x2 x3 (x4 + (1 : Int32))
set_option maxHeartbeats 4000000 in
set_option maxRecDepth 100000 in
theorem wC4_applies_b88 {p : Program} {l : Launch} {e : Env} {s : State} {m : MethodId} {args : Array Value} {below : List Frame} {meth : Method} {c : Code} {Q : State → Prop} {dC : Nat → ClassId} {dI : Nat → Nat → Nat} {ad : Nat → Nat} {cA : Nat → ClassId} {r : Int32} {H : Heap} {locs : List Loc} {σ : xSt} (C : CallFix p m c cC4_applies 5 s args wAll RC4) (hK : va_K (dC, dI) vwC (xT cA) s) (hP : va_P (dC, dI) vwC (xW ad cA σ) H) (hend : ∀ (v : Int32) (pc : Nat) (ls : Array Slot), v = r → narrow .boolean (.int v) = .int v → decode cC4_applies pc = .ok (.ireturn, 1) → W p l e rm_C4_applies s m args below meth c H locs 0 0 Q (F0 m pc ls [.int v])) {k52 : Int32 → Int32 → Int32 → Int32 → Option Int32} (hk52 : ∀ (x1 : Int32) (x2 : Int32) (x3 : Int32) (x4 : Int32) (ls : Array Slot), lv_has ls 5 [(0, .ref (ad 4)), (1, .int (x1)), (2, .int (x2)), (3, .int (x3)), (4, .int (x4))] → k52 x1 x2 x3 x4 = some r → W p l e rm_C4_applies s m args below meth c H locs 0 0 Q (F0 m 52 ls [])) :
    ∀ (x1 : Int32) (x2 : Int32) (x3 : Int32) (x4 : Int32) (s1 : Int32) (s2 : Int32) (s3 : Int32) (ls : Array Slot), lv_has ls 5 [(0, .ref (ad 4)), (1, .int (x1)), (2, .int (x2)), (3, .int (x3)), (4, .int (x4))] → fC4_applies_b88 k52 σ x1 x2 x3 x4 s1 s2 s3 = some r → W p l e rm_C4_applies s m args below meth c H locs 0 0 Q (F0 m 88 ls [.int (s3), .int (s2), .int (s1), .ref (ad 4)]) := by
  obtain ⟨hx, hb, hml, hown, hts⟩ := id C
  intro x1 x2 x3 x4 s1 s2 s3 ls hl h
  unfold fC4_applies_b88 at h
  obtain ⟨v5, ev5, h⟩ := Option.bind_eq_some_iff.mp h
  refine gcall_r (b := ad 4) (As := [.int (s1), .int (s2), .int (s3)]) (rest := []) C hK hP (ci := 4) (q0 := 4) rfl rfl (kC4_takes l dC dI ad cA σ s1 s2 s3 v5 ev5) (cwV 3 hts (gw mw_316 mw_317 mw_318 mw_204 mw_319) rfl rfl rfl hdC4_takes ⟨Nat.le_of_ble_eq_true rfl, Nat.le_of_ble_eq_true rfl⟩) rfl hl.1 rfl (Nat.le_of_ble_eq_true rfl) dC4_applies_88 ⟨Nat.le_refl _, Nat.le_refl _⟩ ?_
  refine lv_if_ne (tgt := 96) hx hb dC4_applies_91 (by decide) (fun c6 => ?_) (fun c6 => ?_)
  · have h := (if_neg c6).symm.trans h
    refine lv_iinc (v := x4 + (1 : Int32)) (lv' := [(4, .int (x4 + (1 : Int32))), (0, .ref (ad 4)), (1, .int (x1)), (2, .int (x2)), (3, .int (x3))]) hx hb dC4_applies_96 hl (k := 4) rfl rfl (by decide) rfl (fun ls hl => ?_)
    refine lv_goto (tgt := 52) hx hb dC4_applies_99 (by decide) ?_
    exact hk52 _ _ _ _ _ (lv_sub hl [1, 2, 3, 4, 0] rfl) h
  · have h := (if_pos c6).symm.trans h
    refine lv_iconst (v := (0 : Int32)) hx hb dC4_applies_94 (by decide) ?_
    exact hend _ _ _ (Option.some.inj h) rfl dC4_applies_95
def fC4_applies_b52 (σ : xSt) : Nat → Int32 → Int32 → Int32 → Int32 → Option Int32
  | 0, _, _, _, _ => none
  | n + 1, x1, x2, x3, x4 =>
    (fC3_size σ).bind fun v3 =>
    if v3 ≤ x4 then
      some (1 : Int32)
    else
      (fC2_facing σ x1 x4 x3).bind fun v4 =>
      if x2 ≤ (1 : Int32) then
        fC4_applies_b88 (fC4_applies_b52 σ n) σ x1 x2 x3 x4 v4 x4 (0 : Int32)
      else
        fC4_applies_b88 (fC4_applies_b52 σ n) σ x1 x2 x3 x4 v4 x4 (1 : Int32)
set_option maxHeartbeats 4000000 in
set_option maxRecDepth 100000 in
theorem wC4_applies_b52 {p : Program} {l : Launch} {e : Env} {s : State} {m : MethodId} {args : Array Value} {below : List Frame} {meth : Method} {c : Code} {Q : State → Prop} {dC : Nat → ClassId} {dI : Nat → Nat → Nat} {ad : Nat → Nat} {cA : Nat → ClassId} {r : Int32} {H : Heap} {locs : List Loc} {σ : xSt} (C : CallFix p m c cC4_applies 5 s args wAll RC4) (hK : va_K (dC, dI) vwC (xT cA) s) (hP : va_P (dC, dI) vwC (xW ad cA σ) H) (hend : ∀ (v : Int32) (pc : Nat) (ls : Array Slot), v = r → narrow .boolean (.int v) = .int v → decode cC4_applies pc = .ok (.ireturn, 1) → W p l e rm_C4_applies s m args below meth c H locs 0 0 Q (F0 m pc ls [.int v])) :
    ∀ (n : Nat) (x1 : Int32) (x2 : Int32) (x3 : Int32) (x4 : Int32) (ls : Array Slot), lv_has ls 5 [(0, .ref (ad 4)), (1, .int (x1)), (2, .int (x2)), (3, .int (x3)), (4, .int (x4))] → fC4_applies_b52 σ n x1 x2 x3 x4 = some r → W p l e rm_C4_applies s m args below meth c H locs 0 0 Q (F0 m 52 ls []) := by
  obtain ⟨hx, hb, hml, hown, hts⟩ := id C
  intro n
  induction n with
  | zero =>
    intro x1 x2 x3 x4 ls hl h
    rw [fC4_applies_b52] at h
    cases h
  | succ n ih =>
    intro x1 x2 x3 x4 ls hl h
    rw [fC4_applies_b52] at h
    refine lv_iload hx hb dC4_applies_52 (lv_at hl 4 rfl) ?_
    refine lv_aload_n hx hb dC4_applies_54 rfl (lv_at hl 0 rfl) ?_
    refine va_get (D := (dC, dI)) (ci := 4) (v := .ref (ad 3)) (C := RC4) (T := TC4) (N := 10) hx hb hts inC4 hown hK hP 4 rfl rfl 2 (by decide) (hts _ mw_216) (fun _ h9 => h9) rfl dC4_applies_55 ?_
    obtain ⟨v3, ev3, h⟩ := Option.bind_eq_some_iff.mp h
    refine gcall_r (b := ad 3) (As := []) (rest := [.int (x4)]) C hK hP (ci := 3) (q0 := 3) rfl rfl (kC3_size l dC dI ad cA σ v3 ev3) (cwV 0 hts (gw mw_217 mw_218 mw_219 mw_184 mw_220) rfl rfl rfl hdC3_size ⟨Nat.le_of_ble_eq_true rfl, Nat.le_of_ble_eq_true rfl⟩) rfl hl.1 rfl (Nat.le_of_ble_eq_true rfl) dC4_applies_58 ⟨Nat.le_refl _, Nat.le_refl _⟩ ?_
    refine lv_icmp_ge (tgt := 102) hx hb dC4_applies_61 (by decide) (fun c8 => ?_) (fun c8 => ?_)
    · have h := (if_pos c8).symm.trans h
      refine lv_iconst (v := (1 : Int32)) hx hb dC4_applies_102 (by decide) ?_
      exact hend _ _ _ (Option.some.inj h) rfl dC4_applies_103
    · have h := (if_neg c8).symm.trans h
      refine lv_aload_n hx hb dC4_applies_64 rfl (lv_at hl 0 rfl) ?_
      refine lv_aload_n hx hb dC4_applies_65 rfl (lv_at hl 0 rfl) ?_
      refine va_get (D := (dC, dI)) (ci := 4) (v := .ref (ad 2)) (C := RC4) (T := TC4) (N := 10) hx hb hts inC4 hown hK hP 4 rfl rfl 1 (by decide) (hts _ mw_206) (fun _ h9 => h9) rfl dC4_applies_66 ?_
      refine lv_iload_n hx hb dC4_applies_69 rfl (lv_at hl 1 rfl) ?_
      refine lv_iload hx hb dC4_applies_70 (lv_at hl 4 rfl) ?_
      refine lv_iload_n hx hb dC4_applies_72 rfl (lv_at hl 3 rfl) ?_
      obtain ⟨v4, ev4, h⟩ := Option.bind_eq_some_iff.mp h
      refine gcall_r (b := ad 2) (As := [.int (x1), .int (x4), .int (x3)]) (rest := [.ref (ad 4)]) C hK hP (ci := 2) (q0 := 2) rfl rfl (kC2_facing l dC dI ad cA σ x1 x4 x3 v4 ev4) (cwV 3 hts (gw mw_229 mw_230 mw_231 mw_40 mw_232) rfl rfl rfl hdC2_facing ⟨Nat.le_of_ble_eq_true rfl, Nat.le_of_ble_eq_true rfl⟩) rfl hl.1 rfl (Nat.le_of_ble_eq_true rfl) dC4_applies_73 ⟨Nat.le_refl _, Nat.le_refl _⟩ ?_
      refine lv_iload hx hb dC4_applies_76 (lv_at hl 4 rfl) ?_
      refine lv_iload_n hx hb dC4_applies_78 rfl (lv_at hl 2 rfl) ?_
      refine lv_iconst (v := (1 : Int32)) hx hb dC4_applies_79 (by decide) ?_
      refine lv_icmp_le (tgt := 87) hx hb dC4_applies_80 (by decide) (fun c7 => ?_) (fun c7 => ?_)
      · have h := (if_pos c7).symm.trans h
        refine lv_iconst (v := (0 : Int32)) hx hb dC4_applies_87 (by decide) ?_
        exact wC4_applies_b88 C hK hP hend ih _ _ _ _ _ _ _ _ (lv_sub hl [0, 1, 2, 3, 4] rfl) h
      · have h := (if_neg c7).symm.trans h
        refine lv_iconst (v := (1 : Int32)) hx hb dC4_applies_83 (by decide) ?_
        refine lv_goto (tgt := 88) hx hb dC4_applies_84 (by decide) ?_
        exact wC4_applies_b88 C hK hP hend ih _ _ _ _ _ _ _ _ (lv_sub hl [0, 1, 2, 3, 4] rfl) h
def fC4_applies_b49 (σ : xSt) (x1 : Int32) (x2 : Int32) (x3 : Int32) : Option Int32 :=
  fC4_applies_b52 σ gF x1 x2 x3 (0 : Int32)
set_option maxHeartbeats 4000000 in
set_option maxRecDepth 100000 in
theorem wC4_applies_b49 {p : Program} {l : Launch} {e : Env} {s : State} {m : MethodId} {args : Array Value} {below : List Frame} {meth : Method} {c : Code} {Q : State → Prop} {dC : Nat → ClassId} {dI : Nat → Nat → Nat} {ad : Nat → Nat} {cA : Nat → ClassId} {r : Int32} {H : Heap} {locs : List Loc} {σ : xSt} (C : CallFix p m c cC4_applies 5 s args wAll RC4) (hK : va_K (dC, dI) vwC (xT cA) s) (hP : va_P (dC, dI) vwC (xW ad cA σ) H) (hend : ∀ (v : Int32) (pc : Nat) (ls : Array Slot), v = r → narrow .boolean (.int v) = .int v → decode cC4_applies pc = .ok (.ireturn, 1) → W p l e rm_C4_applies s m args below meth c H locs 0 0 Q (F0 m pc ls [.int v])) :
    ∀ (x1 : Int32) (x2 : Int32) (x3 : Int32) (ls : Array Slot), lv_has ls 5 [(0, .ref (ad 4)), (1, .int (x1)), (2, .int (x2)), (3, .int (x3))] → fC4_applies_b49 σ x1 x2 x3 = some r → W p l e rm_C4_applies s m args below meth c H locs 0 0 Q (F0 m 49 ls []) := by
  obtain ⟨hx, hb, hml, hown, hts⟩ := id C
  intro x1 x2 x3 ls hl h
  unfold fC4_applies_b49 at h
  refine lv_iconst (v := (0 : Int32)) hx hb dC4_applies_49 (by decide) ?_
  refine lv_istore (lv' := [(4, .int ((0 : Int32))), (0, .ref (ad 4)), (1, .int (x1)), (2, .int (x2)), (3, .int (x3))]) hx hb dC4_applies_50 hl (by decide) rfl (fun ls hl => ?_)
  exact wC4_applies_b52 C hK hP hend _ _ _ _ _ _ (lv_sub hl [1, 2, 3, 4, 0] rfl) h
def fC4_applies_b10 (σ : xSt) (x1 : Int32) (x2 : Int32) (s0 : Int32) : Option Int32 :=
  if s0 = 0 then
    (fC2_widthOf σ x1).bind fun v1 =>
    (fC3_size σ).bind fun v2 =>
    if v1 = v2 then
      fC4_applies_b49 σ x1 x2 s0
    else
      some (0 : Int32)
  else
    (fC2_isVaried σ x1).bind fun v10 =>
    if v10 = 0 then
      some (0 : Int32)
    else
      fC4_applies_b49 σ x1 x2 s0
set_option maxHeartbeats 4000000 in
set_option maxRecDepth 100000 in
theorem wC4_applies_b10 {p : Program} {l : Launch} {e : Env} {s : State} {m : MethodId} {args : Array Value} {below : List Frame} {meth : Method} {c : Code} {Q : State → Prop} {dC : Nat → ClassId} {dI : Nat → Nat → Nat} {ad : Nat → Nat} {cA : Nat → ClassId} {r : Int32} {H : Heap} {locs : List Loc} {σ : xSt} (C : CallFix p m c cC4_applies 5 s args wAll RC4) (hK : va_K (dC, dI) vwC (xT cA) s) (hP : va_P (dC, dI) vwC (xW ad cA σ) H) (hend : ∀ (v : Int32) (pc : Nat) (ls : Array Slot), v = r → narrow .boolean (.int v) = .int v → decode cC4_applies pc = .ok (.ireturn, 1) → W p l e rm_C4_applies s m args below meth c H locs 0 0 Q (F0 m pc ls [.int v])) :
    ∀ (x1 : Int32) (x2 : Int32) (s0 : Int32) (ls : Array Slot), lv_has ls 5 [(0, .ref (ad 4)), (1, .int (x1)), (2, .int (x2))] → fC4_applies_b10 σ x1 x2 s0 = some r → W p l e rm_C4_applies s m args below meth c H locs 0 0 Q (F0 m 10 ls [.int (s0)]) := by
  obtain ⟨hx, hb, hml, hown, hts⟩ := id C
  intro x1 x2 s0 ls hl h
  unfold fC4_applies_b10 at h
  refine lv_istore_n (lv' := [(3, .int (s0)), (0, .ref (ad 4)), (1, .int (x1)), (2, .int (x2))]) hx hb dC4_applies_10 rfl hl (by decide) rfl (fun ls hl => ?_)
  refine lv_iload_n hx hb dC4_applies_11 rfl (lv_at hl 0 rfl) ?_
  refine lv_if_eq (tgt := 29) hx hb dC4_applies_12 (by decide) (fun c12 => ?_) (fun c12 => ?_)
  · have h := (if_pos c12).symm.trans h
    refine lv_aload_n hx hb dC4_applies_29 rfl (lv_at hl 1 rfl) ?_
    refine va_get (D := (dC, dI)) (ci := 4) (v := .ref (ad 2)) (C := RC4) (T := TC4) (N := 10) hx hb hts inC4 hown hK hP 4 rfl rfl 1 (by decide) (hts _ mw_206) (fun _ h9 => h9) rfl dC4_applies_30 ?_
    refine lv_iload_n hx hb dC4_applies_33 rfl (lv_at hl 2 rfl) ?_
    obtain ⟨v1, ev1, h⟩ := Option.bind_eq_some_iff.mp h
    refine gcall_r (b := ad 2) (As := [.int (x1)]) (rest := []) C hK hP (ci := 2) (q0 := 2) rfl rfl (kC2_widthOf l dC dI ad cA σ x1 v1 ev1) (cwV 1 hts (gw mw_212 mw_213 mw_214 mw_40 mw_215) rfl rfl rfl hdC2_widthOf ⟨Nat.le_of_ble_eq_true rfl, Nat.le_of_ble_eq_true rfl⟩) rfl hl.1 rfl (Nat.le_of_ble_eq_true rfl) dC4_applies_34 ⟨Nat.le_refl _, Nat.le_refl _⟩ ?_
    refine lv_aload_n hx hb dC4_applies_37 rfl (lv_at hl 1 rfl) ?_
    refine va_get (D := (dC, dI)) (ci := 4) (v := .ref (ad 3)) (C := RC4) (T := TC4) (N := 10) hx hb hts inC4 hown hK hP 4 rfl rfl 2 (by decide) (hts _ mw_216) (fun _ h9 => h9) rfl dC4_applies_38 ?_
    obtain ⟨v2, ev2, h⟩ := Option.bind_eq_some_iff.mp h
    refine gcall_r (b := ad 3) (As := []) (rest := [.int (v1)]) C hK hP (ci := 3) (q0 := 3) rfl rfl (kC3_size l dC dI ad cA σ v2 ev2) (cwV 0 hts (gw mw_217 mw_218 mw_219 mw_184 mw_220) rfl rfl rfl hdC3_size ⟨Nat.le_of_ble_eq_true rfl, Nat.le_of_ble_eq_true rfl⟩) rfl hl.1 rfl (Nat.le_of_ble_eq_true rfl) dC4_applies_41 ⟨Nat.le_refl _, Nat.le_refl _⟩ ?_
    refine lv_icmp_eq (tgt := 49) hx hb dC4_applies_44 (by decide) (fun c9 => ?_) (fun c9 => ?_)
    · have h := (if_pos c9).symm.trans h
      exact wC4_applies_b49 C hK hP hend _ _ _ _ (lv_sub hl [1, 2, 3, 0] rfl) h
    · have h := (if_neg c9).symm.trans h
      refine lv_iconst (v := (0 : Int32)) hx hb dC4_applies_47 (by decide) ?_
      exact hend _ _ _ (Option.some.inj h) rfl dC4_applies_48
  · have h := (if_neg c12).symm.trans h
    refine lv_aload_n hx hb dC4_applies_15 rfl (lv_at hl 1 rfl) ?_
    refine va_get (D := (dC, dI)) (ci := 4) (v := .ref (ad 2)) (C := RC4) (T := TC4) (N := 10) hx hb hts inC4 hown hK hP 4 rfl rfl 1 (by decide) (hts _ mw_206) (fun _ h9 => h9) rfl dC4_applies_16 ?_
    refine lv_iload_n hx hb dC4_applies_19 rfl (lv_at hl 2 rfl) ?_
    obtain ⟨v10, ev10, h⟩ := Option.bind_eq_some_iff.mp h
    refine gcall_r (b := ad 2) (As := [.int (x1)]) (rest := []) C hK hP (ci := 2) (q0 := 2) rfl rfl (kC2_isVaried l dC dI ad cA σ x1 v10 ev10) (cwV 1 hts (gw mw_211 mw_97 mw_98 mw_40 mw_99) rfl rfl rfl hdC2_isVaried ⟨Nat.le_of_ble_eq_true rfl, Nat.le_of_ble_eq_true rfl⟩) rfl hl.1 rfl (Nat.le_of_ble_eq_true rfl) dC4_applies_20 ⟨Nat.le_refl _, Nat.le_refl _⟩ ?_
    refine lv_if_ne (tgt := 49) hx hb dC4_applies_23 (by decide) (fun c11 => ?_) (fun c11 => ?_)
    · have h := (if_neg c11).symm.trans h
      exact wC4_applies_b49 C hK hP hend _ _ _ _ (lv_sub hl [1, 2, 3, 0] rfl) h
    · have h := (if_pos c11).symm.trans h
      refine lv_goto (tgt := 47) hx hb dC4_applies_26 (by decide) ?_
      refine lv_iconst (v := (0 : Int32)) hx hb dC4_applies_47 (by decide) ?_
      exact hend _ _ _ (Option.some.inj h) rfl dC4_applies_48
def fC4_applies (σ : xSt) (x1 : Int32) (x2 : Int32) : Option Int32 :=
  if x2 = (3 : Int32) then
    fC4_applies_b10 σ x1 x2 (1 : Int32)
  else
    fC4_applies_b10 σ x1 x2 (0 : Int32)
set_option maxHeartbeats 4000000 in
set_option maxRecDepth 100000 in
theorem wC4_applies {p : Program} {l : Launch} {e : Env} {s : State} {m : MethodId} {args : Array Value} {below : List Frame} {meth : Method} {c : Code} {Q : State → Prop} {dC : Nat → ClassId} {dI : Nat → Nat → Nat} {ad : Nat → Nat} {cA : Nat → ClassId} {r : Int32} {H : Heap} {locs : List Loc} {σ : xSt} (C : CallFix p m c cC4_applies 5 s args wAll RC4) (hK : va_K (dC, dI) vwC (xT cA) s) (hP : va_P (dC, dI) vwC (xW ad cA σ) H) (hend : ∀ (v : Int32) (pc : Nat) (ls : Array Slot), v = r → narrow .boolean (.int v) = .int v → decode cC4_applies pc = .ok (.ireturn, 1) → W p l e rm_C4_applies s m args below meth c H locs 0 0 Q (F0 m pc ls [.int v])) {x1 : Int32} {x2 : Int32} (ls : Array Slot) (hl : lv_has ls 5 [(0, .ref (ad 4)), (1, .int (x1)), (2, .int (x2))]) (h : fC4_applies σ x1 x2 = some r) : W p l e rm_C4_applies s m args below meth c H locs 0 0 Q (F0 m 0 ls []) := by
  obtain ⟨hx, hb, hml, hown, hts⟩ := id C
  unfold fC4_applies at h
  refine lv_iload_n hx hb dC4_applies_0 rfl (lv_at hl 2 rfl) ?_
  refine lv_iconst (v := (3 : Int32)) hx hb dC4_applies_1 (by decide) ?_
  refine lv_icmp_ne (tgt := 9) hx hb dC4_applies_2 (by decide) (fun c13 => ?_) (fun c13 => ?_)
  · have h := (if_neg c13).symm.trans h
    refine lv_iconst (v := (0 : Int32)) hx hb dC4_applies_9 (by decide) ?_
    exact wC4_applies_b10 C hK hP hend _ _ _ _ (lv_sub hl [0, 1, 2] rfl) h
  · have h := (if_pos c13).symm.trans h
    refine lv_iconst (v := (1 : Int32)) hx hb dC4_applies_5 (by decide) ?_
    refine lv_goto (tgt := 10) hx hb dC4_applies_6 (by decide) ?_
    exact wC4_applies_b10 C hK hP hend _ _ _ _ (lv_sub hl [0, 1, 2] rfl) h
set_option maxHeartbeats 4000000 in
set_option maxRecDepth 100000 in
theorem kC4_applies (l : Launch) (dC : Nat → ClassId) (dI : Nat → Nat → Nat) (ad : Nat → Nat) (cA : Nat → ClassId) (σ : xSt) (x1 : Int32) (x2 : Int32) (r : Int32) (h : fC4_applies σ x1 x2 = some r) : Met l yC4_applies wsC4_applies rm_C4_applies (va_Pc [.ref (ad 4), .int (x1), .int (x2)] (fun U => va_P (dC, dI) vwC (xW ad cA σ) U.heap ∧ va_K (dC, dI) vwC (xT cA) U)) (vp_Si (fun v => v = r)) 0 0 (fun _ => False) := by
  refine Met.ofW (cc := cC4_applies) (maxL := 5) (ret := (some .boolean)) (by decide) rfl ?_
  intro p e s m args below meth c s₁ B hml hv
  obtain ⟨rfl, hP, hK⟩ := hv
  have hr := B.returns
  have hlocks := B.notSynchronized
  have hl := lv_entry ([.ref (ad 4), .int (x1), .int (x2)]) (n := 5) (Nat.le_of_ble_eq_true rfl)
  rw [lg_entry_eq]
  exact wC4_applies ⟨B.exec, B.bytes, hml, findClass_of_methodNamed B.named, fun w h => atoms_spec (ws := wsC4_applies) B.pre w (List.mem_cons_of_mem _ h)⟩ hK hP (fun v pc ls hv hn hd => W.zret (v := v) B.exec B.bytes hr hn (fun t ht hW => ⟨v, rfl, hv, ht⟩) (fun q hq => absurd hq List.not_mem_nil) hd) _ hl h
abbrev rm_C4_findApplying : Room := { frames := 5, cells := 0, slots := 0, locals := 120 }
def fC4_findApplying_b63 (k2 : xSt → Int32 → Int32 → Option xSt) (σ : xSt) (x1 : Int32) (x2 : Int32) : Option xSt :=
  k2 σ x1 (x2 + (1 : Int32))
set_option maxHeartbeats 4000000 in
set_option maxRecDepth 100000 in
theorem wC4_findApplying_b63 {p : Program} {l : Launch} {e : Env} {s : State} {m : MethodId} {args : Array Value} {below : List Frame} {meth : Method} {c : Code} {Q : State → Prop} {dC : Nat → ClassId} {dI : Nat → Nat → Nat} {ad : Nat → Nat} {cA : Nat → ClassId} {r : xSt} (C : CallFix p m c cC4_findApplying 4 s args wAll RC4) (hK : va_K (dC, dI) vwC (xT cA) s) (hend : ∀ (σ : xSt) (H : Heap) (locs : List Loc) (pc : Nat) (ls : Array Slot), σ = r → va_P (dC, dI) vwC (xW ad cA σ) H → va_S (xA ad) s.heap H locs → decode cC4_findApplying pc = .ok (.return_, 1) → W p l e rm_C4_findApplying s m args below meth c H locs 0 0 Q (F0 m pc ls [])) {k2 : xSt → Int32 → Int32 → Option xSt} (hk2 : ∀ (σ : xSt) (H : Heap) (locs : List Loc) (x1 : Int32) (x2 : Int32) (ls : Array Slot), va_P (dC, dI) vwC (xW ad cA σ) H → va_D (xA ad) (xW ad cA σ) → va_S (xA ad) s.heap H locs → lv_has ls 4 [(0, .ref (ad 4)), (1, .int (x1)), (2, .int (x2))] → k2 σ x1 x2 = some r → W p l e rm_C4_findApplying s m args below meth c H locs 0 0 Q (F0 m 2 ls [])) :
    ∀ (σ : xSt) (H : Heap) (locs : List Loc) (x1 : Int32) (x2 : Int32) (ls : Array Slot), va_P (dC, dI) vwC (xW ad cA σ) H → va_D (xA ad) (xW ad cA σ) → va_S (xA ad) s.heap H locs → lv_has ls 4 [(0, .ref (ad 4)), (1, .int (x1)), (2, .int (x2))] → fC4_findApplying_b63 k2 σ x1 x2 = some r → W p l e rm_C4_findApplying s m args below meth c H locs 0 0 Q (F0 m 63 ls []) := by
  obtain ⟨hx, hb, hml, hown, hts⟩ := id C
  intro σ H locs x1 x2 ls hP hD hS hl h
  unfold fC4_findApplying_b63 at h
  refine lv_iinc (v := x2 + (1 : Int32)) (lv' := [(2, .int (x2 + (1 : Int32))), (0, .ref (ad 4)), (1, .int (x1))]) hx hb dC4_findApplying_63 hl (k := 2) rfl rfl (by decide) rfl (fun ls hl => ?_)
  refine lv_goto (tgt := 2) hx hb dC4_findApplying_66 (by decide) ?_
  exact hk2 _ _ _ _ _ _ hP hD hS (lv_sub hl [1, 2, 0] rfl) h
def fC4_findApplying_b2 : Nat → xSt → Int32 → Int32 → Option xSt
  | 0, _, _, _ => none
  | n + 1, σ, x1, x2 =>
    if (σ.1 4 6) ≤ x2 then
      some σ
    else
      if x2 < 0 ∨ 60 ≤ x2.toNatClampNeg then none else
      nm (σ.1 21 x2.toNatClampNeg) fun y2 =>
      (fC4_applies σ y2 x1).bind fun v3 =>
      if v3 = 0 then
        fC4_findApplying_b63 (fC4_findApplying_b2 n) σ x1 x2
      else
        nm (sI σ 4 9 x1) fun σ4 =>
        if (σ4.1 4 7) < 0 ∨ 60 ≤ (σ4.1 4 7).toNatClampNeg then none else
        nm (sI σ4 22 (σ4.1 4 7).toNatClampNeg y2) fun σ6 =>
        nm (sL σ6 4 8 ((σ6.2 4 8) ||| (jlshl (1 : Int64) y2))) fun σ7 =>
        nm (sI σ7 4 7 ((σ7.1 4 7) + (1 : Int32))) fun σ8 =>
        fC4_findApplying_b63 (fC4_findApplying_b2 n) σ8 x1 x2
set_option maxHeartbeats 4000000 in
set_option maxRecDepth 100000 in
theorem wC4_findApplying_b2 {p : Program} {l : Launch} {e : Env} {s : State} {m : MethodId} {args : Array Value} {below : List Frame} {meth : Method} {c : Code} {Q : State → Prop} {dC : Nat → ClassId} {dI : Nat → Nat → Nat} {ad : Nat → Nat} {cA : Nat → ClassId} {r : xSt} (C : CallFix p m c cC4_findApplying 4 s args wAll RC4) (hK : va_K (dC, dI) vwC (xT cA) s) (hend : ∀ (σ : xSt) (H : Heap) (locs : List Loc) (pc : Nat) (ls : Array Slot), σ = r → va_P (dC, dI) vwC (xW ad cA σ) H → va_S (xA ad) s.heap H locs → decode cC4_findApplying pc = .ok (.return_, 1) → W p l e rm_C4_findApplying s m args below meth c H locs 0 0 Q (F0 m pc ls [])) :
    ∀ (n : Nat) (σ : xSt) (H : Heap) (locs : List Loc) (x1 : Int32) (x2 : Int32) (ls : Array Slot), va_P (dC, dI) vwC (xW ad cA σ) H → va_D (xA ad) (xW ad cA σ) → va_S (xA ad) s.heap H locs → lv_has ls 4 [(0, .ref (ad 4)), (1, .int (x1)), (2, .int (x2))] → fC4_findApplying_b2 n σ x1 x2 = some r → W p l e rm_C4_findApplying s m args below meth c H locs 0 0 Q (F0 m 2 ls []) := by
  obtain ⟨hx, hb, hml, hown, hts⟩ := id C
  intro n
  induction n with
  | zero =>
    intro σ H locs x1 x2 ls hP hD hS hl h
    rw [fC4_findApplying_b2] at h
    cases h
  | succ n ih =>
    intro σ H locs x1 x2 ls hP hD hS hl h
    rw [fC4_findApplying_b2] at h
    refine lv_iload_n hx hb dC4_findApplying_2 rfl (lv_at hl 2 rfl) ?_
    refine lv_aload_n hx hb dC4_findApplying_3 rfl (lv_at hl 0 rfl) ?_
    refine va_get (D := (dC, dI)) (ci := 4) (v := .int (σ.1 4 6)) (C := RC4) (T := TC4) (N := 10) hx hb hts inC4 hown hK hP 4 rfl rfl 6 (by decide) (hts _ mw_210) (fun _ h9 => h9) rfl dC4_findApplying_4 ?_
    refine lv_icmp_ge (tgt := 69) hx hb dC4_findApplying_7 (by decide) (fun c10 => ?_) (fun c10 => ?_)
    · have h := (if_pos c10).symm.trans h
      exact hend _ _ _ _ _ (Option.some.inj h) hP hS dC4_findApplying_69
    · have h := (if_neg c10).symm.trans h
      refine lv_aload_n hx hb dC4_findApplying_10 rfl (lv_at hl 0 rfl) ?_
      refine va_get (D := (dC, dI)) (ci := 4) (v := .ref (ad 21)) (C := RC4) (T := TC4) (N := 10) hx hb hts inC4 hown hK hP 4 rfl rfl 3 (by decide) (hts _ mw_208) (fun _ h9 => h9) rfl dC4_findApplying_11 ?_
      refine lv_iload_n hx hb dC4_findApplying_14 rfl (lv_at hl 2 rfl) ?_
      obtain ⟨b1, h⟩ := gx_nb h
      refine va_iald hx hb hK hP 21 16 rfl rfl b1 dC4_findApplying_15 ?_
      refine lv_topi (fun y2 ey2 => ?_)
      have h := nm_at ey2 h
      refine lv_istore_n (lv' := [(3, .int (y2)), (0, .ref (ad 4)), (1, .int (x1)), (2, .int (x2))]) hx hb dC4_findApplying_16 rfl hl (by decide) rfl (fun ls hl => ?_)
      refine lv_aload_n hx hb dC4_findApplying_17 rfl (lv_at hl 1 rfl) ?_
      refine lv_iload_n hx hb dC4_findApplying_18 rfl (lv_at hl 0 rfl) ?_
      refine lv_iload_n hx hb dC4_findApplying_19 rfl (lv_at hl 2 rfl) ?_
      obtain ⟨v3, ev3, h⟩ := Option.bind_eq_some_iff.mp h
      refine gcall_r (b := ad 4) (As := [.int (y2), .int (x1)]) (rest := []) C hK hP (ci := 4) (q0 := 4) rfl rfl (kC4_applies l dC dI ad cA σ y2 x1 v3 ev3) (cwV 2 hts (gw mw_320 mw_321 mw_322 mw_204 mw_323) rfl rfl rfl hdC4_applies ⟨Nat.le_of_ble_eq_true rfl, Nat.le_of_ble_eq_true rfl⟩) rfl hl.1 rfl (Nat.le_of_ble_eq_true rfl) dC4_findApplying_20 ⟨Nat.le_refl _, Nat.le_refl _⟩ ?_
      refine lv_if_eq (tgt := 63) hx hb dC4_findApplying_23 (by decide) (fun c9 => ?_) (fun c9 => ?_)
      · have h := (if_pos c9).symm.trans h
        exact wC4_findApplying_b63 C hK hend ih _ _ _ _ _ _ hP hD hS (lv_sub hl [1, 2, 3] rfl) h
      · have h := (if_neg c9).symm.trans h
        refine lv_aload_n hx hb dC4_findApplying_26 rfl (lv_at hl 1 rfl) ?_
        refine lv_iload_n hx hb dC4_findApplying_27 rfl (lv_at hl 2 rfl) ?_
        refine va_put (D := (dC, dI)) (ci := 4) (v := .int (x1)) (ty := .int) (C := RC4) (T := TC4) (N := 10) hx hb hts inC4 tyC4 tyC4_ok nnC4 hown hK hP hD hS 4 rfl rfl 9 (by decide) (hts _ mw_198) (fun _ h9 => h9) rfl (by decide +kernel) rfl rfl (Nat.le_of_ble_eq_true rfl) dC4_findApplying_28 (fun H locs hP hD hS => ?_)
        obtain ⟨σ4, eσ4⟩ : ∃ z, z = sI σ 4 9 x1 := ⟨_, rfl⟩
        have hP : va_P (dC, dI) vwC (xW ad cA σ4) H := by rw [eσ4]; exact hP
        have hD : va_D (xA ad) (xW ad cA σ4) := by rw [eσ4]; exact hD
        have h := nm_at eσ4 h
        refine lv_aload_n hx hb dC4_findApplying_31 rfl (lv_at hl 1 rfl) ?_
        refine va_get (D := (dC, dI)) (ci := 4) (v := .ref (ad 22)) (C := RC4) (T := TC4) (N := 10) hx hb hts inC4 hown hK hP 4 rfl rfl 4 (by decide) (hts _ mw_258) (fun _ h9 => h9) rfl dC4_findApplying_32 ?_
        refine lv_aload_n hx hb dC4_findApplying_35 rfl (lv_at hl 1 rfl) ?_
        refine va_get (D := (dC, dI)) (ci := 4) (v := .int (σ4.1 4 7)) (C := RC4) (T := TC4) (N := 10) hx hb hts inC4 hown hK hP 4 rfl rfl 7 (by decide) (hts _ mw_199) (fun _ h9 => h9) rfl dC4_findApplying_36 ?_
        refine lv_iload_n hx hb dC4_findApplying_39 rfl (lv_at hl 0 rfl) ?_
        obtain ⟨b5, h⟩ := gx_nb h
        refine va_iast hx hb hK hP hD hS 22 17 rfl rfl b5 dC4_findApplying_40 (fun H locs hP hD hS => ?_)
        obtain ⟨σ6, eσ6⟩ : ∃ z, z = sI σ4 22 (σ4.1 4 7).toNatClampNeg y2 := ⟨_, rfl⟩
        have hP : va_P (dC, dI) vwC (xW ad cA σ6) H := by rw [eσ6]; exact hP
        have hD : va_D (xA ad) (xW ad cA σ6) := by rw [eσ6]; exact hD
        have h := nm_at eσ6 h
        refine lv_aload_n hx hb dC4_findApplying_41 rfl (lv_at hl 1 rfl) ?_
        refine lv_dup hx hb dC4_findApplying_42 rfl ?_
        refine va_get (D := (dC, dI)) (ci := 4) (v := .long (σ6.2 4 8)) (C := RC4) (T := TC4) (N := 10) hx hb hts inC4 hown hK hP 4 rfl rfl 8 (by decide) (hts _ mw_200) (fun _ h9 => h9) rfl dC4_findApplying_43 ?_
        refine lv_lconst (v := (1 : Int64)) hx hb dC4_findApplying_46 (by decide) ?_
        refine lv_iload_n hx hb dC4_findApplying_47 rfl (lv_at hl 0 rfl) ?_
        refine lv_lshl (v := jlshl (1 : Int64) y2) hx hb dC4_findApplying_48 rfl ?_
        refine lv_lor hx hb dC4_findApplying_49 ?_
        refine va_put (D := (dC, dI)) (ci := 4) (v := .long ((σ6.2 4 8) ||| (jlshl (1 : Int64) y2))) (ty := .long) (C := RC4) (T := TC4) (N := 10) hx hb hts inC4 tyC4 tyC4_ok nnC4 hown hK hP hD hS 4 rfl rfl 8 (by decide) (hts _ mw_200) (fun _ h9 => h9) rfl (by decide +kernel) rfl rfl (Nat.le_of_ble_eq_true rfl) dC4_findApplying_50 (fun H locs hP hD hS => ?_)
        obtain ⟨σ7, eσ7⟩ : ∃ z, z = sL σ6 4 8 ((σ6.2 4 8) ||| (jlshl (1 : Int64) y2)) := ⟨_, rfl⟩
        have hP : va_P (dC, dI) vwC (xW ad cA σ7) H := by rw [eσ7]; exact hP
        have hD : va_D (xA ad) (xW ad cA σ7) := by rw [eσ7]; exact hD
        have h := nm_at eσ7 h
        refine lv_aload_n hx hb dC4_findApplying_53 rfl (lv_at hl 1 rfl) ?_
        refine lv_dup hx hb dC4_findApplying_54 rfl ?_
        refine va_get (D := (dC, dI)) (ci := 4) (v := .int (σ7.1 4 7)) (C := RC4) (T := TC4) (N := 10) hx hb hts inC4 hown hK hP 4 rfl rfl 7 (by decide) (hts _ mw_199) (fun _ h9 => h9) rfl dC4_findApplying_55 ?_
        refine lv_iconst (v := (1 : Int32)) hx hb dC4_findApplying_58 (by decide) ?_
        refine lv_iadd hx hb dC4_findApplying_59 ?_
        refine va_put (D := (dC, dI)) (ci := 4) (v := .int ((σ7.1 4 7) + (1 : Int32))) (ty := .int) (C := RC4) (T := TC4) (N := 10) hx hb hts inC4 tyC4 tyC4_ok nnC4 hown hK hP hD hS 4 rfl rfl 7 (by decide) (hts _ mw_199) (fun _ h9 => h9) rfl (by decide +kernel) rfl rfl (Nat.le_of_ble_eq_true rfl) dC4_findApplying_60 (fun H locs hP hD hS => ?_)
        obtain ⟨σ8, eσ8⟩ : ∃ z, z = sI σ7 4 7 ((σ7.1 4 7) + (1 : Int32)) := ⟨_, rfl⟩
        have hP : va_P (dC, dI) vwC (xW ad cA σ8) H := by rw [eσ8]; exact hP
        have hD : va_D (xA ad) (xW ad cA σ8) := by rw [eσ8]; exact hD
        have h := nm_at eσ8 h
        exact wC4_findApplying_b63 C hK hend ih _ _ _ _ _ _ hP hD hS (lv_sub hl [1, 2, 3] rfl) h
def fC4_findApplying (σ : xSt) (x1 : Int32) : Option xSt :=
  fC4_findApplying_b2 gF σ x1 (0 : Int32)
set_option maxHeartbeats 4000000 in
set_option maxRecDepth 100000 in
theorem wC4_findApplying {p : Program} {l : Launch} {e : Env} {s : State} {m : MethodId} {args : Array Value} {below : List Frame} {meth : Method} {c : Code} {Q : State → Prop} {dC : Nat → ClassId} {dI : Nat → Nat → Nat} {ad : Nat → Nat} {cA : Nat → ClassId} {r : xSt} (C : CallFix p m c cC4_findApplying 4 s args wAll RC4) (hK : va_K (dC, dI) vwC (xT cA) s) (hend : ∀ (σ : xSt) (H : Heap) (locs : List Loc) (pc : Nat) (ls : Array Slot), σ = r → va_P (dC, dI) vwC (xW ad cA σ) H → va_S (xA ad) s.heap H locs → decode cC4_findApplying pc = .ok (.return_, 1) → W p l e rm_C4_findApplying s m args below meth c H locs 0 0 Q (F0 m pc ls [])) {H : Heap} {locs : List Loc} {σ : xSt} (hP : va_P (dC, dI) vwC (xW ad cA σ) H) (hD : va_D (xA ad) (xW ad cA σ)) (hS : va_S (xA ad) s.heap H locs) {x1 : Int32} (ls : Array Slot) (hl : lv_has ls 4 [(0, .ref (ad 4)), (1, .int (x1))]) (h : fC4_findApplying σ x1 = some r) : W p l e rm_C4_findApplying s m args below meth c H locs 0 0 Q (F0 m 0 ls []) := by
  obtain ⟨hx, hb, hml, hown, hts⟩ := id C
  unfold fC4_findApplying at h
  refine lv_iconst (v := (0 : Int32)) hx hb dC4_findApplying_0 (by decide) ?_
  refine lv_istore_n (lv' := [(2, .int ((0 : Int32))), (0, .ref (ad 4)), (1, .int (x1))]) hx hb dC4_findApplying_1 rfl hl (by decide) rfl (fun ls hl => ?_)
  exact wC4_findApplying_b2 C hK hend _ _ _ _ _ _ _ hP hD hS (lv_sub hl [1, 2, 0] rfl) h
set_option maxHeartbeats 4000000 in
set_option maxRecDepth 100000 in
theorem kC4_findApplying (l : Launch) (dC : Nat → ClassId) (dI : Nat → Nat → Nat) (ad : Nat → Nat) (cA : Nat → ClassId) (σ : xSt) (x1 : Int32) (r : xSt) (h : fC4_findApplying σ x1 = some r) : Met l yC4_findApplying wsC4_findApplying rm_C4_findApplying (va_Pc [.ref (ad 4), .int (x1)] (fun U => va_P (dC, dI) vwC (xW ad cA σ) U.heap ∧ va_K (dC, dI) vwC (xT cA) U ∧ va_D (xA ad) (xW ad cA σ))) (va_Qv (fun u : xSt => u = r) (fun u t => va_P (dC, dI) vwC (xW ad cA u) t.heap) (xA ad)) 0 0 (xA ad) := by
  refine Met.ofW (cc := cC4_findApplying) (maxL := 4) (ret := none) (by decide) rfl ?_
  intro p e s m args below meth c s₁ B hml hv
  obtain ⟨rfl, hP, hK, hD⟩ := hv
  have hr := B.returns
  have hlocks := B.notSynchronized
  have hl := lv_entry ([.ref (ad 4), .int (x1)]) (n := 4) (Nat.le_of_ble_eq_true rfl)
  rw [lg_entry_eq]
  exact wC4_findApplying ⟨B.exec, B.bytes, hml, findClass_of_methodNamed B.named, fun w h => atoms_spec (ws := wsC4_findApplying) B.pre w (List.mem_cons_of_mem _ h)⟩ hK (fun σ H locs pc ls hv hP hS hd => W.vret B.exec B.bytes hr (fun t ht hW => ⟨⟨σ, rfl, hv, by show va_P _ _ _ t.heap; rw [ht]; exact hP⟩, hS.F ht⟩) hS.2.2 hd) hP hD va_S.rf _ hl h
abbrev rm_C4_decide : Room := { frames := 6, cells := 0, slots := 0, locals := 143 }
def fC4_decide_b81 (σ : xSt) : Option (Int32 × xSt) :=
  if (σ.1 4 7) = 0 then
    some ((-5 : Int32), σ)
  else
    (fC4_compareAll σ).bind fun σ12 =>
    (fC4_pick σ12).bind fun v13 =>
    some (v13, σ12)
set_option maxHeartbeats 4000000 in
set_option maxRecDepth 100000 in
theorem wC4_decide_b81 {p : Program} {l : Launch} {e : Env} {s : State} {m : MethodId} {args : Array Value} {below : List Frame} {meth : Method} {c : Code} {Q : State → Prop} {dC : Nat → ClassId} {dI : Nat → Nat → Nat} {ad : Nat → Nat} {cA : Nat → ClassId} {r : (Int32 × xSt)} (C : CallFix p m c cC4_decide 5 s args wAll RC4) (hK : va_K (dC, dI) vwC (xT cA) s) (hend : ∀ (v : Int32) (σ : xSt) (H : Heap) (locs : List Loc) (pc : Nat) (ls : Array Slot), (v, σ) = r → va_P (dC, dI) vwC (xW ad cA σ) H → va_S (xA ad) s.heap H locs → decode cC4_decide pc = .ok (.ireturn, 1) → W p l e rm_C4_decide s m args below meth c H locs 0 0 Q (F0 m pc ls [.int v])) :
    ∀ (σ : xSt) (H : Heap) (locs : List Loc) (ls : Array Slot), va_P (dC, dI) vwC (xW ad cA σ) H → va_D (xA ad) (xW ad cA σ) → va_S (xA ad) s.heap H locs → lv_has ls 5 [(0, .ref (ad 4))] → fC4_decide_b81 σ = some r → W p l e rm_C4_decide s m args below meth c H locs 0 0 Q (F0 m 81 ls []) := by
  obtain ⟨hx, hb, hml, hown, hts⟩ := id C
  intro σ H locs ls hP hD hS hl h
  unfold fC4_decide_b81 at h
  refine lv_aload_n hx hb dC4_decide_81 rfl (lv_at hl 0 rfl) ?_
  refine va_get (D := (dC, dI)) (ci := 4) (v := .int (σ.1 4 7)) (C := RC4) (T := TC4) (N := 10) hx hb hts inC4 hown hK hP 4 rfl rfl 7 (by decide) (hts _ mw_199) (fun _ h9 => h9) rfl dC4_decide_82 ?_
  refine lv_if_ne (tgt := 91) hx hb dC4_decide_85 (by decide) (fun c14 => ?_) (fun c14 => ?_)
  · have h := (if_neg c14).symm.trans h
    refine lv_aload_n hx hb dC4_decide_91 rfl (lv_at hl 0 rfl) ?_
    obtain ⟨σ12, eσ12, h⟩ := Option.bind_eq_some_iff.mp h
    refine gcall_v (wd := xW ad cA) (b := ad 4) (As := []) (rest := []) xkeys C hK hP hD hS (ci := 4) (q0 := 4) rfl rfl (kC4_compareAll l dC dI ad cA σ σ12 eσ12) (cwV 0 hts (gw mw_297 mw_298 mw_299 mw_204 mw_300) rfl rfl rfl hdC4_compareAll ⟨Nat.le_of_ble_eq_true rfl, Nat.le_of_ble_eq_true rfl⟩) rfl hl.1 rfl (Nat.le_of_ble_eq_true rfl) dC4_decide_92 ⟨Nat.le_refl _, Nat.le_refl _⟩ (fun H locs hP hD hS => ?_)
    refine lv_aload_n hx hb dC4_decide_95 rfl (lv_at hl 0 rfl) ?_
    obtain ⟨v13, ev13, h⟩ := Option.bind_eq_some_iff.mp h
    refine gcall_r (b := ad 4) (As := []) (rest := []) C hK hP (ci := 4) (q0 := 4) rfl rfl (kC4_pick l dC dI ad cA σ12 v13 ev13) (cwV 0 hts (gw mw_302 mw_303 mw_304 mw_204 mw_305) rfl rfl rfl hdC4_pick ⟨Nat.le_of_ble_eq_true rfl, Nat.le_of_ble_eq_true rfl⟩) rfl hl.1 rfl (Nat.le_of_ble_eq_true rfl) dC4_decide_96 ⟨Nat.le_refl _, Nat.le_refl _⟩ ?_
    exact hend _ _ _ _ _ _ (Option.some.inj h) hP hS dC4_decide_99
  · have h := (if_pos c14).symm.trans h
    refine lv_bipush (v := (-5 : Int32)) hx hb dC4_decide_88 (by decide) ?_
    exact hend _ _ _ _ _ _ (Option.some.inj h) hP hS dC4_decide_90
def fC4_decide_b56 : Nat → xSt → Int32 → Option (Int32 × xSt)
  | 0, _, _ => none
  | n + 1, σ, x4 =>
    if (3 : Int32) < x4 then
      fC4_decide_b81 σ
    else
      if (σ.1 4 7) = 0 then
        (fC4_findApplying σ x4).bind fun σ16 =>
        fC4_decide_b56 n σ16 (x4 + (1 : Int32))
      else
        fC4_decide_b81 σ
set_option maxHeartbeats 4000000 in
set_option maxRecDepth 100000 in
theorem wC4_decide_b56 {p : Program} {l : Launch} {e : Env} {s : State} {m : MethodId} {args : Array Value} {below : List Frame} {meth : Method} {c : Code} {Q : State → Prop} {dC : Nat → ClassId} {dI : Nat → Nat → Nat} {ad : Nat → Nat} {cA : Nat → ClassId} {r : (Int32 × xSt)} (C : CallFix p m c cC4_decide 5 s args wAll RC4) (hK : va_K (dC, dI) vwC (xT cA) s) (hend : ∀ (v : Int32) (σ : xSt) (H : Heap) (locs : List Loc) (pc : Nat) (ls : Array Slot), (v, σ) = r → va_P (dC, dI) vwC (xW ad cA σ) H → va_S (xA ad) s.heap H locs → decode cC4_decide pc = .ok (.ireturn, 1) → W p l e rm_C4_decide s m args below meth c H locs 0 0 Q (F0 m pc ls [.int v])) :
    ∀ (n : Nat) (σ : xSt) (H : Heap) (locs : List Loc) (x4 : Int32) (ls : Array Slot), va_P (dC, dI) vwC (xW ad cA σ) H → va_D (xA ad) (xW ad cA σ) → va_S (xA ad) s.heap H locs → lv_has ls 5 [(0, .ref (ad 4)), (4, .int (x4))] → fC4_decide_b56 n σ x4 = some r → W p l e rm_C4_decide s m args below meth c H locs 0 0 Q (F0 m 56 ls []) := by
  obtain ⟨hx, hb, hml, hown, hts⟩ := id C
  intro n
  induction n with
  | zero =>
    intro σ H locs x4 ls hP hD hS hl h
    rw [fC4_decide_b56] at h
    cases h
  | succ n ih =>
    intro σ H locs x4 ls hP hD hS hl h
    rw [fC4_decide_b56] at h
    refine lv_iload hx hb dC4_decide_56 (lv_at hl 1 rfl) ?_
    refine lv_iconst (v := (3 : Int32)) hx hb dC4_decide_58 (by decide) ?_
    refine lv_icmp_gt (tgt := 81) hx hb dC4_decide_59 (by decide) (fun c18 => ?_) (fun c18 => ?_)
    · have h := (if_pos c18).symm.trans h
      exact wC4_decide_b81 C hK hend _ _ _ _ hP hD hS (lv_sub hl [0] rfl) h
    · have h := (if_neg c18).symm.trans h
      refine lv_aload_n hx hb dC4_decide_62 rfl (lv_at hl 0 rfl) ?_
      refine va_get (D := (dC, dI)) (ci := 4) (v := .int (σ.1 4 7)) (C := RC4) (T := TC4) (N := 10) hx hb hts inC4 hown hK hP 4 rfl rfl 7 (by decide) (hts _ mw_199) (fun _ h9 => h9) rfl dC4_decide_63 ?_
      refine lv_if_ne (tgt := 81) hx hb dC4_decide_66 (by decide) (fun c17 => ?_) (fun c17 => ?_)
      · have h := (if_neg c17).symm.trans h
        exact wC4_decide_b81 C hK hend _ _ _ _ hP hD hS (lv_sub hl [0] rfl) h
      · have h := (if_pos c17).symm.trans h
        refine lv_aload_n hx hb dC4_decide_69 rfl (lv_at hl 0 rfl) ?_
        refine lv_iload hx hb dC4_decide_70 (lv_at hl 1 rfl) ?_
        obtain ⟨σ16, eσ16, h⟩ := Option.bind_eq_some_iff.mp h
        refine gcall_v (wd := xW ad cA) (b := ad 4) (As := [.int (x4)]) (rest := []) xkeys C hK hP hD hS (ci := 4) (q0 := 4) rfl rfl (kC4_findApplying l dC dI ad cA σ x4 σ16 eσ16) (cwV 1 hts (gw mw_324 mw_325 mw_326 mw_204 mw_327) rfl rfl rfl hdC4_findApplying ⟨Nat.le_of_ble_eq_true rfl, Nat.le_of_ble_eq_true rfl⟩) rfl hl.1 rfl (Nat.le_of_ble_eq_true rfl) dC4_decide_72 ⟨Nat.le_refl _, Nat.le_refl _⟩ (fun H locs hP hD hS => ?_)
        refine lv_iinc (v := x4 + (1 : Int32)) (lv' := [(4, .int (x4 + (1 : Int32))), (0, .ref (ad 4))]) hx hb dC4_decide_75 hl (k := 1) rfl rfl (by decide) rfl (fun ls hl => ?_)
        refine lv_goto (tgt := 56) hx hb dC4_decide_78 (by decide) ?_
        exact ih _ _ _ _ _ hP hD hS (lv_sub hl [1, 0] rfl) h
def fC4_decide (σ : xSt) (x1 : Int32) (x2 : Int32) (x3 : Int32) : Option (Int32 × xSt) :=
  (fC4_forget σ).bind fun σ2 =>
  (fC2_settleFunctions σ2).bind fun σ4 =>
  gx_b2 (fC2_listSeen_21 σ4 x1 x2 x3) fun v5 σ6 =>
  nm (sI σ6 4 6 v5) fun σ8 =>
  if (σ8.1 4 6) = 0 then
    some ((-3 : Int32), σ8)
  else
    (fC4_keepMeant σ8).bind fun σ10 =>
    if (σ10.1 4 6) = 0 then
      some ((-4 : Int32), σ10)
    else
      fC4_decide_b56 gF σ10 (1 : Int32)
set_option maxHeartbeats 4000000 in
set_option maxRecDepth 100000 in
theorem wC4_decide {p : Program} {l : Launch} {e : Env} {s : State} {m : MethodId} {args : Array Value} {below : List Frame} {meth : Method} {c : Code} {Q : State → Prop} {dC : Nat → ClassId} {dI : Nat → Nat → Nat} {ad : Nat → Nat} {cA : Nat → ClassId} {r : (Int32 × xSt)} (C : CallFix p m c cC4_decide 5 s args wAll RC4) (hK : va_K (dC, dI) vwC (xT cA) s) (hend : ∀ (v : Int32) (σ : xSt) (H : Heap) (locs : List Loc) (pc : Nat) (ls : Array Slot), (v, σ) = r → va_P (dC, dI) vwC (xW ad cA σ) H → va_S (xA ad) s.heap H locs → decode cC4_decide pc = .ok (.ireturn, 1) → W p l e rm_C4_decide s m args below meth c H locs 0 0 Q (F0 m pc ls [.int v])) {H : Heap} {locs : List Loc} {σ : xSt} (hP : va_P (dC, dI) vwC (xW ad cA σ) H) (hD : va_D (xA ad) (xW ad cA σ)) (hS : va_S (xA ad) s.heap H locs) {x1 : Int32} {x2 : Int32} {x3 : Int32} (ls : Array Slot) (hl : lv_has ls 5 [(0, .ref (ad 4)), (1, .int (x1)), (2, .int (x2)), (3, .int (x3))]) (h : fC4_decide σ x1 x2 x3 = some r) : W p l e rm_C4_decide s m args below meth c H locs 0 0 Q (F0 m 0 ls []) := by
  obtain ⟨hx, hb, hml, hown, hts⟩ := id C
  unfold fC4_decide at h
  refine lv_aload_n hx hb dC4_decide_0 rfl (lv_at hl 0 rfl) ?_
  obtain ⟨σ2, eσ2, h⟩ := Option.bind_eq_some_iff.mp h
  refine gcall_v (wd := xW ad cA) (b := ad 4) (As := []) (rest := []) xkeys C hK hP hD hS (ci := 4) (q0 := 4) rfl rfl (kC4_forget l dC dI ad cA σ σ2 eσ2) (cwV 0 hts (gw mw_201 mw_202 mw_203 mw_204 mw_205) rfl rfl rfl hdC4_forget ⟨Nat.le_of_ble_eq_true rfl, Nat.le_of_ble_eq_true rfl⟩) rfl hl.1 rfl (Nat.le_of_ble_eq_true rfl) dC4_decide_1 ⟨Nat.le_refl _, Nat.le_refl _⟩ (fun H locs hP hD hS => ?_)
  refine lv_aload_n hx hb dC4_decide_4 rfl (lv_at hl 0 rfl) ?_
  refine va_get (D := (dC, dI)) (ci := 4) (v := .ref (ad 2)) (C := RC4) (T := TC4) (N := 10) hx hb hts inC4 hown hK hP 4 rfl rfl 1 (by decide) (hts _ mw_206) (fun _ h9 => h9) rfl dC4_decide_5 ?_
  obtain ⟨σ4, eσ4, h⟩ := Option.bind_eq_some_iff.mp h
  refine gcall_v (wd := xW ad cA) (b := ad 2) (As := []) (rest := []) xkeys C hK hP hD hS (ci := 2) (q0 := 2) rfl rfl (kC2_settleFunctions l dC dI ad cA σ2 σ4 eσ4) (cwV 0 hts (gw mw_207 mw_158 mw_159 mw_40 mw_160) rfl rfl rfl hdC2_settleFunctions ⟨Nat.le_of_ble_eq_true rfl, Nat.le_of_ble_eq_true rfl⟩) rfl hl.1 rfl (Nat.le_of_ble_eq_true rfl) dC4_decide_8 ⟨Nat.le_refl _, Nat.le_refl _⟩ (fun H locs hP hD hS => ?_)
  refine lv_aload_n hx hb dC4_decide_11 rfl (lv_at hl 0 rfl) ?_
  refine lv_aload_n hx hb dC4_decide_12 rfl (lv_at hl 0 rfl) ?_
  refine va_get (D := (dC, dI)) (ci := 4) (v := .ref (ad 2)) (C := RC4) (T := TC4) (N := 10) hx hb hts inC4 hown hK hP 4 rfl rfl 1 (by decide) (hts _ mw_206) (fun _ h9 => h9) rfl dC4_decide_13 ?_
  refine lv_iload_n hx hb dC4_decide_16 rfl (lv_at hl 1 rfl) ?_
  refine lv_iload_n hx hb dC4_decide_17 rfl (lv_at hl 2 rfl) ?_
  refine lv_iload_n hx hb dC4_decide_18 rfl (lv_at hl 3 rfl) ?_
  refine lv_aload_n hx hb dC4_decide_19 rfl (lv_at hl 0 rfl) ?_
  refine va_get (D := (dC, dI)) (ci := 4) (v := .ref (ad 21)) (C := RC4) (T := TC4) (N := 10) hx hb hts inC4 hown hK hP 4 rfl rfl 3 (by decide) (hts _ mw_208) (fun _ h9 => h9) rfl dC4_decide_20 ?_
  obtain ⟨v5, σ6, ez7, h⟩ := gx_b2_at h
  refine gcall_i (wd := xW ad cA) (b := ad 2) (As := [.int (x1), .int (x2), .int (x3), .ref (ad 21)]) (rest := [.ref (ad 4)]) xkeys C hK hP hD hS (ci := 2) (q0 := 2) rfl rfl (kC2_listSeen_21 l dC dI ad cA σ4 x1 x2 x3 (v5, σ6) ez7) (cwV 4 hts (gw mw_209 mw_172 mw_173 mw_40 mw_174) rfl rfl rfl hdC2_listSeen ⟨Nat.le_of_ble_eq_true rfl, Nat.le_of_ble_eq_true rfl⟩) rfl hl.1 rfl (Nat.le_of_ble_eq_true rfl) dC4_decide_23 ⟨Nat.le_refl _, Nat.le_refl _⟩ (fun H locs hP hD hS => ?_)
  refine va_put (D := (dC, dI)) (ci := 4) (v := .int (v5)) (ty := .int) (C := RC4) (T := TC4) (N := 10) hx hb hts inC4 tyC4 tyC4_ok nnC4 hown hK hP hD hS 4 rfl rfl 6 (by decide) (hts _ mw_210) (fun _ h9 => h9) rfl (by decide +kernel) rfl rfl (Nat.le_of_ble_eq_true rfl) dC4_decide_26 (fun H locs hP hD hS => ?_)
  obtain ⟨σ8, eσ8⟩ : ∃ z, z = sI σ6 4 6 v5 := ⟨_, rfl⟩
  have hP : va_P (dC, dI) vwC (xW ad cA σ8) H := by rw [eσ8]; exact hP
  have hD : va_D (xA ad) (xW ad cA σ8) := by rw [eσ8]; exact hD
  have h := nm_at eσ8 h
  refine lv_aload_n hx hb dC4_decide_29 rfl (lv_at hl 0 rfl) ?_
  refine va_get (D := (dC, dI)) (ci := 4) (v := .int (σ8.1 4 6)) (C := RC4) (T := TC4) (N := 10) hx hb hts inC4 hown hK hP 4 rfl rfl 6 (by decide) (hts _ mw_210) (fun _ h9 => h9) rfl dC4_decide_30 ?_
  refine lv_if_ne (tgt := 39) hx hb dC4_decide_33 (by decide) (fun c20 => ?_) (fun c20 => ?_)
  · have h := (if_neg c20).symm.trans h
    refine lv_aload_n hx hb dC4_decide_39 rfl (lv_at hl 0 rfl) ?_
    obtain ⟨σ10, eσ10, h⟩ := Option.bind_eq_some_iff.mp h
    refine gcall_v (wd := xW ad cA) (b := ad 4) (As := []) (rest := []) xkeys C hK hP hD hS (ci := 4) (q0 := 4) rfl rfl (kC4_keepMeant l dC dI ad cA σ8 σ10 eσ10) (cwV 0 hts (gw mw_254 mw_255 mw_256 mw_204 mw_257) rfl rfl rfl hdC4_keepMeant ⟨Nat.le_of_ble_eq_true rfl, Nat.le_of_ble_eq_true rfl⟩) rfl hl.1 rfl (Nat.le_of_ble_eq_true rfl) dC4_decide_40 ⟨Nat.le_refl _, Nat.le_refl _⟩ (fun H locs hP hD hS => ?_)
    refine lv_aload_n hx hb dC4_decide_43 rfl (lv_at hl 0 rfl) ?_
    refine va_get (D := (dC, dI)) (ci := 4) (v := .int (σ10.1 4 6)) (C := RC4) (T := TC4) (N := 10) hx hb hts inC4 hown hK hP 4 rfl rfl 6 (by decide) (hts _ mw_210) (fun _ h9 => h9) rfl dC4_decide_44 ?_
    refine lv_if_ne (tgt := 53) hx hb dC4_decide_47 (by decide) (fun c19 => ?_) (fun c19 => ?_)
    · have h := (if_neg c19).symm.trans h
      refine lv_iconst (v := (1 : Int32)) hx hb dC4_decide_53 (by decide) ?_
      refine lv_istore (lv' := [(4, .int ((1 : Int32))), (0, .ref (ad 4)), (1, .int (x1)), (2, .int (x2)), (3, .int (x3))]) hx hb dC4_decide_54 hl (by decide) rfl (fun ls hl => ?_)
      exact wC4_decide_b56 C hK hend _ _ _ _ _ _ hP hD hS (lv_sub hl [1, 0] rfl) h
    · have h := (if_pos c19).symm.trans h
      refine lv_bipush (v := (-4 : Int32)) hx hb dC4_decide_50 (by decide) ?_
      exact hend _ _ _ _ _ _ (Option.some.inj h) hP hS dC4_decide_52
  · have h := (if_pos c20).symm.trans h
    refine lv_bipush (v := (-3 : Int32)) hx hb dC4_decide_36 (by decide) ?_
    exact hend _ _ _ _ _ _ (Option.some.inj h) hP hS dC4_decide_38
set_option maxHeartbeats 4000000 in
set_option maxRecDepth 100000 in
theorem kC4_decide (l : Launch) (dC : Nat → ClassId) (dI : Nat → Nat → Nat) (ad : Nat → Nat) (cA : Nat → ClassId) (σ : xSt) (x1 : Int32) (x2 : Int32) (x3 : Int32) (r : (Int32 × xSt)) (h : fC4_decide σ x1 x2 x3 = some r) : Met l yC4_decide wsC4_decide rm_C4_decide (va_Pc [.ref (ad 4), .int (x1), .int (x2), .int (x3)] (fun U => va_P (dC, dI) vwC (xW ad cA σ) U.heap ∧ va_K (dC, dI) vwC (xT cA) U ∧ va_D (xA ad) (xW ad cA σ))) (va_Qi (fun (v : Int32) (u : xSt) => (v, u) = r) (fun u t => va_P (dC, dI) vwC (xW ad cA u) t.heap) (xA ad)) 0 0 (xA ad) := by
  refine Met.ofW (cc := cC4_decide) (maxL := 5) (ret := (some .int)) (by decide) rfl ?_
  intro p e s m args below meth c s₁ B hml hv
  obtain ⟨rfl, hP, hK, hD⟩ := hv
  have hr := B.returns
  have hlocks := B.notSynchronized
  have hl := lv_entry ([.ref (ad 4), .int (x1), .int (x2), .int (x3)]) (n := 5) (Nat.le_of_ble_eq_true rfl)
  rw [lg_entry_eq]
  exact wC4_decide ⟨B.exec, B.bytes, hml, findClass_of_methodNamed B.named, fun w h => atoms_spec (ws := wsC4_decide) B.pre w (List.mem_cons_of_mem _ h)⟩ hK (fun v σ H locs pc ls hv hP hS hd => W.iret (v := v) B.exec B.bytes hr (fun t ht hW => ⟨⟨v, σ, rfl, hv, by show va_P _ _ _ t.heap; rw [ht]; exact hP⟩, hS.F ht⟩) hS.2.2 hd) hP hD va_S.rf _ hl h
abbrev rm_C0_choose : Room := { frames := 7, cells := 0, slots := 0, locals := 167 }
def fC0_choose (σ : xSt) (x1 : Int32) (x2 : Int32) (x3 : Int32) (x4 : Int32) : Option (Int32 × xSt) :=
  (fC0_canBeAsked σ x1 x2 x3).bind fun v1 =>
  if v1 = 0 then
    some ((-2 : Int32), σ)
  else
    if x4 < 0 then
      some ((-2 : Int32), σ)
    else
      if x4 ≤ (1 : Int32) then
        gx_b2 (fC4_decide σ x1 x2 x3) fun v2 σ3 =>
        if v2 < 0 then
          some (v2, σ3)
        else
          if x4 = (1 : Int32) then
            (fC2_isStatic σ3 v2).bind fun v5 =>
            if v5 = 0 then
              some ((-7 : Int32), σ3)
            else
              some (v2, σ3)
          else
            some (v2, σ3)
      else
        some ((-2 : Int32), σ)
set_option maxHeartbeats 4000000 in
set_option maxRecDepth 100000 in
theorem wC0_choose {p : Program} {l : Launch} {e : Env} {s : State} {m : MethodId} {args : Array Value} {below : List Frame} {meth : Method} {c : Code} {Q : State → Prop} {dC : Nat → ClassId} {dI : Nat → Nat → Nat} {ad : Nat → Nat} {cA : Nat → ClassId} {r : (Int32 × xSt)} (C : CallFix p m c cC0_choose 6 s args wAll RC0) (hK : va_K (dC, dI) vwC (xT cA) s) (hend : ∀ (v : Int32) (σ : xSt) (H : Heap) (locs : List Loc) (pc : Nat) (ls : Array Slot), (v, σ) = r → va_P (dC, dI) vwC (xW ad cA σ) H → va_S (xA ad) s.heap H locs → decode cC0_choose pc = .ok (.ireturn, 1) → W p l e rm_C0_choose s m args below meth c H locs 0 0 Q (F0 m pc ls [.int v])) {H : Heap} {locs : List Loc} {σ : xSt} (hP : va_P (dC, dI) vwC (xW ad cA σ) H) (hD : va_D (xA ad) (xW ad cA σ)) (hS : va_S (xA ad) s.heap H locs) {x1 : Int32} {x2 : Int32} {x3 : Int32} {x4 : Int32} (ls : Array Slot) (hl : lv_has ls 6 [(0, .ref (ad 0)), (1, .int (x1)), (2, .int (x2)), (3, .int (x3)), (4, .int (x4))]) (h : fC0_choose σ x1 x2 x3 x4 = some r) : W p l e rm_C0_choose s m args below meth c H locs 0 0 Q (F0 m 0 ls []) := by
  obtain ⟨hx, hb, hml, hown, hts⟩ := id C
  unfold fC0_choose at h
  refine lv_aload_n hx hb dC0_choose_0 rfl (lv_at hl 0 rfl) ?_
  refine lv_iload_n hx hb dC0_choose_1 rfl (lv_at hl 1 rfl) ?_
  refine lv_iload_n hx hb dC0_choose_2 rfl (lv_at hl 2 rfl) ?_
  refine lv_iload_n hx hb dC0_choose_3 rfl (lv_at hl 3 rfl) ?_
  obtain ⟨v1, ev1, h⟩ := Option.bind_eq_some_iff.mp h
  refine gcall_r (b := ad 0) (As := [.int (x1), .int (x2), .int (x3)]) (rest := []) C hK hP (ci := 0) (q0 := 0) rfl rfl (kC0_canBeAsked l dC dI ad cA σ x1 x2 x3 v1 ev1) (cwV 3 hts (gw mw_165 mw_166 mw_167 mw_168 mw_169) rfl rfl rfl hdC0_canBeAsked ⟨Nat.le_of_ble_eq_true rfl, Nat.le_of_ble_eq_true rfl⟩) rfl hl.1 rfl (Nat.le_of_ble_eq_true rfl) dC0_choose_4 ⟨Nat.le_refl _, Nat.le_refl _⟩ ?_
  refine lv_if_eq (tgt := 21) hx hb dC0_choose_7 (by decide) (fun c11 => ?_) (fun c11 => ?_)
  · have h := (if_pos c11).symm.trans h
    refine lv_bipush (v := (-2 : Int32)) hx hb dC0_choose_21 (by decide) ?_
    exact hend _ _ _ _ _ _ (Option.some.inj h) hP hS dC0_choose_23
  · have h := (if_neg c11).symm.trans h
    refine lv_iload hx hb dC0_choose_10 (lv_at hl 4 rfl) ?_
    refine lv_if_lt (tgt := 21) hx hb dC0_choose_12 (by decide) (fun c10 => ?_) (fun c10 => ?_)
    · have h := (if_pos c10).symm.trans h
      refine lv_bipush (v := (-2 : Int32)) hx hb dC0_choose_21 (by decide) ?_
      exact hend _ _ _ _ _ _ (Option.some.inj h) hP hS dC0_choose_23
    · have h := (if_neg c10).symm.trans h
      refine lv_iload hx hb dC0_choose_15 (lv_at hl 4 rfl) ?_
      refine lv_iconst (v := (1 : Int32)) hx hb dC0_choose_17 (by decide) ?_
      refine lv_icmp_le (tgt := 24) hx hb dC0_choose_18 (by decide) (fun c9 => ?_) (fun c9 => ?_)
      · have h := (if_pos c9).symm.trans h
        refine lv_aload_n hx hb dC0_choose_24 rfl (lv_at hl 0 rfl) ?_
        refine va_get (D := (dC, dI)) (ci := 0) (v := .ref (ad 4)) (C := RC0) (T := TC0) (N := 5) hx hb hts inC0 hown hK hP 0 rfl rfl 3 (by decide) (hts _ mw_197) (fun _ h9 => h9) rfl dC0_choose_25 ?_
        refine lv_iload_n hx hb dC0_choose_28 rfl (lv_at hl 1 rfl) ?_
        refine lv_iload_n hx hb dC0_choose_29 rfl (lv_at hl 2 rfl) ?_
        refine lv_iload_n hx hb dC0_choose_30 rfl (lv_at hl 3 rfl) ?_
        obtain ⟨v2, σ3, ez4, h⟩ := gx_b2_at h
        refine gcall_i (wd := xW ad cA) (b := ad 4) (As := [.int (x1), .int (x2), .int (x3)]) (rest := []) xkeys C hK hP hD hS (ci := 4) (q0 := 4) rfl rfl (kC4_decide l dC dI ad cA σ x1 x2 x3 (v2, σ3) ez4) (cwV 3 hts (gw mw_328 mw_329 mw_330 mw_204 mw_331) rfl rfl rfl hdC4_decide ⟨Nat.le_of_ble_eq_true rfl, Nat.le_of_ble_eq_true rfl⟩) rfl hl.1 rfl (Nat.le_of_ble_eq_true rfl) dC0_choose_31 ⟨Nat.le_refl _, Nat.le_refl _⟩ (fun H locs hP hD hS => ?_)
        refine lv_istore (lv' := [(5, .int (v2)), (0, .ref (ad 0)), (1, .int (x1)), (2, .int (x2)), (3, .int (x3)), (4, .int (x4))]) hx hb dC0_choose_34 hl (by decide) rfl (fun ls hl => ?_)
        refine lv_iload hx hb dC0_choose_36 (lv_at hl 0 rfl) ?_
        refine lv_if_lt (tgt := 64) hx hb dC0_choose_38 (by decide) (fun c8 => ?_) (fun c8 => ?_)
        · have h := (if_pos c8).symm.trans h
          refine lv_iload hx hb dC0_choose_64 (lv_at hl 0 rfl) ?_
          exact hend _ _ _ _ _ _ (Option.some.inj h) hP hS dC0_choose_66
        · have h := (if_neg c8).symm.trans h
          refine lv_iload hx hb dC0_choose_41 (lv_at hl 5 rfl) ?_
          refine lv_iconst (v := (1 : Int32)) hx hb dC0_choose_43 (by decide) ?_
          refine lv_icmp_ne (tgt := 64) hx hb dC0_choose_44 (by decide) (fun c7 => ?_) (fun c7 => ?_)
          · have h := (if_neg c7).symm.trans h
            refine lv_iload hx hb dC0_choose_64 (lv_at hl 0 rfl) ?_
            exact hend _ _ _ _ _ _ (Option.some.inj h) hP hS dC0_choose_66
          · have h := (if_pos c7).symm.trans h
            refine lv_aload_n hx hb dC0_choose_47 rfl (lv_at hl 1 rfl) ?_
            refine va_get (D := (dC, dI)) (ci := 0) (v := .ref (ad 2)) (C := RC0) (T := TC0) (N := 5) hx hb hts inC0 hown hK hP 0 rfl rfl 1 (by decide) (hts _ mw_35) (fun _ h9 => h9) rfl dC0_choose_48 ?_
            refine lv_iload hx hb dC0_choose_51 (lv_at hl 0 rfl) ?_
            obtain ⟨v5, ev5, h⟩ := Option.bind_eq_some_iff.mp h
            refine gcall_r (b := ad 2) (As := [.int (v2)]) (rest := []) C hK hP (ci := 2) (q0 := 2) rfl rfl (kC2_isStatic l dC dI ad cA σ3 v2 v5 ev5) (cwV 1 hts (gw mw_332 mw_65 mw_66 mw_40 mw_67) rfl rfl rfl hdC2_isStatic ⟨Nat.le_of_ble_eq_true rfl, Nat.le_of_ble_eq_true rfl⟩) rfl hl.1 rfl (Nat.le_of_ble_eq_true rfl) dC0_choose_53 ⟨Nat.le_refl _, Nat.le_refl _⟩ ?_
            refine lv_if_ne (tgt := 64) hx hb dC0_choose_56 (by decide) (fun c6 => ?_) (fun c6 => ?_)
            · have h := (if_neg c6).symm.trans h
              refine lv_iload hx hb dC0_choose_64 (lv_at hl 0 rfl) ?_
              exact hend _ _ _ _ _ _ (Option.some.inj h) hP hS dC0_choose_66
            · have h := (if_pos c6).symm.trans h
              refine lv_bipush (v := (-7 : Int32)) hx hb dC0_choose_59 (by decide) ?_
              refine lv_goto (tgt := 66) hx hb dC0_choose_61 (by decide) ?_
              exact hend _ _ _ _ _ _ (Option.some.inj h) hP hS dC0_choose_66
      · have h := (if_neg c9).symm.trans h
        refine lv_bipush (v := (-2 : Int32)) hx hb dC0_choose_21 (by decide) ?_
        exact hend _ _ _ _ _ _ (Option.some.inj h) hP hS dC0_choose_23
set_option maxHeartbeats 4000000 in
set_option maxRecDepth 100000 in
theorem kC0_choose (l : Launch) (dC : Nat → ClassId) (dI : Nat → Nat → Nat) (ad : Nat → Nat) (cA : Nat → ClassId) (σ : xSt) (x1 : Int32) (x2 : Int32) (x3 : Int32) (x4 : Int32) (r : (Int32 × xSt)) (h : fC0_choose σ x1 x2 x3 x4 = some r) : Met l yC0_choose wsC0_choose rm_C0_choose (va_Pc [.ref (ad 0), .int (x1), .int (x2), .int (x3), .int (x4)] (fun U => va_P (dC, dI) vwC (xW ad cA σ) U.heap ∧ va_K (dC, dI) vwC (xT cA) U ∧ va_D (xA ad) (xW ad cA σ))) (va_Qi (fun (v : Int32) (u : xSt) => (v, u) = r) (fun u t => va_P (dC, dI) vwC (xW ad cA u) t.heap) (xA ad)) 0 0 (xA ad) := by
  refine Met.ofW (cc := cC0_choose) (maxL := 6) (ret := (some .int)) (by decide) rfl ?_
  intro p e s m args below meth c s₁ B hml hv
  obtain ⟨rfl, hP, hK, hD⟩ := hv
  have hr := B.returns
  have hlocks := B.notSynchronized
  have hl := lv_entry ([.ref (ad 0), .int (x1), .int (x2), .int (x3), .int (x4)]) (n := 6) (Nat.le_of_ble_eq_true rfl)
  rw [lg_entry_eq]
  exact wC0_choose ⟨B.exec, B.bytes, hml, findClass_of_methodNamed B.named, fun w h => atoms_spec (ws := wsC0_choose) B.pre w (List.mem_cons_of_mem _ h)⟩ hK (fun v σ H locs pc ls hv hP hS hd => W.iret (v := v) B.exec B.bytes hr (fun t ht hW => ⟨⟨v, σ, rfl, hv, by show va_P _ _ _ t.heap; rw [ht]; exact hP⟩, hS.F ht⟩) hS.2.2 hd) hP hD va_S.rf _ hl h
abbrev rm_C4_phaseReached : Room := { frames := 0, cells := 0, slots := 0, locals := 0 }
def fC4_phaseReached (σ : xSt) : Option Int32 :=
  some (σ.1 4 9)
set_option maxHeartbeats 4000000 in
set_option maxRecDepth 100000 in
theorem wC4_phaseReached {p : Program} {l : Launch} {e : Env} {s : State} {m : MethodId} {args : Array Value} {below : List Frame} {meth : Method} {c : Code} {Q : State → Prop} {dC : Nat → ClassId} {dI : Nat → Nat → Nat} {ad : Nat → Nat} {cA : Nat → ClassId} {r : Int32} {H : Heap} {locs : List Loc} {σ : xSt} (C : CallFix p m c cC4_phaseReached 1 s args wAll RC4) (hK : va_K (dC, dI) vwC (xT cA) s) (hP : va_P (dC, dI) vwC (xW ad cA σ) H) (hend : ∀ (v : Int32) (pc : Nat) (ls : Array Slot), v = r → decode cC4_phaseReached pc = .ok (.ireturn, 1) → W p l e rm_C4_phaseReached s m args below meth c H locs 0 0 Q (F0 m pc ls [.int v])) (ls : Array Slot) (hl : lv_has ls 1 [(0, .ref (ad 4))]) (h : fC4_phaseReached σ = some r) : W p l e rm_C4_phaseReached s m args below meth c H locs 0 0 Q (F0 m 0 ls []) := by
  obtain ⟨hx, hb, hml, hown, hts⟩ := id C
  unfold fC4_phaseReached at h
  refine lv_aload_n hx hb dC4_phaseReached_0 rfl (lv_at hl 0 rfl) ?_
  refine va_get (D := (dC, dI)) (ci := 4) (v := .int (σ.1 4 9)) (C := RC4) (T := TC4) (N := 10) hx hb hts inC4 hown hK hP 4 rfl rfl 9 (by decide) (hts _ mw_198) (fun _ h9 => h9) rfl dC4_phaseReached_1 ?_
  exact hend _ _ _ (Option.some.inj h) dC4_phaseReached_4
set_option maxHeartbeats 4000000 in
set_option maxRecDepth 100000 in
theorem kC4_phaseReached (l : Launch) (dC : Nat → ClassId) (dI : Nat → Nat → Nat) (ad : Nat → Nat) (cA : Nat → ClassId) (σ : xSt) (r : Int32) (h : fC4_phaseReached σ = some r) : Met l yC4_phaseReached wsC4_phaseReached rm_C4_phaseReached (va_Pc [.ref (ad 4)] (fun U => va_P (dC, dI) vwC (xW ad cA σ) U.heap ∧ va_K (dC, dI) vwC (xT cA) U)) (vp_Si (fun v => v = r)) 0 0 (fun _ => False) := by
  refine Met.ofW (cc := cC4_phaseReached) (maxL := 1) (ret := (some .int)) (by decide) rfl ?_
  intro p e s m args below meth c s₁ B hml hv
  obtain ⟨rfl, hP, hK⟩ := hv
  have hr := B.returns
  have hlocks := B.notSynchronized
  have hl := lv_entry ([.ref (ad 4)]) (n := 1) (Nat.le_of_ble_eq_true rfl)
  rw [lg_entry_eq]
  exact wC4_phaseReached ⟨B.exec, B.bytes, hml, findClass_of_methodNamed B.named, fun w h => atoms_spec (ws := wsC4_phaseReached) B.pre w (List.mem_cons_of_mem _ h)⟩ hK hP (fun v pc ls hv hd => W.iret (v := v) B.exec B.bytes hr (fun t ht hW => ⟨v, rfl, hv, ht⟩) (fun q hq => absurd hq List.not_mem_nil) hd) _ hl h
abbrev rm_C0_phase : Room := { frames := 1, cells := 0, slots := 0, locals := 20 }
def fC0_phase (σ : xSt) : Option Int32 :=
  (fC4_phaseReached σ).bind fun v1 =>
  some v1
set_option maxHeartbeats 4000000 in
set_option maxRecDepth 100000 in
theorem wC0_phase {p : Program} {l : Launch} {e : Env} {s : State} {m : MethodId} {args : Array Value} {below : List Frame} {meth : Method} {c : Code} {Q : State → Prop} {dC : Nat → ClassId} {dI : Nat → Nat → Nat} {ad : Nat → Nat} {cA : Nat → ClassId} {r : Int32} {H : Heap} {locs : List Loc} {σ : xSt} (C : CallFix p m c cC0_phase 1 s args wAll RC0) (hK : va_K (dC, dI) vwC (xT cA) s) (hP : va_P (dC, dI) vwC (xW ad cA σ) H) (hend : ∀ (v : Int32) (pc : Nat) (ls : Array Slot), v = r → decode cC0_phase pc = .ok (.ireturn, 1) → W p l e rm_C0_phase s m args below meth c H locs 0 0 Q (F0 m pc ls [.int v])) (ls : Array Slot) (hl : lv_has ls 1 [(0, .ref (ad 0))]) (h : fC0_phase σ = some r) : W p l e rm_C0_phase s m args below meth c H locs 0 0 Q (F0 m 0 ls []) := by
  obtain ⟨hx, hb, hml, hown, hts⟩ := id C
  unfold fC0_phase at h
  refine lv_aload_n hx hb dC0_phase_0 rfl (lv_at hl 0 rfl) ?_
  refine va_get (D := (dC, dI)) (ci := 0) (v := .ref (ad 4)) (C := RC0) (T := TC0) (N := 5) hx hb hts inC0 hown hK hP 0 rfl rfl 3 (by decide) (hts _ mw_197) (fun _ h9 => h9) rfl dC0_phase_1 ?_
  obtain ⟨v1, ev1, h⟩ := Option.bind_eq_some_iff.mp h
  refine gcall_r (b := ad 4) (As := []) (rest := []) C hK hP (ci := 4) (q0 := 4) rfl rfl (kC4_phaseReached l dC dI ad cA σ v1 ev1) (cwV 0 hts (gw mw_333 mw_334 mw_335 mw_204 mw_336) rfl rfl rfl hdC4_phaseReached ⟨Nat.le_of_ble_eq_true rfl, Nat.le_of_ble_eq_true rfl⟩) rfl hl.1 rfl (Nat.le_of_ble_eq_true rfl) dC0_phase_4 ⟨Nat.le_refl _, Nat.le_refl _⟩ ?_
  exact hend _ _ _ (Option.some.inj h) dC0_phase_7
set_option maxHeartbeats 4000000 in
set_option maxRecDepth 100000 in
theorem kC0_phase (l : Launch) (dC : Nat → ClassId) (dI : Nat → Nat → Nat) (ad : Nat → Nat) (cA : Nat → ClassId) (σ : xSt) (r : Int32) (h : fC0_phase σ = some r) : Met l yC0_phase wsC0_phase rm_C0_phase (va_Pc [.ref (ad 0)] (fun U => va_P (dC, dI) vwC (xW ad cA σ) U.heap ∧ va_K (dC, dI) vwC (xT cA) U)) (vp_Si (fun v => v = r)) 0 0 (fun _ => False) := by
  refine Met.ofW (cc := cC0_phase) (maxL := 1) (ret := (some .int)) (by decide) rfl ?_
  intro p e s m args below meth c s₁ B hml hv
  obtain ⟨rfl, hP, hK⟩ := hv
  have hr := B.returns
  have hlocks := B.notSynchronized
  have hl := lv_entry ([.ref (ad 0)]) (n := 1) (Nat.le_of_ble_eq_true rfl)
  rw [lg_entry_eq]
  exact wC0_phase ⟨B.exec, B.bytes, hml, findClass_of_methodNamed B.named, fun w h => atoms_spec (ws := wsC0_phase) B.pre w (List.mem_cons_of_mem _ h)⟩ hK hP (fun v pc ls hv hd => W.iret (v := v) B.exec B.bytes hr (fun t ht hW => ⟨v, rfl, hv, ht⟩) (fun q hq => absurd hq List.not_mem_nil) hd) _ hl h
abbrev rm_C4_applyingAt : Room := { frames := 0, cells := 0, slots := 0, locals := 0 }
def fC4_applyingAt (σ : xSt) (x1 : Int32) : Option Int32 :=
  if x1 < 0 then
    some (-1 : Int32)
  else
    if (σ.1 4 7) ≤ x1 then
      some (-1 : Int32)
    else
      if x1 < 0 ∨ 60 ≤ x1.toNatClampNeg then none else
      some (σ.1 22 x1.toNatClampNeg)
set_option maxHeartbeats 4000000 in
set_option maxRecDepth 100000 in
theorem wC4_applyingAt {p : Program} {l : Launch} {e : Env} {s : State} {m : MethodId} {args : Array Value} {below : List Frame} {meth : Method} {c : Code} {Q : State → Prop} {dC : Nat → ClassId} {dI : Nat → Nat → Nat} {ad : Nat → Nat} {cA : Nat → ClassId} {r : Int32} {H : Heap} {locs : List Loc} {σ : xSt} (C : CallFix p m c cC4_applyingAt 2 s args wAll RC4) (hK : va_K (dC, dI) vwC (xT cA) s) (hP : va_P (dC, dI) vwC (xW ad cA σ) H) (hend : ∀ (v : Int32) (pc : Nat) (ls : Array Slot), v = r → decode cC4_applyingAt pc = .ok (.ireturn, 1) → W p l e rm_C4_applyingAt s m args below meth c H locs 0 0 Q (F0 m pc ls [.int v])) {x1 : Int32} (ls : Array Slot) (hl : lv_has ls 2 [(0, .ref (ad 4)), (1, .int (x1))]) (h : fC4_applyingAt σ x1 = some r) : W p l e rm_C4_applyingAt s m args below meth c H locs 0 0 Q (F0 m 0 ls []) := by
  obtain ⟨hx, hb, hml, hown, hts⟩ := id C
  unfold fC4_applyingAt at h
  refine lv_iload_n hx hb dC4_applyingAt_0 rfl (lv_at hl 1 rfl) ?_
  refine lv_if_lt (tgt := 21) hx hb dC4_applyingAt_1 (by decide) (fun c3 => ?_) (fun c3 => ?_)
  · have h := (if_pos c3).symm.trans h
    refine lv_iconst (v := (-1 : Int32)) hx hb dC4_applyingAt_21 (by decide) ?_
    exact hend _ _ _ (Option.some.inj h) dC4_applyingAt_22
  · have h := (if_neg c3).symm.trans h
    refine lv_iload_n hx hb dC4_applyingAt_4 rfl (lv_at hl 1 rfl) ?_
    refine lv_aload_n hx hb dC4_applyingAt_5 rfl (lv_at hl 0 rfl) ?_
    refine va_get (D := (dC, dI)) (ci := 4) (v := .int (σ.1 4 7)) (C := RC4) (T := TC4) (N := 10) hx hb hts inC4 hown hK hP 4 rfl rfl 7 (by decide) (hts _ mw_199) (fun _ h9 => h9) rfl dC4_applyingAt_6 ?_
    refine lv_icmp_ge (tgt := 21) hx hb dC4_applyingAt_9 (by decide) (fun c2 => ?_) (fun c2 => ?_)
    · have h := (if_pos c2).symm.trans h
      refine lv_iconst (v := (-1 : Int32)) hx hb dC4_applyingAt_21 (by decide) ?_
      exact hend _ _ _ (Option.some.inj h) dC4_applyingAt_22
    · have h := (if_neg c2).symm.trans h
      refine lv_aload_n hx hb dC4_applyingAt_12 rfl (lv_at hl 0 rfl) ?_
      refine va_get (D := (dC, dI)) (ci := 4) (v := .ref (ad 22)) (C := RC4) (T := TC4) (N := 10) hx hb hts inC4 hown hK hP 4 rfl rfl 4 (by decide) (hts _ mw_258) (fun _ h9 => h9) rfl dC4_applyingAt_13 ?_
      refine lv_iload_n hx hb dC4_applyingAt_16 rfl (lv_at hl 1 rfl) ?_
      obtain ⟨b1, h⟩ := gx_nb h
      refine va_iald hx hb hK hP 22 17 rfl rfl b1 dC4_applyingAt_17 ?_
      refine lv_goto (tgt := 22) hx hb dC4_applyingAt_18 (by decide) ?_
      exact hend _ _ _ (Option.some.inj h) dC4_applyingAt_22
set_option maxHeartbeats 4000000 in
set_option maxRecDepth 100000 in
theorem kC4_applyingAt (l : Launch) (dC : Nat → ClassId) (dI : Nat → Nat → Nat) (ad : Nat → Nat) (cA : Nat → ClassId) (σ : xSt) (x1 : Int32) (r : Int32) (h : fC4_applyingAt σ x1 = some r) : Met l yC4_applyingAt wsC4_applyingAt rm_C4_applyingAt (va_Pc [.ref (ad 4), .int (x1)] (fun U => va_P (dC, dI) vwC (xW ad cA σ) U.heap ∧ va_K (dC, dI) vwC (xT cA) U)) (vp_Si (fun v => v = r)) 0 0 (fun _ => False) := by
  refine Met.ofW (cc := cC4_applyingAt) (maxL := 2) (ret := (some .int)) (by decide) rfl ?_
  intro p e s m args below meth c s₁ B hml hv
  obtain ⟨rfl, hP, hK⟩ := hv
  have hr := B.returns
  have hlocks := B.notSynchronized
  have hl := lv_entry ([.ref (ad 4), .int (x1)]) (n := 2) (Nat.le_of_ble_eq_true rfl)
  rw [lg_entry_eq]
  exact wC4_applyingAt ⟨B.exec, B.bytes, hml, findClass_of_methodNamed B.named, fun w h => atoms_spec (ws := wsC4_applyingAt) B.pre w (List.mem_cons_of_mem _ h)⟩ hK hP (fun v pc ls hv hd => W.iret (v := v) B.exec B.bytes hr (fun t ht hW => ⟨v, rfl, hv, ht⟩) (fun q hq => absurd hq List.not_mem_nil) hd) _ hl h
