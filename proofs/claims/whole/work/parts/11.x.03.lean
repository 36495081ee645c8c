abbrev rm_C2_isToldTwice : Room := { frames := 1, cells := 0, slots := 0, locals := 23 }
def fC2_isToldTwice_b51 (k2 : Int32 → Int32 → Option Int32) (σ : xSt) (x1 : Int32) (x2 : Int32) : Option Int32 :=
  k2 x1 (x2 + (1 : Int32))
set_option maxHeartbeats 4000000 in
set_option maxRecDepth 100000 in
theorem wC2_isToldTwice_b51 {p : Program} {l : Launch} {e : Env} {s : State} {m : MethodId} {args : Array Value} {below : List Frame} {meth : Method} {c : Code} {Q : State → Prop} {dC : Nat → ClassId} {dI : Nat → Nat → Nat} {ad : Nat → Nat} {cA : Nat → ClassId} {r : Int32} {H : Heap} {locs : List Loc} {σ : xSt} (C : CallFix p m c cC2_isToldTwice 3 s args wAll RC2) (hK : va_K (dC, dI) vwC (xT cA) s) (hP : va_P (dC, dI) vwC (xW ad cA σ) H) (hend : ∀ (v : Int32) (pc : Nat) (ls : Array Slot), v = r → narrow .boolean (.int v) = .int v → decode cC2_isToldTwice pc = .ok (.ireturn, 1) → W p l e rm_C2_isToldTwice s m args below meth c H locs 0 0 Q (F0 m pc ls [.int v])) {k2 : Int32 → Int32 → Option Int32} (hk2 : ∀ (x1 : Int32) (x2 : Int32) (ls : Array Slot), lv_has ls 3 [(0, .ref (ad 2)), (1, .int (x1)), (2, .int (x2))] → k2 x1 x2 = some r → W p l e rm_C2_isToldTwice s m args below meth c H locs 0 0 Q (F0 m 2 ls [])) :
    ∀ (x1 : Int32) (x2 : Int32) (ls : Array Slot), lv_has ls 3 [(0, .ref (ad 2)), (1, .int (x1)), (2, .int (x2))] → fC2_isToldTwice_b51 k2 σ x1 x2 = some r → W p l e rm_C2_isToldTwice s m args below meth c H locs 0 0 Q (F0 m 51 ls []) := by
  obtain ⟨hx, hb, hml, hown, hts⟩ := id C
  intro x1 x2 ls hl h
  unfold fC2_isToldTwice_b51 at h
  refine lv_iinc (v := x2 + (1 : Int32)) (lv' := [(2, .int (x2 + (1 : Int32))), (0, .ref (ad 2)), (1, .int (x1))]) hx hb dC2_isToldTwice_51 hl (k := 2) rfl rfl (by decide) rfl (fun ls hl => ?_)
  refine lv_goto (tgt := 2) hx hb dC2_isToldTwice_54 (by decide) ?_
  exact hk2 _ _ _ (lv_sub hl [1, 2, 0] rfl) h
def fC2_isToldTwice_b2 (σ : xSt) : Nat → Int32 → Int32 → Option Int32
  | 0, _, _ => none
  | n + 1, x1, x2 =>
    if (σ.1 2 9) ≤ x2 then
      some (0 : Int32)
    else
      if x2 < 0 ∨ 61 ≤ x2.toNatClampNeg then none else
      if x1 < 0 ∨ 61 ≤ x1.toNatClampNeg then none else
      if (σ.1 9 x2.toNatClampNeg) = (σ.1 9 x1.toNatClampNeg) then
        if x2 < 0 ∨ 61 ≤ x2.toNatClampNeg then none else
        if x1 < 0 ∨ 61 ≤ x1.toNatClampNeg then none else
        if (σ.1 10 x2.toNatClampNeg) = (σ.1 10 x1.toNatClampNeg) then
          (fC2_sameParameters σ x2 x1).bind fun v5 =>
          if v5 = 0 then
            fC2_isToldTwice_b51 (fC2_isToldTwice_b2 σ n) σ x1 x2
          else
            some (1 : Int32)
        else
          fC2_isToldTwice_b51 (fC2_isToldTwice_b2 σ n) σ x1 x2
      else
        fC2_isToldTwice_b51 (fC2_isToldTwice_b2 σ n) σ x1 x2
set_option maxHeartbeats 4000000 in
set_option maxRecDepth 100000 in
theorem wC2_isToldTwice_b2 {p : Program} {l : Launch} {e : Env} {s : State} {m : MethodId} {args : Array Value} {below : List Frame} {meth : Method} {c : Code} {Q : State → Prop} {dC : Nat → ClassId} {dI : Nat → Nat → Nat} {ad : Nat → Nat} {cA : Nat → ClassId} {r : Int32} {H : Heap} {locs : List Loc} {σ : xSt} (C : CallFix p m c cC2_isToldTwice 3 s args wAll RC2) (hK : va_K (dC, dI) vwC (xT cA) s) (hP : va_P (dC, dI) vwC (xW ad cA σ) H) (hend : ∀ (v : Int32) (pc : Nat) (ls : Array Slot), v = r → narrow .boolean (.int v) = .int v → decode cC2_isToldTwice pc = .ok (.ireturn, 1) → W p l e rm_C2_isToldTwice s m args below meth c H locs 0 0 Q (F0 m pc ls [.int v])) :
    ∀ (n : Nat) (x1 : Int32) (x2 : Int32) (ls : Array Slot), lv_has ls 3 [(0, .ref (ad 2)), (1, .int (x1)), (2, .int (x2))] → fC2_isToldTwice_b2 σ n x1 x2 = some r → W p l e rm_C2_isToldTwice s m args below meth c H locs 0 0 Q (F0 m 2 ls []) := by
  obtain ⟨hx, hb, hml, hown, hts⟩ := id C
  intro n
  induction n with
  | zero =>
    intro x1 x2 ls hl h
    rw [fC2_isToldTwice_b2] at h
    cases h
  | succ n ih =>
    intro x1 x2 ls hl h
    rw [fC2_isToldTwice_b2] at h
    refine lv_iload_n hx hb dC2_isToldTwice_2 rfl (lv_at hl 2 rfl) ?_
    refine lv_aload_n hx hb dC2_isToldTwice_3 rfl (lv_at hl 0 rfl) ?_
    refine va_get (D := (dC, dI)) (ci := 2) (v := .int (σ.1 2 9)) (C := RC2) (T := TC2) (N := 10) hx hb hts inC2 hown hK hP 2 rfl rfl 9 (by decide) (hts _ mw_43) (fun _ h9 => h9) rfl dC2_isToldTwice_4 ?_
    refine lv_icmp_ge (tgt := 57) hx hb dC2_isToldTwice_7 (by decide) (fun c9 => ?_) (fun c9 => ?_)
    · have h := (if_pos c9).symm.trans h
      refine lv_iconst (v := (0 : Int32)) hx hb dC2_isToldTwice_57 (by decide) ?_
      exact hend _ _ _ (Option.some.inj h) rfl dC2_isToldTwice_58
    · have h := (if_neg c9).symm.trans h
      refine lv_aload_n hx hb dC2_isToldTwice_10 rfl (lv_at hl 0 rfl) ?_
      refine va_get (D := (dC, dI)) (ci := 2) (v := .ref (ad 9)) (C := RC2) (T := TC2) (N := 10) hx hb hts inC2 hown hK hP 2 rfl rfl 1 (by decide) (hts _ mw_42) (fun _ h9 => h9) rfl dC2_isToldTwice_11 ?_
      refine lv_iload_n hx hb dC2_isToldTwice_14 rfl (lv_at hl 2 rfl) ?_
      obtain ⟨b1, h⟩ := gx_nb h
      refine va_iald hx hb hK hP 9 4 rfl rfl b1 dC2_isToldTwice_15 ?_
      refine lv_aload_n hx hb dC2_isToldTwice_16 rfl (lv_at hl 0 rfl) ?_
      refine va_get (D := (dC, dI)) (ci := 2) (v := .ref (ad 9)) (C := RC2) (T := TC2) (N := 10) hx hb hts inC2 hown hK hP 2 rfl rfl 1 (by decide) (hts _ mw_42) (fun _ h9 => h9) rfl dC2_isToldTwice_17 ?_
      refine lv_iload_n hx hb dC2_isToldTwice_20 rfl (lv_at hl 1 rfl) ?_
      obtain ⟨b2, h⟩ := gx_nb h
      refine va_iald hx hb hK hP 9 4 rfl rfl b2 dC2_isToldTwice_21 ?_
      refine lv_icmp_ne (tgt := 51) hx hb dC2_isToldTwice_22 (by decide) (fun c8 => ?_) (fun c8 => ?_)
      · have h := (if_neg c8).symm.trans h
        exact wC2_isToldTwice_b51 C hK hP hend ih _ _ _ (lv_sub hl [0, 1, 2] rfl) h
      · have h := (if_pos c8).symm.trans h
        refine lv_aload_n hx hb dC2_isToldTwice_25 rfl (lv_at hl 0 rfl) ?_
        refine va_get (D := (dC, dI)) (ci := 2) (v := .ref (ad 10)) (C := RC2) (T := TC2) (N := 10) hx hb hts inC2 hown hK hP 2 rfl rfl 2 (by decide) (hts _ mw_44) (fun _ h9 => h9) rfl dC2_isToldTwice_26 ?_
        refine lv_iload_n hx hb dC2_isToldTwice_29 rfl (lv_at hl 2 rfl) ?_
        obtain ⟨b3, h⟩ := gx_nb h
        refine va_iald hx hb hK hP 10 5 rfl rfl b3 dC2_isToldTwice_30 ?_
        refine lv_aload_n hx hb dC2_isToldTwice_31 rfl (lv_at hl 0 rfl) ?_
        refine va_get (D := (dC, dI)) (ci := 2) (v := .ref (ad 10)) (C := RC2) (T := TC2) (N := 10) hx hb hts inC2 hown hK hP 2 rfl rfl 2 (by decide) (hts _ mw_44) (fun _ h9 => h9) rfl dC2_isToldTwice_32 ?_
        refine lv_iload_n hx hb dC2_isToldTwice_35 rfl (lv_at hl 1 rfl) ?_
        obtain ⟨b4, h⟩ := gx_nb h
        refine va_iald hx hb hK hP 10 5 rfl rfl b4 dC2_isToldTwice_36 ?_
        refine lv_icmp_ne (tgt := 51) hx hb dC2_isToldTwice_37 (by decide) (fun c7 => ?_) (fun c7 => ?_)
        · have h := (if_neg c7).symm.trans h
          exact wC2_isToldTwice_b51 C hK hP hend ih _ _ _ (lv_sub hl [0, 1, 2] rfl) h
        · have h := (if_pos c7).symm.trans h
          refine lv_aload_n hx hb dC2_isToldTwice_40 rfl (lv_at hl 0 rfl) ?_
          refine lv_iload_n hx hb dC2_isToldTwice_41 rfl (lv_at hl 2 rfl) ?_
          refine lv_iload_n hx hb dC2_isToldTwice_42 rfl (lv_at hl 1 rfl) ?_
          obtain ⟨v5, ev5, h⟩ := Option.bind_eq_some_iff.mp h
          refine gcall_r (b := ad 2) (As := [.int (x2), .int (x1)]) (rest := []) C hK hP (ci := 2) (q0 := 2) rfl rfl (kC2_sameParameters l dC dI ad cA σ x2 x1 v5 ev5) (cwV 2 hts (gw mw_110 mw_111 mw_112 mw_40 mw_113) rfl rfl rfl hdC2_sameParameters ⟨Nat.le_of_ble_eq_true rfl, Nat.le_of_ble_eq_true rfl⟩) rfl hl.1 rfl (Nat.le_of_ble_eq_true rfl) dC2_isToldTwice_43 ⟨Nat.le_refl _, Nat.le_refl _⟩ ?_
          refine lv_if_eq (tgt := 51) hx hb dC2_isToldTwice_46 (by decide) (fun c6 => ?_) (fun c6 => ?_)
          · have h := (if_pos c6).symm.trans h
            exact wC2_isToldTwice_b51 C hK hP hend ih _ _ _ (lv_sub hl [0, 1, 2] rfl) h
          · have h := (if_neg c6).symm.trans h
            refine lv_iconst (v := (1 : Int32)) hx hb dC2_isToldTwice_49 (by decide) ?_
            exact hend _ _ _ (Option.some.inj h) rfl dC2_isToldTwice_50
def fC2_isToldTwice (σ : xSt) (x1 : Int32) : Option Int32 :=
  fC2_isToldTwice_b2 σ gF x1 (0 : Int32)
set_option maxHeartbeats 4000000 in
set_option maxRecDepth 100000 in
theorem wC2_isToldTwice {p : Program} {l : Launch} {e : Env} {s : State} {m : MethodId} {args : Array Value} {below : List Frame} {meth : Method} {c : Code} {Q : State → Prop} {dC : Nat → ClassId} {dI : Nat → Nat → Nat} {ad : Nat → Nat} {cA : Nat → ClassId} {r : Int32} {H : Heap} {locs : List Loc} {σ : xSt} (C : CallFix p m c cC2_isToldTwice 3 s args wAll RC2) (hK : va_K (dC, dI) vwC (xT cA) s) (hP : va_P (dC, dI) vwC (xW ad cA σ) H) (hend : ∀ (v : Int32) (pc : Nat) (ls : Array Slot), v = r → narrow .boolean (.int v) = .int v → decode cC2_isToldTwice pc = .ok (.ireturn, 1) → W p l e rm_C2_isToldTwice s m args below meth c H locs 0 0 Q (F0 m pc ls [.int v])) {x1 : Int32} (ls : Array Slot) (hl : lv_has ls 3 [(0, .ref (ad 2)), (1, .int (x1))]) (h : fC2_isToldTwice σ x1 = some r) : W p l e rm_C2_isToldTwice s m args below meth c H locs 0 0 Q (F0 m 0 ls []) := by
  obtain ⟨hx, hb, hml, hown, hts⟩ := id C
  unfold fC2_isToldTwice at h
  refine lv_iconst (v := (0 : Int32)) hx hb dC2_isToldTwice_0 (by decide) ?_
  refine lv_istore_n (lv' := [(2, .int ((0 : Int32))), (0, .ref (ad 2)), (1, .int (x1))]) hx hb dC2_isToldTwice_1 rfl hl (by decide) rfl (fun ls hl => ?_)
  exact wC2_isToldTwice_b2 C hK hP hend _ _ _ _ (lv_sub hl [1, 2, 0] rfl) h
set_option maxHeartbeats 4000000 in
set_option maxRecDepth 100000 in
theorem kC2_isToldTwice (l : Launch) (dC : Nat → ClassId) (dI : Nat → Nat → Nat) (ad : Nat → Nat) (cA : Nat → ClassId) (σ : xSt) (x1 : Int32) (r : Int32) (h : fC2_isToldTwice σ x1 = some r) : Met l yC2_isToldTwice wsC2_isToldTwice rm_C2_isToldTwice (va_Pc [.ref (ad 2), .int (x1)] (fun U => va_P (dC, dI) vwC (xW ad cA σ) U.heap ∧ va_K (dC, dI) vwC (xT cA) U)) (vp_Si (fun v => v = r)) 0 0 (fun _ => False) := by
  refine Met.ofW (cc := cC2_isToldTwice) (maxL := 3) (ret := (some .boolean)) (by decide) rfl ?_
  intro p e s m args below meth c s₁ B hml hv
  obtain ⟨rfl, hP, hK⟩ := hv
  have hr := B.returns
  have hlocks := B.notSynchronized
  have hl := lv_entry ([.ref (ad 2), .int (x1)]) (n := 3) (Nat.le_of_ble_eq_true rfl)
  rw [lg_entry_eq]
  exact wC2_isToldTwice ⟨B.exec, B.bytes, hml, findClass_of_methodNamed B.named, fun w h => atoms_spec (ws := wsC2_isToldTwice) B.pre w (List.mem_cons_of_mem _ h)⟩ hK hP (fun v pc ls hv hn hd => W.zret (v := v) B.exec B.bytes hr hn (fun t ht hW => ⟨v, rfl, hv, ht⟩) (fun q hq => absurd hq List.not_mem_nil) hd) _ hl h
abbrev rm_C2_keepDraft : Room := { frames := 6, cells := 0, slots := 0, locals := 127 }
def fC2_keepDraft (σ : xSt) : Option (Int32 × xSt) :=
  if (60 : Int32) ≤ (σ.1 2 9) then
    some ((-2 : Int32), σ)
  else
    (fC2_hasGoodHead σ (σ.1 2 9)).bind fun v1 =>
    if v1 = 0 then
      some ((-2 : Int32), σ)
    else
      (fC2_hasGoodParameters σ (σ.1 2 9)).bind fun v2 =>
      if v2 = 0 then
        some ((-2 : Int32), σ)
      else
        (fC2_isToldTwice σ (σ.1 2 9)).bind fun v3 =>
        if v3 = 0 then
          (fC2_forgetFunctions σ).bind fun σ5 =>
          nm (sI σ5 2 9 ((σ5.1 2 9) + (1 : Int32))) fun σ6 =>
          some ((σ6.1 2 9) - (1 : Int32), σ6)
        else
          some ((-2 : Int32), σ)
set_option maxHeartbeats 4000000 in
set_option maxRecDepth 100000 in
theorem wC2_keepDraft {p : Program} {l : Launch} {e : Env} {s : State} {m : MethodId} {args : Array Value} {below : List Frame} {meth : Method} {c : Code} {Q : State → Prop} {dC : Nat → ClassId} {dI : Nat → Nat → Nat} {ad : Nat → Nat} {cA : Nat → ClassId} {r : (Int32 × xSt)} (C : CallFix p m c cC2_keepDraft 1 s args wAll RC2) (hK : va_K (dC, dI) vwC (xT cA) s) (hend : ∀ (v : Int32) (σ : xSt) (H : Heap) (locs : List Loc) (pc : Nat) (ls : Array Slot), (v, σ) = r → va_P (dC, dI) vwC (xW ad cA σ) H → va_S (xA ad) s.heap H locs → decode cC2_keepDraft pc = .ok (.ireturn, 1) → W p l e rm_C2_keepDraft s m args below meth c H locs 0 0 Q (F0 m pc ls [.int v])) {H : Heap} {locs : List Loc} {σ : xSt} (hP : va_P (dC, dI) vwC (xW ad cA σ) H) (hD : va_D (xA ad) (xW ad cA σ)) (hS : va_S (xA ad) s.heap H locs) (ls : Array Slot) (hl : lv_has ls 1 [(0, .ref (ad 2))]) (h : fC2_keepDraft σ = some r) : W p l e rm_C2_keepDraft s m args below meth c H locs 0 0 Q (F0 m 0 ls []) := by
  obtain ⟨hx, hb, hml, hown, hts⟩ := id C
  unfold fC2_keepDraft at h
  refine lv_aload_n hx hb dC2_keepDraft_0 rfl (lv_at hl 0 rfl) ?_
  refine va_get (D := (dC, dI)) (ci := 2) (v := .int (σ.1 2 9)) (C := RC2) (T := TC2) (N := 10) hx hb hts inC2 hown hK hP 2 rfl rfl 9 (by decide) (hts _ mw_43) (fun _ h9 => h9) rfl dC2_keepDraft_1 ?_
  refine lv_bipush (v := (60 : Int32)) hx hb dC2_keepDraft_4 (by decide) ?_
  refine lv_icmp_ge (tgt := 42) hx hb dC2_keepDraft_6 (by decide) (fun c10 => ?_) (fun c10 => ?_)
  · have h := (if_pos c10).symm.trans h
    refine lv_bipush (v := (-2 : Int32)) hx hb dC2_keepDraft_42 (by decide) ?_
    exact hend _ _ _ _ _ _ (Option.some.inj h) hP hS dC2_keepDraft_44
  · have h := (if_neg c10).symm.trans h
    refine lv_aload_n hx hb dC2_keepDraft_9 rfl (lv_at hl 0 rfl) ?_
    refine lv_aload_n hx hb dC2_keepDraft_10 rfl (lv_at hl 0 rfl) ?_
    refine va_get (D := (dC, dI)) (ci := 2) (v := .int (σ.1 2 9)) (C := RC2) (T := TC2) (N := 10) hx hb hts inC2 hown hK hP 2 rfl rfl 9 (by decide) (hts _ mw_43) (fun _ h9 => h9) rfl dC2_keepDraft_11 ?_
    obtain ⟨v1, ev1, h⟩ := Option.bind_eq_some_iff.mp h
    refine gcall_r (b := ad 2) (As := [.int (σ.1 2 9)]) (rest := []) C hK hP (ci := 2) (q0 := 2) rfl rfl (kC2_hasGoodHead l dC dI ad cA σ (σ.1 2 9) v1 ev1) (cwV 1 hts (gw mw_92 mw_93 mw_94 mw_40 mw_95) rfl rfl rfl hdC2_hasGoodHead ⟨Nat.le_of_ble_eq_true rfl, Nat.le_of_ble_eq_true rfl⟩) rfl hl.1 rfl (Nat.le_of_ble_eq_true rfl) dC2_keepDraft_14 ⟨Nat.le_refl _, Nat.le_refl _⟩ ?_
    refine lv_if_eq (tgt := 42) hx hb dC2_keepDraft_17 (by decide) (fun c9 => ?_) (fun c9 => ?_)
    · have h := (if_pos c9).symm.trans h
      refine lv_bipush (v := (-2 : Int32)) hx hb dC2_keepDraft_42 (by decide) ?_
      exact hend _ _ _ _ _ _ (Option.some.inj h) hP hS dC2_keepDraft_44
    · have h := (if_neg c9).symm.trans h
      refine lv_aload_n hx hb dC2_keepDraft_20 rfl (lv_at hl 0 rfl) ?_
      refine lv_aload_n hx hb dC2_keepDraft_21 rfl (lv_at hl 0 rfl) ?_
      refine va_get (D := (dC, dI)) (ci := 2) (v := .int (σ.1 2 9)) (C := RC2) (T := TC2) (N := 10) hx hb hts inC2 hown hK hP 2 rfl rfl 9 (by decide) (hts _ mw_43) (fun _ h9 => h9) rfl dC2_keepDraft_22 ?_
      obtain ⟨v2, ev2, h⟩ := Option.bind_eq_some_iff.mp h
      refine gcall_r (b := ad 2) (As := [.int (σ.1 2 9)]) (rest := []) C hK hP (ci := 2) (q0 := 2) rfl rfl (kC2_hasGoodParameters l dC dI ad cA σ (σ.1 2 9) v2 ev2) (cwV 1 hts (gw mw_106 mw_107 mw_108 mw_40 mw_109) rfl rfl rfl hdC2_hasGoodParameters ⟨Nat.le_of_ble_eq_true rfl, Nat.le_of_ble_eq_true rfl⟩) rfl hl.1 rfl (Nat.le_of_ble_eq_true rfl) dC2_keepDraft_25 ⟨Nat.le_refl _, Nat.le_refl _⟩ ?_
      refine lv_if_eq (tgt := 42) hx hb dC2_keepDraft_28 (by decide) (fun c8 => ?_) (fun c8 => ?_)
      · have h := (if_pos c8).symm.trans h
        refine lv_bipush (v := (-2 : Int32)) hx hb dC2_keepDraft_42 (by decide) ?_
        exact hend _ _ _ _ _ _ (Option.some.inj h) hP hS dC2_keepDraft_44
      · have h := (if_neg c8).symm.trans h
        refine lv_aload_n hx hb dC2_keepDraft_31 rfl (lv_at hl 0 rfl) ?_
        refine lv_aload_n hx hb dC2_keepDraft_32 rfl (lv_at hl 0 rfl) ?_
        refine va_get (D := (dC, dI)) (ci := 2) (v := .int (σ.1 2 9)) (C := RC2) (T := TC2) (N := 10) hx hb hts inC2 hown hK hP 2 rfl rfl 9 (by decide) (hts _ mw_43) (fun _ h9 => h9) rfl dC2_keepDraft_33 ?_
        obtain ⟨v3, ev3, h⟩ := Option.bind_eq_some_iff.mp h
        refine gcall_r (b := ad 2) (As := [.int (σ.1 2 9)]) (rest := []) C hK hP (ci := 2) (q0 := 2) rfl rfl (kC2_isToldTwice l dC dI ad cA σ (σ.1 2 9) v3 ev3) (cwV 1 hts (gw mw_114 mw_115 mw_116 mw_40 mw_117) rfl rfl rfl hdC2_isToldTwice ⟨Nat.le_of_ble_eq_true rfl, Nat.le_of_ble_eq_true rfl⟩) rfl hl.1 rfl (Nat.le_of_ble_eq_true rfl) dC2_keepDraft_36 ⟨Nat.le_refl _, Nat.le_refl _⟩ ?_
        refine lv_if_eq (tgt := 45) hx hb dC2_keepDraft_39 (by decide) (fun c7 => ?_) (fun c7 => ?_)
        · have h := (if_pos c7).symm.trans h
          refine lv_aload_n hx hb dC2_keepDraft_45 rfl (lv_at hl 0 rfl) ?_
          obtain ⟨σ5, eσ5, h⟩ := Option.bind_eq_some_iff.mp h
          refine gcall_v (wd := xW ad cA) (b := ad 2) (As := []) (rest := []) xkeys C hK hP hD hS (ci := 2) (q0 := 2) rfl rfl (kC2_forgetFunctions l dC dI ad cA σ σ5 eσ5) (cwV 0 hts (gw mw_118 mw_38 mw_39 mw_40 mw_41) rfl rfl rfl hdC2_forgetFunctions ⟨Nat.le_of_ble_eq_true rfl, Nat.le_of_ble_eq_true rfl⟩) rfl hl.1 rfl (Nat.le_of_ble_eq_true rfl) dC2_keepDraft_46 ⟨Nat.le_refl _, Nat.le_refl _⟩ (fun H locs hP hD hS => ?_)
          refine lv_aload_n hx hb dC2_keepDraft_49 rfl (lv_at hl 0 rfl) ?_
          refine lv_dup hx hb dC2_keepDraft_50 rfl ?_
          refine va_get (D := (dC, dI)) (ci := 2) (v := .int (σ5.1 2 9)) (C := RC2) (T := TC2) (N := 10) hx hb hts inC2 hown hK hP 2 rfl rfl 9 (by decide) (hts _ mw_43) (fun _ h9 => h9) rfl dC2_keepDraft_51 ?_
          refine lv_iconst (v := (1 : Int32)) hx hb dC2_keepDraft_54 (by decide) ?_
          refine lv_iadd hx hb dC2_keepDraft_55 ?_
          refine va_put (D := (dC, dI)) (ci := 2) (v := .int ((σ5.1 2 9) + (1 : Int32))) (ty := .int) (C := RC2) (T := TC2) (N := 10) hx hb hts inC2 tyC2 tyC2_ok nnC2 hown hK hP hD hS 2 rfl rfl 9 (by decide) (hts _ mw_43) (fun _ h9 => h9) rfl (by decide +kernel) rfl rfl (Nat.le_of_ble_eq_true rfl) dC2_keepDraft_56 (fun H locs hP hD hS => ?_)
          obtain ⟨σ6, eσ6⟩ : ∃ z, z = sI σ5 2 9 ((σ5.1 2 9) + (1 : Int32)) := ⟨_, rfl⟩
          have hP : va_P (dC, dI) vwC (xW ad cA σ6) H := by rw [eσ6]; exact hP
          have hD : va_D (xA ad) (xW ad cA σ6) := by rw [eσ6]; exact hD
          have h := nm_at eσ6 h
          refine lv_aload_n hx hb dC2_keepDraft_59 rfl (lv_at hl 0 rfl) ?_
          refine va_get (D := (dC, dI)) (ci := 2) (v := .int (σ6.1 2 9)) (C := RC2) (T := TC2) (N := 10) hx hb hts inC2 hown hK hP 2 rfl rfl 9 (by decide) (hts _ mw_43) (fun _ h9 => h9) rfl dC2_keepDraft_60 ?_
          refine lv_iconst (v := (1 : Int32)) hx hb dC2_keepDraft_63 (by decide) ?_
          refine lv_isub hx hb dC2_keepDraft_64 ?_
          exact hend _ _ _ _ _ _ (Option.some.inj h) hP hS dC2_keepDraft_65
        · have h := (if_neg c7).symm.trans h
          refine lv_bipush (v := (-2 : Int32)) hx hb dC2_keepDraft_42 (by decide) ?_
          exact hend _ _ _ _ _ _ (Option.some.inj h) hP hS dC2_keepDraft_44
set_option maxHeartbeats 4000000 in
set_option maxRecDepth 100000 in
theorem kC2_keepDraft (l : Launch) (dC : Nat → ClassId) (dI : Nat → Nat → Nat) (ad : Nat → Nat) (cA : Nat → ClassId) (σ : xSt) (r : (Int32 × xSt)) (h : fC2_keepDraft σ = some r) : Met l yC2_keepDraft wsC2_keepDraft rm_C2_keepDraft (va_Pc [.ref (ad 2)] (fun U => va_P (dC, dI) vwC (xW ad cA σ) U.heap ∧ va_K (dC, dI) vwC (xT cA) U ∧ va_D (xA ad) (xW ad cA σ))) (va_Qi (fun (v : Int32) (u : xSt) => (v, u) = r) (fun u t => va_P (dC, dI) vwC (xW ad cA u) t.heap) (xA ad)) 0 0 (xA ad) := by
  refine Met.ofW (cc := cC2_keepDraft) (maxL := 1) (ret := (some .int)) (by decide) rfl ?_
  intro p e s m args below meth c s₁ B hml hv
  obtain ⟨rfl, hP, hK, hD⟩ := hv
  have hr := B.returns
  have hlocks := B.notSynchronized
  have hl := lv_entry ([.ref (ad 2)]) (n := 1) (Nat.le_of_ble_eq_true rfl)
  rw [lg_entry_eq]
  exact wC2_keepDraft ⟨B.exec, B.bytes, hml, findClass_of_methodNamed B.named, fun w h => atoms_spec (ws := wsC2_keepDraft) B.pre w (List.mem_cons_of_mem _ h)⟩ hK (fun v σ H locs pc ls hv hP hS hd => W.iret (v := v) B.exec B.bytes hr (fun t ht hW => ⟨⟨v, σ, rfl, hv, by show va_P _ _ _ t.heap; rw [ht]; exact hP⟩, hS.F ht⟩) hS.2.2 hd) hP hD va_S.rf _ hl h
abbrev rm_C0_member : Room := { frames := 7, cells := 0, slots := 0, locals := 147 }
def fC0_member (σ : xSt) (x1 : Int32) (x2 : Int32) (x3 : Int32) (x4 : Int32) (x5 : Int32) (x6 : Int32) (x7 : Int32) (x8 : Int32) (x9 : Int32) : Option (Int32 × xSt) :=
  (fC2_draftHead σ x1 x2 x3 x4).bind fun σ2 =>
  (fC2_draftParameters σ2 x5 x6 x7 x8 x9).bind fun σ4 =>
  gx_b2 (fC2_keepDraft σ4) fun v5 σ6 =>
  some (v5, σ6)
set_option maxHeartbeats 4000000 in
set_option maxRecDepth 100000 in
theorem wC0_member {p : Program} {l : Launch} {e : Env} {s : State} {m : MethodId} {args : Array Value} {below : List Frame} {meth : Method} {c : Code} {Q : State → Prop} {dC : Nat → ClassId} {dI : Nat → Nat → Nat} {ad : Nat → Nat} {cA : Nat → ClassId} {r : (Int32 × xSt)} (C : CallFix p m c cC0_member 10 s args wAll RC0) (hK : va_K (dC, dI) vwC (xT cA) s) (hend : ∀ (v : Int32) (σ : xSt) (H : Heap) (locs : List Loc) (pc : Nat) (ls : Array Slot), (v, σ) = r → va_P (dC, dI) vwC (xW ad cA σ) H → va_S (xA ad) s.heap H locs → decode cC0_member pc = .ok (.ireturn, 1) → W p l e rm_C0_member s m args below meth c H locs 0 0 Q (F0 m pc ls [.int v])) {H : Heap} {locs : List Loc} {σ : xSt} (hP : va_P (dC, dI) vwC (xW ad cA σ) H) (hD : va_D (xA ad) (xW ad cA σ)) (hS : va_S (xA ad) s.heap H locs) {x1 : Int32} {x2 : Int32} {x3 : Int32} {x4 : Int32} {x5 : Int32} {x6 : Int32} {x7 : Int32} {x8 : Int32} {x9 : Int32} (ls : Array Slot) (hl : lv_has ls 10 [(0, .ref (ad 0)), (1, .int (x1)), (2, .int (x2)), (3, .int (x3)), (4, .int (x4)), (5, .int (x5)), (6, .int (x6)), (7, .int (x7)), (8, .int (x8)), (9, .int (x9))]) (h : fC0_member σ x1 x2 x3 x4 x5 x6 x7 x8 x9 = some r) : W p l e rm_C0_member s m args below meth c H locs 0 0 Q (F0 m 0 ls []) := by
  obtain ⟨hx, hb, hml, hown, hts⟩ := id C
  unfold fC0_member at h
  refine lv_aload_n hx hb dC0_member_0 rfl (lv_at hl 0 rfl) ?_
  refine va_get (D := (dC, dI)) (ci := 0) (v := .ref (ad 2)) (C := RC0) (T := TC0) (N := 5) hx hb hts inC0 hown hK hP 0 rfl rfl 1 (by decide) (hts _ mw_35) (fun _ h9 => h9) rfl dC0_member_1 ?_
  refine lv_iload_n hx hb dC0_member_4 rfl (lv_at hl 1 rfl) ?_
  refine lv_iload_n hx hb dC0_member_5 rfl (lv_at hl 2 rfl) ?_
  refine lv_iload_n hx hb dC0_member_6 rfl (lv_at hl 3 rfl) ?_
  refine lv_iload hx hb dC0_member_7 (lv_at hl 4 rfl) ?_
  obtain ⟨σ2, eσ2, h⟩ := Option.bind_eq_some_iff.mp h
  refine gcall_v (wd := xW ad cA) (b := ad 2) (As := [.int (x1), .int (x2), .int (x3), .int (x4)]) (rest := []) xkeys C hK hP hD hS (ci := 2) (q0 := 2) rfl rfl (kC2_draftHead l dC dI ad cA σ x1 x2 x3 x4 σ2 eσ2) (cwV 4 hts (gw mw_47 mw_48 mw_49 mw_40 mw_50) rfl rfl rfl hdC2_draftHead ⟨Nat.le_of_ble_eq_true rfl, Nat.le_of_ble_eq_true rfl⟩) rfl hl.1 rfl (Nat.le_of_ble_eq_true rfl) dC0_member_9 ⟨Nat.le_refl _, Nat.le_refl _⟩ (fun H locs hP hD hS => ?_)
  refine lv_aload_n hx hb dC0_member_12 rfl (lv_at hl 0 rfl) ?_
  refine va_get (D := (dC, dI)) (ci := 0) (v := .ref (ad 2)) (C := RC0) (T := TC0) (N := 5) hx hb hts inC0 hown hK hP 0 rfl rfl 1 (by decide) (hts _ mw_35) (fun _ h9 => h9) rfl dC0_member_13 ?_
  refine lv_iload hx hb dC0_member_16 (lv_at hl 5 rfl) ?_
  refine lv_iload hx hb dC0_member_18 (lv_at hl 6 rfl) ?_
  refine lv_iload hx hb dC0_member_20 (lv_at hl 7 rfl) ?_
  refine lv_iload hx hb dC0_member_22 (lv_at hl 8 rfl) ?_
  refine lv_iload hx hb dC0_member_24 (lv_at hl 9 rfl) ?_
  obtain ⟨σ4, eσ4, h⟩ := Option.bind_eq_some_iff.mp h
  refine gcall_v (wd := xW ad cA) (b := ad 2) (As := [.int (x5), .int (x6), .int (x7), .int (x8), .int (x9)]) (rest := []) xkeys C hK hP hD hS (ci := 2) (q0 := 2) rfl rfl (kC2_draftParameters l dC dI ad cA σ2 x5 x6 x7 x8 x9 σ4 eσ4) (cwV 5 hts (gw mw_53 mw_54 mw_55 mw_40 mw_56) rfl rfl rfl hdC2_draftParameters ⟨Nat.le_of_ble_eq_true rfl, Nat.le_of_ble_eq_true rfl⟩) rfl hl.1 rfl (Nat.le_of_ble_eq_true rfl) dC0_member_26 ⟨Nat.le_refl _, Nat.le_refl _⟩ (fun H locs hP hD hS => ?_)
  refine lv_aload_n hx hb dC0_member_29 rfl (lv_at hl 0 rfl) ?_
  refine va_get (D := (dC, dI)) (ci := 0) (v := .ref (ad 2)) (C := RC0) (T := TC0) (N := 5) hx hb hts inC0 hown hK hP 0 rfl rfl 1 (by decide) (hts _ mw_35) (fun _ h9 => h9) rfl dC0_member_30 ?_
  obtain ⟨v5, σ6, ez7, h⟩ := gx_b2_at h
  refine gcall_i (wd := xW ad cA) (b := ad 2) (As := []) (rest := []) xkeys C hK hP hD hS (ci := 2) (q0 := 2) rfl rfl (kC2_keepDraft l dC dI ad cA σ4 (v5, σ6) ez7) (cwV 0 hts (gw mw_119 mw_120 mw_121 mw_40 mw_122) rfl rfl rfl hdC2_keepDraft ⟨Nat.le_of_ble_eq_true rfl, Nat.le_of_ble_eq_true rfl⟩) rfl hl.1 rfl (Nat.le_of_ble_eq_true rfl) dC0_member_33 ⟨Nat.le_refl _, Nat.le_refl _⟩ (fun H locs hP hD hS => ?_)
  exact hend _ _ _ _ _ _ (Option.some.inj h) hP hS dC0_member_36
set_option maxHeartbeats 4000000 in
set_option maxRecDepth 100000 in
theorem kC0_member (l : Launch) (dC : Nat → ClassId) (dI : Nat → Nat → Nat) (ad : Nat → Nat) (cA : Nat → ClassId) (σ : xSt) (x1 : Int32) (x2 : Int32) (x3 : Int32) (x4 : Int32) (x5 : Int32) (x6 : Int32) (x7 : Int32) (x8 : Int32) (x9 : Int32) (r : (Int32 × xSt)) (h : fC0_member σ x1 x2 x3 x4 x5 x6 x7 x8 x9 = some r) : Met l yC0_member wsC0_member rm_C0_member (va_Pc [.ref (ad 0), .int (x1), .int (x2), .int (x3), .int (x4), .int (x5), .int (x6), .int (x7), .int (x8), .int (x9)] (fun U => va_P (dC, dI) vwC (xW ad cA σ) U.heap ∧ va_K (dC, dI) vwC (xT cA) U ∧ va_D (xA ad) (xW ad cA σ))) (va_Qi (fun (v : Int32) (u : xSt) => (v, u) = r) (fun u t => va_P (dC, dI) vwC (xW ad cA u) t.heap) (xA ad)) 0 0 (xA ad) := by
  refine Met.ofW (cc := cC0_member) (maxL := 10) (ret := (some .int)) (by decide) rfl ?_
  intro p e s m args below meth c s₁ B hml hv
  obtain ⟨rfl, hP, hK, hD⟩ := hv
  have hr := B.returns
  have hlocks := B.notSynchronized
  have hl := lv_entry ([.ref (ad 0), .int (x1), .int (x2), .int (x3), .int (x4), .int (x5), .int (x6), .int (x7), .int (x8), .int (x9)]) (n := 10) (Nat.le_of_ble_eq_true rfl)
  rw [lg_entry_eq]
  exact wC0_member ⟨B.exec, B.bytes, hml, findClass_of_methodNamed B.named, fun w h => atoms_spec (ws := wsC0_member) B.pre w (List.mem_cons_of_mem _ h)⟩ hK (fun v σ H locs pc ls hv hP hS hd => W.iret (v := v) B.exec B.bytes hr (fun t ht hW => ⟨⟨v, σ, rfl, hv, by show va_P _ _ _ t.heap; rw [ht]; exact hP⟩, hS.F ht⟩) hS.2.2 hd) hP hD va_S.rf _ hl h
abbrev rm_C1_isType : Room := { frames := 3, cells := 0, slots := 0, locals := 63 }
def fC1_isType (σ : xSt) (x1 : Int32) : Option Int32 :=
  (fC1_isElement σ x1).bind fun v1 =>
  if v1 = 0 then
    if x1 = (10 : Int32) then
      some (1 : Int32)
    else
      (fC1_isArray σ x1).bind fun v2 =>
      if v2 = 0 then
        some (0 : Int32)
      else
        some (1 : Int32)
  else
    some (1 : Int32)
set_option maxHeartbeats 4000000 in
set_option maxRecDepth 100000 in
theorem wC1_isType {p : Program} {l : Launch} {e : Env} {s : State} {m : MethodId} {args : Array Value} {below : List Frame} {meth : Method} {c : Code} {Q : State → Prop} {dC : Nat → ClassId} {dI : Nat → Nat → Nat} {ad : Nat → Nat} {cA : Nat → ClassId} {r : Int32} {H : Heap} {locs : List Loc} {σ : xSt} (C : CallFix p m c cC1_isType 2 s args wAll RC1) (hK : va_K (dC, dI) vwC (xT cA) s) (hP : va_P (dC, dI) vwC (xW ad cA σ) H) (hend : ∀ (v : Int32) (pc : Nat) (ls : Array Slot), v = r → narrow .boolean (.int v) = .int v → decode cC1_isType pc = .ok (.ireturn, 1) → W p l e rm_C1_isType s m args below meth c H locs 0 0 Q (F0 m pc ls [.int v])) {x1 : Int32} (ls : Array Slot) (hl : lv_has ls 2 [(0, .ref (ad 1)), (1, .int (x1))]) (h : fC1_isType σ x1 = some r) : W p l e rm_C1_isType s m args below meth c H locs 0 0 Q (F0 m 0 ls []) := by
  obtain ⟨hx, hb, hml, hown, hts⟩ := id C
  unfold fC1_isType at h
  refine lv_aload_n hx hb dC1_isType_0 rfl (lv_at hl 0 rfl) ?_
  refine lv_iload_n hx hb dC1_isType_1 rfl (lv_at hl 1 rfl) ?_
  obtain ⟨v1, ev1, h⟩ := Option.bind_eq_some_iff.mp h
  refine gcall_r (b := ad 1) (As := [.int (x1)]) (rest := []) C hK hP (ci := 1) (q0 := 1) rfl rfl (kC1_isElement l dC dI ad cA σ x1 v1 ev1) (cwV 1 hts (gw mw_76 mw_77 mw_78 mw_7 mw_79) rfl rfl rfl hdC1_isElement ⟨Nat.le_of_ble_eq_true rfl, Nat.le_of_ble_eq_true rfl⟩) rfl hl.1 rfl (Nat.le_of_ble_eq_true rfl) dC1_isType_2 ⟨Nat.le_refl _, Nat.le_refl _⟩ ?_
  refine lv_if_ne (tgt := 22) hx hb dC1_isType_5 (by decide) (fun c5 => ?_) (fun c5 => ?_)
  · have h := (if_neg c5).symm.trans h
    refine lv_iconst (v := (1 : Int32)) hx hb dC1_isType_22 (by decide) ?_
    refine lv_goto (tgt := 27) hx hb dC1_isType_23 (by decide) ?_
    exact hend _ _ _ (Option.some.inj h) rfl dC1_isType_27
  · have h := (if_pos c5).symm.trans h
    refine lv_iload_n hx hb dC1_isType_8 rfl (lv_at hl 1 rfl) ?_
    refine lv_bipush (v := (10 : Int32)) hx hb dC1_isType_9 (by decide) ?_
    refine lv_icmp_eq (tgt := 22) hx hb dC1_isType_11 (by decide) (fun c4 => ?_) (fun c4 => ?_)
    · have h := (if_pos c4).symm.trans h
      refine lv_iconst (v := (1 : Int32)) hx hb dC1_isType_22 (by decide) ?_
      refine lv_goto (tgt := 27) hx hb dC1_isType_23 (by decide) ?_
      exact hend _ _ _ (Option.some.inj h) rfl dC1_isType_27
    · have h := (if_neg c4).symm.trans h
      refine lv_aload_n hx hb dC1_isType_14 rfl (lv_at hl 0 rfl) ?_
      refine lv_iload_n hx hb dC1_isType_15 rfl (lv_at hl 1 rfl) ?_
      obtain ⟨v2, ev2, h⟩ := Option.bind_eq_some_iff.mp h
      refine gcall_r (b := ad 1) (As := [.int (x1)]) (rest := []) C hK hP (ci := 1) (q0 := 1) rfl rfl (kC1_isArray l dC dI ad cA σ x1 v2 ev2) (cwV 1 hts (gw mw_80 mw_81 mw_82 mw_7 mw_83) rfl rfl rfl hdC1_isArray ⟨Nat.le_of_ble_eq_true rfl, Nat.le_of_ble_eq_true rfl⟩) rfl hl.1 rfl (Nat.le_of_ble_eq_true rfl) dC1_isType_16 ⟨Nat.le_refl _, Nat.le_refl _⟩ ?_
      refine lv_if_eq (tgt := 26) hx hb dC1_isType_19 (by decide) (fun c3 => ?_) (fun c3 => ?_)
      · have h := (if_pos c3).symm.trans h
        refine lv_iconst (v := (0 : Int32)) hx hb dC1_isType_26 (by decide) ?_
        exact hend _ _ _ (Option.some.inj h) rfl dC1_isType_27
      · have h := (if_neg c3).symm.trans h
        refine lv_iconst (v := (1 : Int32)) hx hb dC1_isType_22 (by decide) ?_
        refine lv_goto (tgt := 27) hx hb dC1_isType_23 (by decide) ?_
        exact hend _ _ _ (Option.some.inj h) rfl dC1_isType_27
set_option maxHeartbeats 4000000 in
set_option maxRecDepth 100000 in
theorem kC1_isType (l : Launch) (dC : Nat → ClassId) (dI : Nat → Nat → Nat) (ad : Nat → Nat) (cA : Nat → ClassId) (σ : xSt) (x1 : Int32) (r : Int32) (h : fC1_isType σ x1 = some r) : Met l yC1_isType wsC1_isType rm_C1_isType (va_Pc [.ref (ad 1), .int (x1)] (fun U => va_P (dC, dI) vwC (xW ad cA σ) U.heap ∧ va_K (dC, dI) vwC (xT cA) U)) (vp_Si (fun v => v = r)) 0 0 (fun _ => False) := by
  refine Met.ofW (cc := cC1_isType) (maxL := 2) (ret := (some .boolean)) (by decide) rfl ?_
  intro p e s m args below meth c s₁ B hml hv
  obtain ⟨rfl, hP, hK⟩ := hv
  have hr := B.returns
  have hlocks := B.notSynchronized
  have hl := lv_entry ([.ref (ad 1), .int (x1)]) (n := 2) (Nat.le_of_ble_eq_true rfl)
  rw [lg_entry_eq]
  exact wC1_isType ⟨B.exec, B.bytes, hml, findClass_of_methodNamed B.named, fun w h => atoms_spec (ws := wsC1_isType) B.pre w (List.mem_cons_of_mem _ h)⟩ hK hP (fun v pc ls hv hn hd => W.zret (v := v) B.exec B.bytes hr hn (fun t ht hW => ⟨v, rfl, hv, ht⟩) (fun q hq => absurd hq List.not_mem_nil) hd) _ hl h
abbrev rm_C1_isPrimitive : Room := { frames := 0, cells := 0, slots := 0, locals := 0 }
def fC1_isPrimitive (σ : xSt) (x1 : Int32) : Option Int32 :=
  if x1 < 0 then
    some (0 : Int32)
  else
    if (3 : Int32) < x1 then
      some (0 : Int32)
    else
      some (1 : Int32)
set_option maxHeartbeats 4000000 in
set_option maxRecDepth 100000 in
theorem wC1_isPrimitive {p : Program} {l : Launch} {e : Env} {s : State} {m : MethodId} {args : Array Value} {below : List Frame} {meth : Method} {c : Code} {Q : State → Prop} {dC : Nat → ClassId} {dI : Nat → Nat → Nat} {ad : Nat → Nat} {cA : Nat → ClassId} {r : Int32} {H : Heap} {locs : List Loc} {σ : xSt} (C : CallFix p m c cC1_isPrimitive 2 s args wAll RC1) (hK : va_K (dC, dI) vwC (xT cA) s) (hP : va_P (dC, dI) vwC (xW ad cA σ) H) (hend : ∀ (v : Int32) (pc : Nat) (ls : Array Slot), v = r → narrow .boolean (.int v) = .int v → decode cC1_isPrimitive pc = .ok (.ireturn, 1) → W p l e rm_C1_isPrimitive s m args below meth c H locs 0 0 Q (F0 m pc ls [.int v])) {x1 : Int32} (ls : Array Slot) (hl : lv_has ls 2 [(0, .ref (ad 1)), (1, .int (x1))]) (h : fC1_isPrimitive σ x1 = some r) : W p l e rm_C1_isPrimitive s m args below meth c H locs 0 0 Q (F0 m 0 ls []) := by
  obtain ⟨hx, hb, hml, hown, hts⟩ := id C
  unfold fC1_isPrimitive at h
  refine lv_iload_n hx hb dC1_isPrimitive_0 rfl (lv_at hl 1 rfl) ?_
  refine lv_if_lt (tgt := 13) hx hb dC1_isPrimitive_1 (by decide) (fun c2 => ?_) (fun c2 => ?_)
  · have h := (if_pos c2).symm.trans h
    refine lv_iconst (v := (0 : Int32)) hx hb dC1_isPrimitive_13 (by decide) ?_
    exact hend _ _ _ (Option.some.inj h) rfl dC1_isPrimitive_14
  · have h := (if_neg c2).symm.trans h
    refine lv_iload_n hx hb dC1_isPrimitive_4 rfl (lv_at hl 1 rfl) ?_
    refine lv_iconst (v := (3 : Int32)) hx hb dC1_isPrimitive_5 (by decide) ?_
    refine lv_icmp_gt (tgt := 13) hx hb dC1_isPrimitive_6 (by decide) (fun c1 => ?_) (fun c1 => ?_)
    · have h := (if_pos c1).symm.trans h
      refine lv_iconst (v := (0 : Int32)) hx hb dC1_isPrimitive_13 (by decide) ?_
      exact hend _ _ _ (Option.some.inj h) rfl dC1_isPrimitive_14
    · have h := (if_neg c1).symm.trans h
      refine lv_iconst (v := (1 : Int32)) hx hb dC1_isPrimitive_9 (by decide) ?_
      refine lv_goto (tgt := 14) hx hb dC1_isPrimitive_10 (by decide) ?_
      exact hend _ _ _ (Option.some.inj h) rfl dC1_isPrimitive_14
set_option maxHeartbeats 4000000 in
set_option maxRecDepth 100000 in
theorem kC1_isPrimitive (l : Launch) (dC : Nat → ClassId) (dI : Nat → Nat → Nat) (ad : Nat → Nat) (cA : Nat → ClassId) (σ : xSt) (x1 : Int32) (r : Int32) (h : fC1_isPrimitive σ x1 = some r) : Met l yC1_isPrimitive wsC1_isPrimitive rm_C1_isPrimitive (va_Pc [.ref (ad 1), .int (x1)] (fun U => va_P (dC, dI) vwC (xW ad cA σ) U.heap ∧ va_K (dC, dI) vwC (xT cA) U)) (vp_Si (fun v => v = r)) 0 0 (fun _ => False) := by
  refine Met.ofW (cc := cC1_isPrimitive) (maxL := 2) (ret := (some .boolean)) (by decide) rfl ?_
  intro p e s m args below meth c s₁ B hml hv
  obtain ⟨rfl, hP, hK⟩ := hv
  have hr := B.returns
  have hlocks := B.notSynchronized
  have hl := lv_entry ([.ref (ad 1), .int (x1)]) (n := 2) (Nat.le_of_ble_eq_true rfl)
  rw [lg_entry_eq]
  exact wC1_isPrimitive ⟨B.exec, B.bytes, hml, findClass_of_methodNamed B.named, fun w h => atoms_spec (ws := wsC1_isPrimitive) B.pre w (List.mem_cons_of_mem _ h)⟩ hK hP (fun v pc ls hv hn hd => W.zret (v := v) B.exec B.bytes hr hn (fun t ht hW => ⟨v, rfl, hv, ht⟩) (fun q hq => absurd hq List.not_mem_nil) hd) _ hl h
abbrev rm_C1_accepts : Room := { frames := 1, cells := 0, slots := 0, locals := 25 }
def fC1_accepts_b35 (σ : xSt) (x1 : Int32) (x2 : Int32) (x3 : Int32) (x4 : Int32) : Option Int32 :=
  (fC1_isA σ x1 x2).bind fun v2 =>
  if v2 = 0 then
    if x3 = 0 then
      some (0 : Int32)
    else
      (fC1_isA σ x4 x2).bind fun v3 =>
      if v3 = 0 then
        some (0 : Int32)
      else
        some (1 : Int32)
  else
    some (1 : Int32)
set_option maxHeartbeats 4000000 in
set_option maxRecDepth 100000 in
theorem wC1_accepts_b35 {p : Program} {l : Launch} {e : Env} {s : State} {m : MethodId} {args : Array Value} {below : List Frame} {meth : Method} {c : Code} {Q : State → Prop} {dC : Nat → ClassId} {dI : Nat → Nat → Nat} {ad : Nat → Nat} {cA : Nat → ClassId} {r : Int32} {H : Heap} {locs : List Loc} {σ : xSt} (C : CallFix p m c cC1_accepts 5 s args wAll RC1) (hK : va_K (dC, dI) vwC (xT cA) s) (hP : va_P (dC, dI) vwC (xW ad cA σ) H) (hend : ∀ (v : Int32) (pc : Nat) (ls : Array Slot), v = r → narrow .boolean (.int v) = .int v → decode cC1_accepts pc = .ok (.ireturn, 1) → W p l e rm_C1_accepts s m args below meth c H locs 0 0 Q (F0 m pc ls [.int v])) :
    ∀ (x1 : Int32) (x2 : Int32) (x3 : Int32) (x4 : Int32) (ls : Array Slot), lv_has ls 5 [(0, .ref (ad 1)), (1, .int (x1)), (2, .int (x2)), (3, .int (x3)), (4, .int (x4))] → fC1_accepts_b35 σ x1 x2 x3 x4 = some r → W p l e rm_C1_accepts s m args below meth c H locs 0 0 Q (F0 m 35 ls []) := by
  obtain ⟨hx, hb, hml, hown, hts⟩ := id C
  intro x1 x2 x3 x4 ls hl h
  unfold fC1_accepts_b35 at h
  refine lv_aload_n hx hb dC1_accepts_35 rfl (lv_at hl 0 rfl) ?_
  refine lv_iload_n hx hb dC1_accepts_36 rfl (lv_at hl 1 rfl) ?_
  refine lv_iload_n hx hb dC1_accepts_37 rfl (lv_at hl 2 rfl) ?_
  obtain ⟨v2, ev2, h⟩ := Option.bind_eq_some_iff.mp h
  refine gcall_r (b := ad 1) (As := [.int (x1), .int (x2)]) (rest := []) C hK hP (ci := 1) (q0 := 1) rfl rfl (kC1_isA l dC dI ad cA σ x1 x2 v2 ev2) (cwV 2 hts (gw mw_27 mw_28 mw_29 mw_7 mw_30) rfl rfl rfl hdC1_isA ⟨Nat.le_of_ble_eq_true rfl, Nat.le_of_ble_eq_true rfl⟩) rfl hl.1 rfl (Nat.le_of_ble_eq_true rfl) dC1_accepts_38 ⟨Nat.le_refl _, Nat.le_refl _⟩ ?_
  refine lv_if_ne (tgt := 58) hx hb dC1_accepts_41 (by decide) (fun c6 => ?_) (fun c6 => ?_)
  · have h := (if_neg c6).symm.trans h
    refine lv_iconst (v := (1 : Int32)) hx hb dC1_accepts_58 (by decide) ?_
    refine lv_goto (tgt := 63) hx hb dC1_accepts_59 (by decide) ?_
    exact hend _ _ _ (Option.some.inj h) rfl dC1_accepts_63
  · have h := (if_pos c6).symm.trans h
    refine lv_iload_n hx hb dC1_accepts_44 rfl (lv_at hl 3 rfl) ?_
    refine lv_if_eq (tgt := 62) hx hb dC1_accepts_45 (by decide) (fun c5 => ?_) (fun c5 => ?_)
    · have h := (if_pos c5).symm.trans h
      refine lv_iconst (v := (0 : Int32)) hx hb dC1_accepts_62 (by decide) ?_
      exact hend _ _ _ (Option.some.inj h) rfl dC1_accepts_63
    · have h := (if_neg c5).symm.trans h
      refine lv_aload_n hx hb dC1_accepts_48 rfl (lv_at hl 0 rfl) ?_
      refine lv_iload hx hb dC1_accepts_49 (lv_at hl 4 rfl) ?_
      refine lv_iload_n hx hb dC1_accepts_51 rfl (lv_at hl 2 rfl) ?_
      obtain ⟨v3, ev3, h⟩ := Option.bind_eq_some_iff.mp h
      refine gcall_r (b := ad 1) (As := [.int (x4), .int (x2)]) (rest := []) C hK hP (ci := 1) (q0 := 1) rfl rfl (kC1_isA l dC dI ad cA σ x4 x2 v3 ev3) (cwV 2 hts (gw mw_27 mw_28 mw_29 mw_7 mw_30) rfl rfl rfl hdC1_isA ⟨Nat.le_of_ble_eq_true rfl, Nat.le_of_ble_eq_true rfl⟩) rfl hl.1 rfl (Nat.le_of_ble_eq_true rfl) dC1_accepts_52 ⟨Nat.le_refl _, Nat.le_refl _⟩ ?_
      refine lv_if_eq (tgt := 62) hx hb dC1_accepts_55 (by decide) (fun c4 => ?_) (fun c4 => ?_)
      · have h := (if_pos c4).symm.trans h
        refine lv_iconst (v := (0 : Int32)) hx hb dC1_accepts_62 (by decide) ?_
        exact hend _ _ _ (Option.some.inj h) rfl dC1_accepts_63
      · have h := (if_neg c4).symm.trans h
        refine lv_iconst (v := (1 : Int32)) hx hb dC1_accepts_58 (by decide) ?_
        refine lv_goto (tgt := 63) hx hb dC1_accepts_59 (by decide) ?_
        exact hend _ _ _ (Option.some.inj h) rfl dC1_accepts_63
def fC1_accepts (σ : xSt) (x1 : Int32) (x2 : Int32) (x3 : Int32) : Option Int32 :=
  (fC1_isPrimitive σ x1).bind fun v1 =>
  if v1 = 0 then
    if x1 < (4 : Int32) then
      fC1_accepts_b35 σ x1 x2 x3 x1
    else
      if (7 : Int32) < x1 then
        fC1_accepts_b35 σ x1 x2 x3 x1
      else
        nm (x1 - (4 : Int32)) fun y7 =>
        fC1_accepts_b35 σ x1 x2 x3 y7
  else
    nm (x1 + (4 : Int32)) fun y10 =>
    fC1_accepts_b35 σ x1 x2 x3 y10
set_option maxHeartbeats 4000000 in
set_option maxRecDepth 100000 in
theorem wC1_accepts {p : Program} {l : Launch} {e : Env} {s : State} {m : MethodId} {args : Array Value} {below : List Frame} {meth : Method} {c : Code} {Q : State → Prop} {dC : Nat → ClassId} {dI : Nat → Nat → Nat} {ad : Nat → Nat} {cA : Nat → ClassId} {r : Int32} {H : Heap} {locs : List Loc} {σ : xSt} (C : CallFix p m c cC1_accepts 5 s args wAll RC1) (hK : va_K (dC, dI) vwC (xT cA) s) (hP : va_P (dC, dI) vwC (xW ad cA σ) H) (hend : ∀ (v : Int32) (pc : Nat) (ls : Array Slot), v = r → narrow .boolean (.int v) = .int v → decode cC1_accepts pc = .ok (.ireturn, 1) → W p l e rm_C1_accepts s m args below meth c H locs 0 0 Q (F0 m pc ls [.int v])) {x1 : Int32} {x2 : Int32} {x3 : Int32} (ls : Array Slot) (hl : lv_has ls 5 [(0, .ref (ad 1)), (1, .int (x1)), (2, .int (x2)), (3, .int (x3))]) (h : fC1_accepts σ x1 x2 x3 = some r) : W p l e rm_C1_accepts s m args below meth c H locs 0 0 Q (F0 m 0 ls []) := by
  obtain ⟨hx, hb, hml, hown, hts⟩ := id C
  unfold fC1_accepts at h
  refine lv_iload_n hx hb dC1_accepts_0 rfl (lv_at hl 1 rfl) ?_
  refine lv_istore (lv' := [(4, .int (x1)), (0, .ref (ad 1)), (1, .int (x1)), (2, .int (x2)), (3, .int (x3))]) hx hb dC1_accepts_1 hl (by decide) rfl (fun ls hl => ?_)
  refine lv_aload_n hx hb dC1_accepts_3 rfl (lv_at hl 1 rfl) ?_
  refine lv_iload_n hx hb dC1_accepts_4 rfl (lv_at hl 2 rfl) ?_
  obtain ⟨v1, ev1, h⟩ := Option.bind_eq_some_iff.mp h
  refine gcall_r (b := ad 1) (As := [.int (x1)]) (rest := []) C hK hP (ci := 1) (q0 := 1) rfl rfl (kC1_isPrimitive l dC dI ad cA σ x1 v1 ev1) (cwV 1 hts (gw mw_127 mw_128 mw_129 mw_7 mw_130) rfl rfl rfl hdC1_isPrimitive ⟨Nat.le_of_ble_eq_true rfl, Nat.le_of_ble_eq_true rfl⟩) rfl hl.1 rfl (Nat.le_of_ble_eq_true rfl) dC1_accepts_5 ⟨Nat.le_refl _, Nat.le_refl _⟩ ?_
  refine lv_if_eq (tgt := 19) hx hb dC1_accepts_8 (by decide) (fun c11 => ?_) (fun c11 => ?_)
  · have h := (if_pos c11).symm.trans h
    refine lv_iload_n hx hb dC1_accepts_19 rfl (lv_at hl 2 rfl) ?_
    refine lv_iconst (v := (4 : Int32)) hx hb dC1_accepts_20 (by decide) ?_
    refine lv_icmp_lt (tgt := 35) hx hb dC1_accepts_21 (by decide) (fun c9 => ?_) (fun c9 => ?_)
    · have h := (if_pos c9).symm.trans h
      exact wC1_accepts_b35 C hK hP hend _ _ _ _ _ (lv_sub hl [1, 2, 3, 4, 0] rfl) h
    · have h := (if_neg c9).symm.trans h
      refine lv_iload_n hx hb dC1_accepts_24 rfl (lv_at hl 2 rfl) ?_
      refine lv_bipush (v := (7 : Int32)) hx hb dC1_accepts_25 (by decide) ?_
      refine lv_icmp_gt (tgt := 35) hx hb dC1_accepts_27 (by decide) (fun c8 => ?_) (fun c8 => ?_)
      · have h := (if_pos c8).symm.trans h
        exact wC1_accepts_b35 C hK hP hend _ _ _ _ _ (lv_sub hl [1, 2, 3, 4, 0] rfl) h
      · have h := (if_neg c8).symm.trans h
        refine lv_iload_n hx hb dC1_accepts_30 rfl (lv_at hl 2 rfl) ?_
        refine lv_iconst (v := (4 : Int32)) hx hb dC1_accepts_31 (by decide) ?_
        refine lv_isub hx hb dC1_accepts_32 ?_
        refine lv_topi (fun y7 ey7 => ?_)
        have h := nm_at ey7 h
        refine lv_istore (lv' := [(4, .int (y7)), (0, .ref (ad 1)), (1, .int (x1)), (2, .int (x2)), (3, .int (x3))]) hx hb dC1_accepts_33 hl (by decide) rfl (fun ls hl => ?_)
        exact wC1_accepts_b35 C hK hP hend _ _ _ _ _ (lv_sub hl [1, 2, 3, 4, 0] rfl) h
  · have h := (if_neg c11).symm.trans h
    refine lv_iload_n hx hb dC1_accepts_11 rfl (lv_at hl 2 rfl) ?_
    refine lv_iconst (v := (4 : Int32)) hx hb dC1_accepts_12 (by decide) ?_
    refine lv_iadd hx hb dC1_accepts_13 ?_
    refine lv_topi (fun y10 ey10 => ?_)
    have h := nm_at ey10 h
    refine lv_istore (lv' := [(4, .int (y10)), (0, .ref (ad 1)), (1, .int (x1)), (2, .int (x2)), (3, .int (x3))]) hx hb dC1_accepts_14 hl (by decide) rfl (fun ls hl => ?_)
    refine lv_goto (tgt := 35) hx hb dC1_accepts_16 (by decide) ?_
    exact wC1_accepts_b35 C hK hP hend _ _ _ _ _ (lv_sub hl [1, 2, 3, 4, 0] rfl) h
set_option maxHeartbeats 4000000 in
set_option maxRecDepth 100000 in
theorem kC1_accepts (l : Launch) (dC : Nat → ClassId) (dI : Nat → Nat → Nat) (ad : Nat → Nat) (cA : Nat → ClassId) (σ : xSt) (x1 : Int32) (x2 : Int32) (x3 : Int32) (r : Int32) (h : fC1_accepts σ x1 x2 x3 = some r) : Met l yC1_accepts wsC1_accepts rm_C1_accepts (va_Pc [.ref (ad 1), .int (x1), .int (x2), .int (x3)] (fun U => va_P (dC, dI) vwC (xW ad cA σ) U.heap ∧ va_K (dC, dI) vwC (xT cA) U)) (vp_Si (fun v => v = r)) 0 0 (fun _ => False) := by
  refine Met.ofW (cc := cC1_accepts) (maxL := 5) (ret := (some .boolean)) (by decide) rfl ?_
  intro p e s m args below meth c s₁ B hml hv
  obtain ⟨rfl, hP, hK⟩ := hv
  have hr := B.returns
  have hlocks := B.notSynchronized
  have hl := lv_entry ([.ref (ad 1), .int (x1), .int (x2), .int (x3)]) (n := 5) (Nat.le_of_ble_eq_true rfl)
  rw [lg_entry_eq]
  exact wC1_accepts ⟨B.exec, B.bytes, hml, findClass_of_methodNamed B.named, fun w h => atoms_spec (ws := wsC1_accepts) B.pre w (List.mem_cons_of_mem _ h)⟩ hK hP (fun v pc ls hv hn hd => W.zret (v := v) B.exec B.bytes hr hn (fun t ht hW => ⟨v, rfl, hv, ht⟩) (fun q hq => absurd hq List.not_mem_nil) hd) _ hl h
abbrev rm_C0_is : Room := { frames := 4, cells := 0, slots := 0, locals := 84 }
def fC0_is (σ : xSt) (x1 : Int32) (x2 : Int32) : Option Int32 :=
  (fC1_isType σ x1).bind fun v1 =>
  if v1 = 0 then
    some (-2 : Int32)
  else
    (fC1_isType σ x2).bind fun v2 =>
    if v2 = 0 then
      some (-2 : Int32)
    else
      (fC1_accepts σ x1 x2 (0 : Int32)).bind fun v3 =>
      if v3 = 0 then
        some (0 : Int32)
      else
        some (1 : Int32)
set_option maxHeartbeats 4000000 in
set_option maxRecDepth 100000 in
theorem wC0_is {p : Program} {l : Launch} {e : Env} {s : State} {m : MethodId} {args : Array Value} {below : List Frame} {meth : Method} {c : Code} {Q : State → Prop} {dC : Nat → ClassId} {dI : Nat → Nat → Nat} {ad : Nat → Nat} {cA : Nat → ClassId} {r : Int32} {H : Heap} {locs : List Loc} {σ : xSt} (C : CallFix p m c cC0_is 3 s args wAll RC0) (hK : va_K (dC, dI) vwC (xT cA) s) (hP : va_P (dC, dI) vwC (xW ad cA σ) H) (hend : ∀ (v : Int32) (pc : Nat) (ls : Array Slot), v = r → decode cC0_is pc = .ok (.ireturn, 1) → W p l e rm_C0_is s m args below meth c H locs 0 0 Q (F0 m pc ls [.int v])) {x1 : Int32} {x2 : Int32} (ls : Array Slot) (hl : lv_has ls 3 [(0, .ref (ad 0)), (1, .int (x1)), (2, .int (x2))]) (h : fC0_is σ x1 x2 = some r) : W p l e rm_C0_is s m args below meth c H locs 0 0 Q (F0 m 0 ls []) := by
  obtain ⟨hx, hb, hml, hown, hts⟩ := id C
  unfold fC0_is at h
  refine lv_aload_n hx hb dC0_is_0 rfl (lv_at hl 0 rfl) ?_
  refine va_get (D := (dC, dI)) (ci := 0) (v := .ref (ad 1)) (C := RC0) (T := TC0) (N := 5) hx hb hts inC0 hown hK hP 0 rfl rfl 0 (by decide) (hts _ mw_0) (fun _ h9 => h9) rfl dC0_is_1 ?_
  refine lv_iload_n hx hb dC0_is_4 rfl (lv_at hl 1 rfl) ?_
  obtain ⟨v1, ev1, h⟩ := Option.bind_eq_some_iff.mp h
  refine gcall_r (b := ad 1) (As := [.int (x1)]) (rest := []) C hK hP (ci := 1) (q0 := 1) rfl rfl (kC1_isType l dC dI ad cA σ x1 v1 ev1) (cwV 1 hts (gw mw_123 mw_124 mw_125 mw_7 mw_126) rfl rfl rfl hdC1_isType ⟨Nat.le_of_ble_eq_true rfl, Nat.le_of_ble_eq_true rfl⟩) rfl hl.1 rfl (Nat.le_of_ble_eq_true rfl) dC0_is_5 ⟨Nat.le_refl _, Nat.le_refl _⟩ ?_
  refine lv_if_eq (tgt := 22) hx hb dC0_is_8 (by decide) (fun c6 => ?_) (fun c6 => ?_)
  · have h := (if_pos c6).symm.trans h
    refine lv_bipush (v := (-2 : Int32)) hx hb dC0_is_22 (by decide) ?_
    exact hend _ _ _ (Option.some.inj h) dC0_is_24
  · have h := (if_neg c6).symm.trans h
    refine lv_aload_n hx hb dC0_is_11 rfl (lv_at hl 0 rfl) ?_
    refine va_get (D := (dC, dI)) (ci := 0) (v := .ref (ad 1)) (C := RC0) (T := TC0) (N := 5) hx hb hts inC0 hown hK hP 0 rfl rfl 0 (by decide) (hts _ mw_0) (fun _ h9 => h9) rfl dC0_is_12 ?_
    refine lv_iload_n hx hb dC0_is_15 rfl (lv_at hl 2 rfl) ?_
    obtain ⟨v2, ev2, h⟩ := Option.bind_eq_some_iff.mp h
    refine gcall_r (b := ad 1) (As := [.int (x2)]) (rest := []) C hK hP (ci := 1) (q0 := 1) rfl rfl (kC1_isType l dC dI ad cA σ x2 v2 ev2) (cwV 1 hts (gw mw_123 mw_124 mw_125 mw_7 mw_126) rfl rfl rfl hdC1_isType ⟨Nat.le_of_ble_eq_true rfl, Nat.le_of_ble_eq_true rfl⟩) rfl hl.1 rfl (Nat.le_of_ble_eq_true rfl) dC0_is_16 ⟨Nat.le_refl _, Nat.le_refl _⟩ ?_
    refine lv_if_ne (tgt := 25) hx hb dC0_is_19 (by decide) (fun c5 => ?_) (fun c5 => ?_)
    · have h := (if_neg c5).symm.trans h
      refine lv_aload_n hx hb dC0_is_25 rfl (lv_at hl 0 rfl) ?_
      refine va_get (D := (dC, dI)) (ci := 0) (v := .ref (ad 1)) (C := RC0) (T := TC0) (N := 5) hx hb hts inC0 hown hK hP 0 rfl rfl 0 (by decide) (hts _ mw_0) (fun _ h9 => h9) rfl dC0_is_26 ?_
      refine lv_iload_n hx hb dC0_is_29 rfl (lv_at hl 1 rfl) ?_
      refine lv_iload_n hx hb dC0_is_30 rfl (lv_at hl 2 rfl) ?_
      refine lv_iconst (v := (0 : Int32)) hx hb dC0_is_31 (by decide) ?_
      obtain ⟨v3, ev3, h⟩ := Option.bind_eq_some_iff.mp h
      refine gcall_r (b := ad 1) (As := [.int (x1), .int (x2), .int ((0 : Int32))]) (rest := []) C hK hP (ci := 1) (q0 := 1) rfl rfl (kC1_accepts l dC dI ad cA σ x1 x2 (0 : Int32) v3 ev3) (cwV 3 hts (gw mw_131 mw_132 mw_133 mw_7 mw_134) rfl rfl rfl hdC1_accepts ⟨Nat.le_of_ble_eq_true rfl, Nat.le_of_ble_eq_true rfl⟩) rfl hl.1 rfl (Nat.le_of_ble_eq_true rfl) dC0_is_32 ⟨Nat.le_refl _, Nat.le_refl _⟩ ?_
      refine lv_if_eq (tgt := 42) hx hb dC0_is_35 (by decide) (fun c4 => ?_) (fun c4 => ?_)
      · have h := (if_pos c4).symm.trans h
        refine lv_iconst (v := (0 : Int32)) hx hb dC0_is_42 (by decide) ?_
        exact hend _ _ _ (Option.some.inj h) dC0_is_43
      · have h := (if_neg c4).symm.trans h
        refine lv_iconst (v := (1 : Int32)) hx hb dC0_is_38 (by decide) ?_
        refine lv_goto (tgt := 43) hx hb dC0_is_39 (by decide) ?_
        exact hend _ _ _ (Option.some.inj h) dC0_is_43
    · have h := (if_pos c5).symm.trans h
      refine lv_bipush (v := (-2 : Int32)) hx hb dC0_is_22 (by decide) ?_
      exact hend _ _ _ (Option.some.inj h) dC0_is_24
set_option maxHeartbeats 4000000 in
set_option maxRecDepth 100000 in
theorem kC0_is (l : Launch) (dC : Nat → ClassId) (dI : Nat → Nat → Nat) (ad : Nat → Nat) (cA : Nat → ClassId) (σ : xSt) (x1 : Int32) (x2 : Int32) (r : Int32) (h : fC0_is σ x1 x2 = some r) : Met l yC0_is wsC0_is rm_C0_is (va_Pc [.ref (ad 0), .int (x1), .int (x2)] (fun U => va_P (dC, dI) vwC (xW ad cA σ) U.heap ∧ va_K (dC, dI) vwC (xT cA) U)) (vp_Si (fun v => v = r)) 0 0 (fun _ => False) := by
  refine Met.ofW (cc := cC0_is) (maxL := 3) (ret := (some .int)) (by decide) rfl ?_
  intro p e s m args below meth c s₁ B hml hv
  obtain ⟨rfl, hP, hK⟩ := hv
  have hr := B.returns
  have hlocks := B.notSynchronized
  have hl := lv_entry ([.ref (ad 0), .int (x1), .int (x2)]) (n := 3) (Nat.le_of_ble_eq_true rfl)
  rw [lg_entry_eq]
  exact wC0_is ⟨B.exec, B.bytes, hml, findClass_of_methodNamed B.named, fun w h => atoms_spec (ws := wsC0_is) B.pre w (List.mem_cons_of_mem _ h)⟩ hK hP (fun v pc ls hv hd => W.iret (v := v) B.exec B.bytes hr (fun t ht hW => ⟨v, rfl, hv, ht⟩) (fun q hq => absurd hq List.not_mem_nil) hd) _ hl h
abbrev rm_C0_fits : Room := { frames := 4, cells := 0, slots := 0, locals := 84 }
def fC0_fits (σ : xSt) (x1 : Int32) (x2 : Int32) : Option Int32 :=
  (fC1_isType σ x1).bind fun v1 =>
  if v1 = 0 then
    some (-2 : Int32)
  else
    (fC1_isType σ x2).bind fun v2 =>
    if v2 = 0 then
      some (-2 : Int32)
    else
      (fC1_accepts σ x1 x2 (1 : Int32)).bind fun v3 =>
      if v3 = 0 then
        some (0 : Int32)
      else
        some (1 : Int32)
set_option maxHeartbeats 4000000 in
set_option maxRecDepth 100000 in
theorem wC0_fits {p : Program} {l : Launch} {e : Env} {s : State} {m : MethodId} {args : Array Value} {below : List Frame} {meth : Method} {c : Code} {Q : State → Prop} {dC : Nat → ClassId} {dI : Nat → Nat → Nat} {ad : Nat → Nat} {cA : Nat → ClassId} {r : Int32} {H : Heap} {locs : List Loc} {σ : xSt} (C : CallFix p m c cC0_fits 3 s args wAll RC0) (hK : va_K (dC, dI) vwC (xT cA) s) (hP : va_P (dC, dI) vwC (xW ad cA σ) H) (hend : ∀ (v : Int32) (pc : Nat) (ls : Array Slot), v = r → decode cC0_fits pc = .ok (.ireturn, 1) → W p l e rm_C0_fits s m args below meth c H locs 0 0 Q (F0 m pc ls [.int v])) {x1 : Int32} {x2 : Int32} (ls : Array Slot) (hl : lv_has ls 3 [(0, .ref (ad 0)), (1, .int (x1)), (2, .int (x2))]) (h : fC0_fits σ x1 x2 = some r) : W p l e rm_C0_fits s m args below meth c H locs 0 0 Q (F0 m 0 ls []) := by
  obtain ⟨hx, hb, hml, hown, hts⟩ := id C
  unfold fC0_fits at h
  refine lv_aload_n hx hb dC0_fits_0 rfl (lv_at hl 0 rfl) ?_
  refine va_get (D := (dC, dI)) (ci := 0) (v := .ref (ad 1)) (C := RC0) (T := TC0) (N := 5) hx hb hts inC0 hown hK hP 0 rfl rfl 0 (by decide) (hts _ mw_0) (fun _ h9 => h9) rfl dC0_fits_1 ?_
  refine lv_iload_n hx hb dC0_fits_4 rfl (lv_at hl 1 rfl) ?_
  obtain ⟨v1, ev1, h⟩ := Option.bind_eq_some_iff.mp h
  refine gcall_r (b := ad 1) (As := [.int (x1)]) (rest := []) C hK hP (ci := 1) (q0 := 1) rfl rfl (kC1_isType l dC dI ad cA σ x1 v1 ev1) (cwV 1 hts (gw mw_123 mw_124 mw_125 mw_7 mw_126) rfl rfl rfl hdC1_isType ⟨Nat.le_of_ble_eq_true rfl, Nat.le_of_ble_eq_true rfl⟩) rfl hl.1 rfl (Nat.le_of_ble_eq_true rfl) dC0_fits_5 ⟨Nat.le_refl _, Nat.le_refl _⟩ ?_
  refine lv_if_eq (tgt := 22) hx hb dC0_fits_8 (by decide) (fun c6 => ?_) (fun c6 => ?_)
  · have h := (if_pos c6).symm.trans h
    refine lv_bipush (v := (-2 : Int32)) hx hb dC0_fits_22 (by decide) ?_
    exact hend _ _ _ (Option.some.inj h) dC0_fits_24
  · have h := (if_neg c6).symm.trans h
    refine lv_aload_n hx hb dC0_fits_11 rfl (lv_at hl 0 rfl) ?_
    refine va_get (D := (dC, dI)) (ci := 0) (v := .ref (ad 1)) (C := RC0) (T := TC0) (N := 5) hx hb hts inC0 hown hK hP 0 rfl rfl 0 (by decide) (hts _ mw_0) (fun _ h9 => h9) rfl dC0_fits_12 ?_
    refine lv_iload_n hx hb dC0_fits_15 rfl (lv_at hl 2 rfl) ?_
    obtain ⟨v2, ev2, h⟩ := Option.bind_eq_some_iff.mp h
    refine gcall_r (b := ad 1) (As := [.int (x2)]) (rest := []) C hK hP (ci := 1) (q0 := 1) rfl rfl (kC1_isType l dC dI ad cA σ x2 v2 ev2) (cwV 1 hts (gw mw_123 mw_124 mw_125 mw_7 mw_126) rfl rfl rfl hdC1_isType ⟨Nat.le_of_ble_eq_true rfl, Nat.le_of_ble_eq_true rfl⟩) rfl hl.1 rfl (Nat.le_of_ble_eq_true rfl) dC0_fits_16 ⟨Nat.le_refl _, Nat.le_refl _⟩ ?_
    refine lv_if_ne (tgt := 25) hx hb dC0_fits_19 (by decide) (fun c5 => ?_) (fun c5 => ?_)
    · have h := (if_neg c5).symm.trans h
      refine lv_aload_n hx hb dC0_fits_25 rfl (lv_at hl 0 rfl) ?_
      refine va_get (D := (dC, dI)) (ci := 0) (v := .ref (ad 1)) (C := RC0) (T := TC0) (N := 5) hx hb hts inC0 hown hK hP 0 rfl rfl 0 (by decide) (hts _ mw_0) (fun _ h9 => h9) rfl dC0_fits_26 ?_
      refine lv_iload_n hx hb dC0_fits_29 rfl (lv_at hl 1 rfl) ?_
      refine lv_iload_n hx hb dC0_fits_30 rfl (lv_at hl 2 rfl) ?_
      refine lv_iconst (v := (1 : Int32)) hx hb dC0_fits_31 (by decide) ?_
      obtain ⟨v3, ev3, h⟩ := Option.bind_eq_some_iff.mp h
      refine gcall_r (b := ad 1) (As := [.int (x1), .int (x2), .int ((1 : Int32))]) (rest := []) C hK hP (ci := 1) (q0 := 1) rfl rfl (kC1_accepts l dC dI ad cA σ x1 x2 (1 : Int32) v3 ev3) (cwV 3 hts (gw mw_131 mw_132 mw_133 mw_7 mw_134) rfl rfl rfl hdC1_accepts ⟨Nat.le_of_ble_eq_true rfl, Nat.le_of_ble_eq_true rfl⟩) rfl hl.1 rfl (Nat.le_of_ble_eq_true rfl) dC0_fits_32 ⟨Nat.le_refl _, Nat.le_refl _⟩ ?_
      refine lv_if_eq (tgt := 42) hx hb dC0_fits_35 (by decide) (fun c4 => ?_) (fun c4 => ?_)
      · have h := (if_pos c4).symm.trans h
        refine lv_iconst (v := (0 : Int32)) hx hb dC0_fits_42 (by decide) ?_
        exact hend _ _ _ (Option.some.inj h) dC0_fits_43
      · have h := (if_neg c4).symm.trans h
        refine lv_iconst (v := (1 : Int32)) hx hb dC0_fits_38 (by decide) ?_
        refine lv_goto (tgt := 43) hx hb dC0_fits_39 (by decide) ?_
        exact hend _ _ _ (Option.some.inj h) dC0_fits_43
    · have h := (if_pos c5).symm.trans h
      refine lv_bipush (v := (-2 : Int32)) hx hb dC0_fits_22 (by decide) ?_
      exact hend _ _ _ (Option.some.inj h) dC0_fits_24
set_option maxHeartbeats 4000000 in
set_option maxRecDepth 100000 in
theorem kC0_fits (l : Launch) (dC : Nat → ClassId) (dI : Nat → Nat → Nat) (ad : Nat → Nat) (cA : Nat → ClassId) (σ : xSt) (x1 : Int32) (x2 : Int32) (r : Int32) (h : fC0_fits σ x1 x2 = some r) : Met l yC0_fits wsC0_fits rm_C0_fits (va_Pc [.ref (ad 0), .int (x1), .int (x2)] (fun U => va_P (dC, dI) vwC (xW ad cA σ) U.heap ∧ va_K (dC, dI) vwC (xT cA) U)) (vp_Si (fun v => v = r)) 0 0 (fun _ => False) := by
  refine Met.ofW (cc := cC0_fits) (maxL := 3) (ret := (some .int)) (by decide) rfl ?_
  intro p e s m args below meth c s₁ B hml hv
  obtain ⟨rfl, hP, hK⟩ := hv
  have hr := B.returns
  have hlocks := B.notSynchronized
  have hl := lv_entry ([.ref (ad 0), .int (x1), .int (x2)]) (n := 3) (Nat.le_of_ble_eq_true rfl)
  rw [lg_entry_eq]
  exact wC0_fits ⟨B.exec, B.bytes, hml, findClass_of_methodNamed B.named, fun w h => atoms_spec (ws := wsC0_fits) B.pre w (List.mem_cons_of_mem _ h)⟩ hK hP (fun v pc ls hv hd => W.iret (v := v) B.exec B.bytes hr (fun t ht hW => ⟨v, rfl, hv, ht⟩) (fun q hq => absurd hq List.not_mem_nil) hd) _ hl h
abbrev rm_C1_size : Room := { frames := 0, cells := 0, slots := 0, locals := 0 }
def fC1_size (σ : xSt) : Option Int32 :=
  some (σ.1 1 3)
set_option maxHeartbeats 4000000 in
set_option maxRecDepth 100000 in
theorem wC1_size {p : Program} {l : Launch} {e : Env} {s : State} {m : MethodId} {args : Array Value} {below : List Frame} {meth : Method} {c : Code} {Q : State → Prop} {dC : Nat → ClassId} {dI : Nat → Nat → Nat} {ad : Nat → Nat} {cA : Nat → ClassId} {r : Int32} {H : Heap} {locs : List Loc} {σ : xSt} (C : CallFix p m c cC1_size 1 s args wAll RC1) (hK : va_K (dC, dI) vwC (xT cA) s) (hP : va_P (dC, dI) vwC (xW ad cA σ) H) (hend : ∀ (v : Int32) (pc : Nat) (ls : Array Slot), v = r → decode cC1_size pc = .ok (.ireturn, 1) → W p l e rm_C1_size s m args below meth c H locs 0 0 Q (F0 m pc ls [.int v])) (ls : Array Slot) (hl : lv_has ls 1 [(0, .ref (ad 1))]) (h : fC1_size σ = some r) : W p l e rm_C1_size s m args below meth c H locs 0 0 Q (F0 m 0 ls []) := by
  obtain ⟨hx, hb, hml, hown, hts⟩ := id C
  unfold fC1_size at h
  refine lv_aload_n hx hb dC1_size_0 rfl (lv_at hl 0 rfl) ?_
  refine va_get (D := (dC, dI)) (ci := 1) (v := .int (σ.1 1 3)) (C := RC1) (T := TC1) (N := 4) hx hb hts inC1 hown hK hP 1 rfl rfl 3 (by decide) (hts _ mw_1) (fun _ h9 => h9) rfl dC1_size_1 ?_
  exact hend _ _ _ (Option.some.inj h) dC1_size_4
set_option maxHeartbeats 4000000 in
set_option maxRecDepth 100000 in
theorem kC1_size (l : Launch) (dC : Nat → ClassId) (dI : Nat → Nat → Nat) (ad : Nat → Nat) (cA : Nat → ClassId) (σ : xSt) (r : Int32) (h : fC1_size σ = some r) : Met l yC1_size wsC1_size rm_C1_size (va_Pc [.ref (ad 1)] (fun U => va_P (dC, dI) vwC (xW ad cA σ) U.heap ∧ va_K (dC, dI) vwC (xT cA) U)) (vp_Si (fun v => v = r)) 0 0 (fun _ => False) := by
  refine Met.ofW (cc := cC1_size) (maxL := 1) (ret := (some .int)) (by decide) rfl ?_
  intro p e s m args below meth c s₁ B hml hv
  obtain ⟨rfl, hP, hK⟩ := hv
  have hr := B.returns
  have hlocks := B.notSynchronized
  have hl := lv_entry ([.ref (ad 1)]) (n := 1) (Nat.le_of_ble_eq_true rfl)
  rw [lg_entry_eq]
  exact wC1_size ⟨B.exec, B.bytes, hml, findClass_of_methodNamed B.named, fun w h => atoms_spec (ws := wsC1_size) B.pre w (List.mem_cons_of_mem _ h)⟩ hK hP (fun v pc ls hv hd => W.iret (v := v) B.exec B.bytes hr (fun t ht hW => ⟨v, rfl, hv, ht⟩) (fun q hq => absurd hq List.not_mem_nil) hd) _ hl h
abbrev rm_C2_overrides : Room := { frames := 1, cells := 0, slots := 0, locals := 25 }
def fC2_overrides_b23 (σ : xSt) (x1 : Int32) (x2 : Int32) (s0 : Int32) : Option Int32 :=
  if s0 = 0 then
    if x1 < 0 ∨ 61 ≤ x1.toNatClampNeg then none else
    if x2 < 0 ∨ 61 ≤ x2.toNatClampNeg then none else
    if (σ.1 10 x1.toNatClampNeg) = (σ.1 10 x2.toNatClampNeg) then
      if x1 < 0 ∨ 61 ≤ x1.toNatClampNeg then none else
      if x2 < 0 ∨ 61 ≤ x2.toNatClampNeg then none else
      if (σ.1 9 x1.toNatClampNeg) = (σ.1 9 x2.toNatClampNeg) then
        some (0 : Int32)
      else
        if x1 < 0 ∨ 61 ≤ x1.toNatClampNeg then none else
        if x2 < 0 ∨ 61 ≤ x2.toNatClampNeg then none else
        (fC1_isA σ (σ.1 9 x1.toNatClampNeg) (σ.1 9 x2.toNatClampNeg)).bind fun v9 =>
        if v9 = 0 then
          some (0 : Int32)
        else
          (fC2_sameParameters σ x1 x2).bind fun v10 =>
          if v10 = 0 then
            some (0 : Int32)
          else
            some (1 : Int32)
    else
      some (0 : Int32)
  else
    some (0 : Int32)
set_option maxHeartbeats 4000000 in
set_option maxRecDepth 100000 in
theorem wC2_overrides_b23 {p : Program} {l : Launch} {e : Env} {s : State} {m : MethodId} {args : Array Value} {below : List Frame} {meth : Method} {c : Code} {Q : State → Prop} {dC : Nat → ClassId} {dI : Nat → Nat → Nat} {ad : Nat → Nat} {cA : Nat → ClassId} {r : Int32} {H : Heap} {locs : List Loc} {σ : xSt} (C : CallFix p m c cC2_overrides 4 s args wAll RC2) (hK : va_K (dC, dI) vwC (xT cA) s) (hP : va_P (dC, dI) vwC (xW ad cA σ) H) (hend : ∀ (v : Int32) (pc : Nat) (ls : Array Slot), v = r → narrow .boolean (.int v) = .int v → decode cC2_overrides pc = .ok (.ireturn, 1) → W p l e rm_C2_overrides s m args below meth c H locs 0 0 Q (F0 m pc ls [.int v])) :
    ∀ (x1 : Int32) (x2 : Int32) (s0 : Int32) (ls : Array Slot), lv_has ls 4 [(0, .ref (ad 2)), (1, .int (x1)), (2, .int (x2))] → fC2_overrides_b23 σ x1 x2 s0 = some r → W p l e rm_C2_overrides s m args below meth c H locs 0 0 Q (F0 m 23 ls [.int (s0)]) := by
  obtain ⟨hx, hb, hml, hown, hts⟩ := id C
  intro x1 x2 s0 ls hl h
  unfold fC2_overrides_b23 at h
  refine lv_istore_n (lv' := [(3, .int (s0)), (0, .ref (ad 2)), (1, .int (x1)), (2, .int (x2))]) hx hb dC2_overrides_23 rfl hl (by decide) rfl (fun ls hl => ?_)
  refine lv_iload_n hx hb dC2_overrides_24 rfl (lv_at hl 0 rfl) ?_
  refine lv_if_ne (tgt := 58) hx hb dC2_overrides_25 (by decide) (fun c15 => ?_) (fun c15 => ?_)
  · have h := (if_neg c15).symm.trans h
    refine lv_iconst (v := (0 : Int32)) hx hb dC2_overrides_58 (by decide) ?_
    exact hend _ _ _ (Option.some.inj h) rfl dC2_overrides_59
  · have h := (if_pos c15).symm.trans h
    refine lv_aload_n hx hb dC2_overrides_28 rfl (lv_at hl 1 rfl) ?_
    refine va_get (D := (dC, dI)) (ci := 2) (v := .ref (ad 10)) (C := RC2) (T := TC2) (N := 10) hx hb hts inC2 hown hK hP 2 rfl rfl 2 (by decide) (hts _ mw_44) (fun _ h9 => h9) rfl dC2_overrides_29 ?_
    refine lv_iload_n hx hb dC2_overrides_32 rfl (lv_at hl 2 rfl) ?_
    obtain ⟨b3, h⟩ := gx_nb h
    refine va_iald hx hb hK hP 10 5 rfl rfl b3 dC2_overrides_33 ?_
    refine lv_aload_n hx hb dC2_overrides_34 rfl (lv_at hl 1 rfl) ?_
    refine va_get (D := (dC, dI)) (ci := 2) (v := .ref (ad 10)) (C := RC2) (T := TC2) (N := 10) hx hb hts inC2 hown hK hP 2 rfl rfl 2 (by decide) (hts _ mw_44) (fun _ h9 => h9) rfl dC2_overrides_35 ?_
    refine lv_iload_n hx hb dC2_overrides_38 rfl (lv_at hl 3 rfl) ?_
    obtain ⟨b4, h⟩ := gx_nb h
    refine va_iald hx hb hK hP 10 5 rfl rfl b4 dC2_overrides_39 ?_
    refine lv_icmp_ne (tgt := 58) hx hb dC2_overrides_40 (by decide) (fun c14 => ?_) (fun c14 => ?_)
    · have h := (if_neg c14).symm.trans h
      refine lv_iconst (v := (0 : Int32)) hx hb dC2_overrides_58 (by decide) ?_
      exact hend _ _ _ (Option.some.inj h) rfl dC2_overrides_59
    · have h := (if_pos c14).symm.trans h
      refine lv_aload_n hx hb dC2_overrides_43 rfl (lv_at hl 1 rfl) ?_
      refine va_get (D := (dC, dI)) (ci := 2) (v := .ref (ad 9)) (C := RC2) (T := TC2) (N := 10) hx hb hts inC2 hown hK hP 2 rfl rfl 1 (by decide) (hts _ mw_42) (fun _ h9 => h9) rfl dC2_overrides_44 ?_
      refine lv_iload_n hx hb dC2_overrides_47 rfl (lv_at hl 2 rfl) ?_
      obtain ⟨b5, h⟩ := gx_nb h
      refine va_iald hx hb hK hP 9 4 rfl rfl b5 dC2_overrides_48 ?_
      refine lv_aload_n hx hb dC2_overrides_49 rfl (lv_at hl 1 rfl) ?_
      refine va_get (D := (dC, dI)) (ci := 2) (v := .ref (ad 9)) (C := RC2) (T := TC2) (N := 10) hx hb hts inC2 hown hK hP 2 rfl rfl 1 (by decide) (hts _ mw_42) (fun _ h9 => h9) rfl dC2_overrides_50 ?_
      refine lv_iload_n hx hb dC2_overrides_53 rfl (lv_at hl 3 rfl) ?_
      obtain ⟨b6, h⟩ := gx_nb h
      refine va_iald hx hb hK hP 9 4 rfl rfl b6 dC2_overrides_54 ?_
      refine lv_icmp_ne (tgt := 60) hx hb dC2_overrides_55 (by decide) (fun c13 => ?_) (fun c13 => ?_)
      · have h := (if_neg c13).symm.trans h
        refine lv_aload_n hx hb dC2_overrides_60 rfl (lv_at hl 1 rfl) ?_
        refine va_get (D := (dC, dI)) (ci := 2) (v := .ref (ad 1)) (C := RC2) (T := TC2) (N := 10) hx hb hts inC2 hown hK hP 2 rfl rfl 0 (by decide) (hts _ mw_57) (fun _ h9 => h9) rfl dC2_overrides_61 ?_
        refine lv_aload_n hx hb dC2_overrides_64 rfl (lv_at hl 1 rfl) ?_
        refine va_get (D := (dC, dI)) (ci := 2) (v := .ref (ad 9)) (C := RC2) (T := TC2) (N := 10) hx hb hts inC2 hown hK hP 2 rfl rfl 1 (by decide) (hts _ mw_42) (fun _ h9 => h9) rfl dC2_overrides_65 ?_
        refine lv_iload_n hx hb dC2_overrides_68 rfl (lv_at hl 2 rfl) ?_
        obtain ⟨b7, h⟩ := gx_nb h
        refine va_iald hx hb hK hP 9 4 rfl rfl b7 dC2_overrides_69 ?_
        refine lv_aload_n hx hb dC2_overrides_70 rfl (lv_at hl 1 rfl) ?_
        refine va_get (D := (dC, dI)) (ci := 2) (v := .ref (ad 9)) (C := RC2) (T := TC2) (N := 10) hx hb hts inC2 hown hK hP 2 rfl rfl 1 (by decide) (hts _ mw_42) (fun _ h9 => h9) rfl dC2_overrides_71 ?_
        refine lv_iload_n hx hb dC2_overrides_74 rfl (lv_at hl 3 rfl) ?_
        obtain ⟨b8, h⟩ := gx_nb h
        refine va_iald hx hb hK hP 9 4 rfl rfl b8 dC2_overrides_75 ?_
        obtain ⟨v9, ev9, h⟩ := Option.bind_eq_some_iff.mp h
        refine gcall_r (b := ad 1) (As := [.int (σ.1 9 x1.toNatClampNeg), .int (σ.1 9 x2.toNatClampNeg)]) (rest := []) C hK hP (ci := 1) (q0 := 1) rfl rfl (kC1_isA l dC dI ad cA σ (σ.1 9 x1.toNatClampNeg) (σ.1 9 x2.toNatClampNeg) v9 ev9) (cwV 2 hts (gw mw_140 mw_28 mw_29 mw_7 mw_30) rfl rfl rfl hdC1_isA ⟨Nat.le_of_ble_eq_true rfl, Nat.le_of_ble_eq_true rfl⟩) rfl hl.1 rfl (Nat.le_of_ble_eq_true rfl) dC2_overrides_76 ⟨Nat.le_refl _, Nat.le_refl _⟩ ?_
        refine lv_if_eq (tgt := 95) hx hb dC2_overrides_79 (by decide) (fun c12 => ?_) (fun c12 => ?_)
        · have h := (if_pos c12).symm.trans h
          refine lv_iconst (v := (0 : Int32)) hx hb dC2_overrides_95 (by decide) ?_
          exact hend _ _ _ (Option.some.inj h) rfl dC2_overrides_96
        · have h := (if_neg c12).symm.trans h
          refine lv_aload_n hx hb dC2_overrides_82 rfl (lv_at hl 1 rfl) ?_
          refine lv_iload_n hx hb dC2_overrides_83 rfl (lv_at hl 2 rfl) ?_
          refine lv_iload_n hx hb dC2_overrides_84 rfl (lv_at hl 3 rfl) ?_
          obtain ⟨v10, ev10, h⟩ := Option.bind_eq_some_iff.mp h
          refine gcall_r (b := ad 2) (As := [.int (x1), .int (x2)]) (rest := []) C hK hP (ci := 2) (q0 := 2) rfl rfl (kC2_sameParameters l dC dI ad cA σ x1 x2 v10 ev10) (cwV 2 hts (gw mw_110 mw_111 mw_112 mw_40 mw_113) rfl rfl rfl hdC2_sameParameters ⟨Nat.le_of_ble_eq_true rfl, Nat.le_of_ble_eq_true rfl⟩) rfl hl.1 rfl (Nat.le_of_ble_eq_true rfl) dC2_overrides_85 ⟨Nat.le_refl _, Nat.le_refl _⟩ ?_
          refine lv_if_eq (tgt := 95) hx hb dC2_overrides_88 (by decide) (fun c11 => ?_) (fun c11 => ?_)
          · have h := (if_pos c11).symm.trans h
            refine lv_iconst (v := (0 : Int32)) hx hb dC2_overrides_95 (by decide) ?_
            exact hend _ _ _ (Option.some.inj h) rfl dC2_overrides_96
          · have h := (if_neg c11).symm.trans h
            refine lv_iconst (v := (1 : Int32)) hx hb dC2_overrides_91 (by decide) ?_
            refine lv_goto (tgt := 96) hx hb dC2_overrides_92 (by decide) ?_
            exact hend _ _ _ (Option.some.inj h) rfl dC2_overrides_96
      · have h := (if_pos c13).symm.trans h
        refine lv_iconst (v := (0 : Int32)) hx hb dC2_overrides_58 (by decide) ?_
        exact hend _ _ _ (Option.some.inj h) rfl dC2_overrides_59
def fC2_overrides (σ : xSt) (x1 : Int32) (x2 : Int32) : Option Int32 :=
  if x1 < 0 ∨ 61 ≤ x1.toNatClampNeg then none else
  if x2 < 0 ∨ 61 ≤ x2.toNatClampNeg then none else
  if (((σ.1 11 x1.toNatClampNeg) ||| (σ.1 11 x2.toNatClampNeg)) &&& (3 : Int32)) = 0 then
    fC2_overrides_b23 σ x1 x2 (0 : Int32)
  else
    fC2_overrides_b23 σ x1 x2 (1 : Int32)
set_option maxHeartbeats 4000000 in
set_option maxRecDepth 100000 in
theorem wC2_overrides {p : Program} {l : Launch} {e : Env} {s : State} {m : MethodId} {args : Array Value} {below : List Frame} {meth : Method} {c : Code} {Q : State → Prop} {dC : Nat → ClassId} {dI : Nat → Nat → Nat} {ad : Nat → Nat} {cA : Nat → ClassId} {r : Int32} {H : Heap} {locs : List Loc} {σ : xSt} (C : CallFix p m c cC2_overrides 4 s args wAll RC2) (hK : va_K (dC, dI) vwC (xT cA) s) (hP : va_P (dC, dI) vwC (xW ad cA σ) H) (hend : ∀ (v : Int32) (pc : Nat) (ls : Array Slot), v = r → narrow .boolean (.int v) = .int v → decode cC2_overrides pc = .ok (.ireturn, 1) → W p l e rm_C2_overrides s m args below meth c H locs 0 0 Q (F0 m pc ls [.int v])) {x1 : Int32} {x2 : Int32} (ls : Array Slot) (hl : lv_has ls 4 [(0, .ref (ad 2)), (1, .int (x1)), (2, .int (x2))]) (h : fC2_overrides σ x1 x2 = some r) : W p l e rm_C2_overrides s m args below meth c H locs 0 0 Q (F0 m 0 ls []) := by
  obtain ⟨hx, hb, hml, hown, hts⟩ := id C
  unfold fC2_overrides at h
  refine lv_aload_n hx hb dC2_overrides_0 rfl (lv_at hl 0 rfl) ?_
  refine va_get (D := (dC, dI)) (ci := 2) (v := .ref (ad 11)) (C := RC2) (T := TC2) (N := 10) hx hb hts inC2 hown hK hP 2 rfl rfl 3 (by decide) (hts _ mw_45) (fun _ h9 => h9) rfl dC2_overrides_1 ?_
  refine lv_iload_n hx hb dC2_overrides_4 rfl (lv_at hl 1 rfl) ?_
  obtain ⟨b1, h⟩ := gx_nb h
  refine va_iald hx hb hK hP 11 6 rfl rfl b1 dC2_overrides_5 ?_
  refine lv_aload_n hx hb dC2_overrides_6 rfl (lv_at hl 0 rfl) ?_
  refine va_get (D := (dC, dI)) (ci := 2) (v := .ref (ad 11)) (C := RC2) (T := TC2) (N := 10) hx hb hts inC2 hown hK hP 2 rfl rfl 3 (by decide) (hts _ mw_45) (fun _ h9 => h9) rfl dC2_overrides_7 ?_
  refine lv_iload_n hx hb dC2_overrides_10 rfl (lv_at hl 2 rfl) ?_
  obtain ⟨b2, h⟩ := gx_nb h
  refine va_iald hx hb hK hP 11 6 rfl rfl b2 dC2_overrides_11 ?_
  refine lv_ior hx hb dC2_overrides_12 ?_
  refine lv_iconst (v := (3 : Int32)) hx hb dC2_overrides_13 (by decide) ?_
  refine lv_iand hx hb dC2_overrides_14 ?_
  refine lv_if_eq (tgt := 22) hx hb dC2_overrides_15 (by decide) (fun c16 => ?_) (fun c16 => ?_)
  · have h := (if_pos c16).symm.trans h
    refine lv_iconst (v := (0 : Int32)) hx hb dC2_overrides_22 (by decide) ?_
    exact wC2_overrides_b23 C hK hP hend _ _ _ _ (lv_sub hl [0, 1, 2] rfl) h
  · have h := (if_neg c16).symm.trans h
    refine lv_iconst (v := (1 : Int32)) hx hb dC2_overrides_18 (by decide) ?_
    refine lv_goto (tgt := 23) hx hb dC2_overrides_19 (by decide) ?_
    exact wC2_overrides_b23 C hK hP hend _ _ _ _ (lv_sub hl [0, 1, 2] rfl) h
set_option maxHeartbeats 4000000 in
set_option maxRecDepth 100000 in
theorem kC2_overrides (l : Launch) (dC : Nat → ClassId) (dI : Nat → Nat → Nat) (ad : Nat → Nat) (cA : Nat → ClassId) (σ : xSt) (x1 : Int32) (x2 : Int32) (r : Int32) (h : fC2_overrides σ x1 x2 = some r) : Met l yC2_overrides wsC2_overrides rm_C2_overrides (va_Pc [.ref (ad 2), .int (x1), .int (x2)] (fun U => va_P (dC, dI) vwC (xW ad cA σ) U.heap ∧ va_K (dC, dI) vwC (xT cA) U)) (vp_Si (fun v => v = r)) 0 0 (fun _ => False) := by
  refine Met.ofW (cc := cC2_overrides) (maxL := 4) (ret := (some .boolean)) (by decide) rfl ?_
  intro p e s m args below meth c s₁ B hml hv
  obtain ⟨rfl, hP, hK⟩ := hv
  have hr := B.returns
  have hlocks := B.notSynchronized
  have hl := lv_entry ([.ref (ad 2), .int (x1), .int (x2)]) (n := 4) (Nat.le_of_ble_eq_true rfl)
  rw [lg_entry_eq]
  exact wC2_overrides ⟨B.exec, B.bytes, hml, findClass_of_methodNamed B.named, fun w h => atoms_spec (ws := wsC2_overrides) B.pre w (List.mem_cons_of_mem _ h)⟩ hK hP (fun v pc ls hv hn hd => W.zret (v := v) B.exec B.bytes hr hn (fun t ht hW => ⟨v, rfl, hv, ht⟩) (fun q hq => absurd hq List.not_mem_nil) hd) _ hl h
abbrev rm_C2_isOverridden : Room := { frames := 2, cells := 0, slots := 0, locals := 48 }
def fC2_isOverridden_b38 (k2 : Int32 → Int32 → Int32 → Option Int32) (σ : xSt) (x1 : Int32) (x2 : Int32) (x3 : Int32) : Option Int32 :=
  k2 x1 x2 (x3 + (1 : Int32))
set_option maxHeartbeats 4000000 in
set_option maxRecDepth 100000 in
theorem wC2_isOverridden_b38 {p : Program} {l : Launch} {e : Env} {s : State} {m : MethodId} {args : Array Value} {below : List Frame} {meth : Method} {c : Code} {Q : State → Prop} {dC : Nat → ClassId} {dI : Nat → Nat → Nat} {ad : Nat → Nat} {cA : Nat → ClassId} {r : Int32} {H : Heap} {locs : List Loc} {σ : xSt} (C : CallFix p m c cC2_isOverridden 4 s args wAll RC2) (hK : va_K (dC, dI) vwC (xT cA) s) (hP : va_P (dC, dI) vwC (xW ad cA σ) H) (hend : ∀ (v : Int32) (pc : Nat) (ls : Array Slot), v = r → narrow .boolean (.int v) = .int v → decode cC2_isOverridden pc = .ok (.ireturn, 1) → W p l e rm_C2_isOverridden s m args below meth c H locs 0 0 Q (F0 m pc ls [.int v])) {k2 : Int32 → Int32 → Int32 → Option Int32} (hk2 : ∀ (x1 : Int32) (x2 : Int32) (x3 : Int32) (ls : Array Slot), lv_has ls 4 [(0, .ref (ad 2)), (1, .int (x1)), (2, .int (x2)), (3, .int (x3))] → k2 x1 x2 x3 = some r → W p l e rm_C2_isOverridden s m args below meth c H locs 0 0 Q (F0 m 2 ls [])) :
    ∀ (x1 : Int32) (x2 : Int32) (x3 : Int32) (ls : Array Slot), lv_has ls 4 [(0, .ref (ad 2)), (1, .int (x1)), (2, .int (x2)), (3, .int (x3))] → fC2_isOverridden_b38 k2 σ x1 x2 x3 = some r → W p l e rm_C2_isOverridden s m args below meth c H locs 0 0 Q (F0 m 38 ls []) := by
  obtain ⟨hx, hb, hml, hown, hts⟩ := id C
  intro x1 x2 x3 ls hl h
  unfold fC2_isOverridden_b38 at h
  refine lv_iinc (v := x3 + (1 : Int32)) (lv' := [(3, .int (x3 + (1 : Int32))), (0, .ref (ad 2)), (1, .int (x1)), (2, .int (x2))]) hx hb dC2_isOverridden_38 hl (k := 3) rfl rfl (by decide) rfl (fun ls hl => ?_)
  refine lv_goto (tgt := 2) hx hb dC2_isOverridden_41 (by decide) ?_
  exact hk2 _ _ _ _ (lv_sub hl [1, 2, 3, 0] rfl) h
def fC2_isOverridden_b2 (σ : xSt) : Nat → Int32 → Int32 → Int32 → Option Int32
  | 0, _, _, _ => none
  | n + 1, x1, x2, x3 =>
    if (σ.1 2 9) ≤ x3 then
      some (0 : Int32)
    else
      if x3 < 0 ∨ 61 ≤ x3.toNatClampNeg then none else
      (fC1_isA σ x2 (σ.1 9 x3.toNatClampNeg)).bind fun v2 =>
      if v2 = 0 then
        fC2_isOverridden_b38 (fC2_isOverridden_b2 σ n) σ x1 x2 x3
      else
        (fC2_overrides σ x3 x1).bind fun v3 =>
        if v3 = 0 then
          fC2_isOverridden_b38 (fC2_isOverridden_b2 σ n) σ x1 x2 x3
        else
          some (1 : Int32)
set_option maxHeartbeats 4000000 in
set_option maxRecDepth 100000 in
theorem wC2_isOverridden_b2 {p : Program} {l : Launch} {e : Env} {s : State} {m : MethodId} {args : Array Value} {below : List Frame} {meth : Method} {c : Code} {Q : State → Prop} {dC : Nat → ClassId} {dI : Nat → Nat → Nat} {ad : Nat → Nat} {cA : Nat → ClassId} {r : Int32} {H : Heap} {locs : List Loc} {σ : xSt} (C : CallFix p m c cC2_isOverridden 4 s args wAll RC2) (hK : va_K (dC, dI) vwC (xT cA) s) (hP : va_P (dC, dI) vwC (xW ad cA σ) H) (hend : ∀ (v : Int32) (pc : Nat) (ls : Array Slot), v = r → narrow .boolean (.int v) = .int v → decode cC2_isOverridden pc = .ok (.ireturn, 1) → W p l e rm_C2_isOverridden s m args below meth c H locs 0 0 Q (F0 m pc ls [.int v])) :
    ∀ (n : Nat) (x1 : Int32) (x2 : Int32) (x3 : Int32) (ls : Array Slot), lv_has ls 4 [(0, .ref (ad 2)), (1, .int (x1)), (2, .int (x2)), (3, .int (x3))] → fC2_isOverridden_b2 σ n x1 x2 x3 = some r → W p l e rm_C2_isOverridden s m args below meth c H locs 0 0 Q (F0 m 2 ls []) := by
  obtain ⟨hx, hb, hml, hown, hts⟩ := id C
  intro n
  induction n with
  | zero =>
    intro x1 x2 x3 ls hl h
    rw [fC2_isOverridden_b2] at h
    cases h
  | succ n ih =>
    intro x1 x2 x3 ls hl h
    rw [fC2_isOverridden_b2] at h
    refine lv_iload_n hx hb dC2_isOverridden_2 rfl (lv_at hl 3 rfl) ?_
    refine lv_aload_n hx hb dC2_isOverridden_3 rfl (lv_at hl 0 rfl) ?_
    refine va_get (D := (dC, dI)) (ci := 2) (v := .int (σ.1 2 9)) (C := RC2) (T := TC2) (N := 10) hx hb hts inC2 hown hK hP 2 rfl rfl 9 (by decide) (hts _ mw_43) (fun _ h9 => h9) rfl dC2_isOverridden_4 ?_
    refine lv_icmp_ge (tgt := 44) hx hb dC2_isOverridden_7 (by decide) (fun c6 => ?_) (fun c6 => ?_)
    · have h := (if_pos c6).symm.trans h
      refine lv_iconst (v := (0 : Int32)) hx hb dC2_isOverridden_44 (by decide) ?_
      exact hend _ _ _ (Option.some.inj h) rfl dC2_isOverridden_45
    · have h := (if_neg c6).symm.trans h
      refine lv_aload_n hx hb dC2_isOverridden_10 rfl (lv_at hl 0 rfl) ?_
      refine va_get (D := (dC, dI)) (ci := 2) (v := .ref (ad 1)) (C := RC2) (T := TC2) (N := 10) hx hb hts inC2 hown hK hP 2 rfl rfl 0 (by decide) (hts _ mw_57) (fun _ h9 => h9) rfl dC2_isOverridden_11 ?_
      refine lv_iload_n hx hb dC2_isOverridden_14 rfl (lv_at hl 2 rfl) ?_
      refine lv_aload_n hx hb dC2_isOverridden_15 rfl (lv_at hl 0 rfl) ?_
      refine va_get (D := (dC, dI)) (ci := 2) (v := .ref (ad 9)) (C := RC2) (T := TC2) (N := 10) hx hb hts inC2 hown hK hP 2 rfl rfl 1 (by decide) (hts _ mw_42) (fun _ h9 => h9) rfl dC2_isOverridden_16 ?_
      refine lv_iload_n hx hb dC2_isOverridden_19 rfl (lv_at hl 3 rfl) ?_
      obtain ⟨b1, h⟩ := gx_nb h
      refine va_iald hx hb hK hP 9 4 rfl rfl b1 dC2_isOverridden_20 ?_
      obtain ⟨v2, ev2, h⟩ := Option.bind_eq_some_iff.mp h
      refine gcall_r (b := ad 1) (As := [.int (x2), .int (σ.1 9 x3.toNatClampNeg)]) (rest := []) C hK hP (ci := 1) (q0 := 1) rfl rfl (kC1_isA l dC dI ad cA σ x2 (σ.1 9 x3.toNatClampNeg) v2 ev2) (cwV 2 hts (gw mw_140 mw_28 mw_29 mw_7 mw_30) rfl rfl rfl hdC1_isA ⟨Nat.le_of_ble_eq_true rfl, Nat.le_of_ble_eq_true rfl⟩) rfl hl.1 rfl (Nat.le_of_ble_eq_true rfl) dC2_isOverridden_21 ⟨Nat.le_refl _, Nat.le_refl _⟩ ?_
      refine lv_if_eq (tgt := 38) hx hb dC2_isOverridden_24 (by decide) (fun c5 => ?_) (fun c5 => ?_)
      · have h := (if_pos c5).symm.trans h
        exact wC2_isOverridden_b38 C hK hP hend ih _ _ _ _ (lv_sub hl [0, 1, 2, 3] rfl) h
      · have h := (if_neg c5).symm.trans h
        refine lv_aload_n hx hb dC2_isOverridden_27 rfl (lv_at hl 0 rfl) ?_
        refine lv_iload_n hx hb dC2_isOverridden_28 rfl (lv_at hl 3 rfl) ?_
        refine lv_iload_n hx hb dC2_isOverridden_29 rfl (lv_at hl 1 rfl) ?_
        obtain ⟨v3, ev3, h⟩ := Option.bind_eq_some_iff.mp h
        refine gcall_r (b := ad 2) (As := [.int (x3), .int (x1)]) (rest := []) C hK hP (ci := 2) (q0 := 2) rfl rfl (kC2_overrides l dC dI ad cA σ x3 x1 v3 ev3) (cwV 2 hts (gw mw_141 mw_142 mw_143 mw_40 mw_144) rfl rfl rfl hdC2_overrides ⟨Nat.le_of_ble_eq_true rfl, Nat.le_of_ble_eq_true rfl⟩) rfl hl.1 rfl (Nat.le_of_ble_eq_true rfl) dC2_isOverridden_30 ⟨Nat.le_refl _, Nat.le_refl _⟩ ?_
        refine lv_if_eq (tgt := 38) hx hb dC2_isOverridden_33 (by decide) (fun c4 => ?_) (fun c4 => ?_)
        · have h := (if_pos c4).symm.trans h
          exact wC2_isOverridden_b38 C hK hP hend ih _ _ _ _ (lv_sub hl [0, 1, 2, 3] rfl) h
        · have h := (if_neg c4).symm.trans h
          refine lv_iconst (v := (1 : Int32)) hx hb dC2_isOverridden_36 (by decide) ?_
          exact hend _ _ _ (Option.some.inj h) rfl dC2_isOverridden_37
def fC2_isOverridden (σ : xSt) (x1 : Int32) (x2 : Int32) : Option Int32 :=
  fC2_isOverridden_b2 σ gF x1 x2 (0 : Int32)
set_option maxHeartbeats 4000000 in
set_option maxRecDepth 100000 in
theorem wC2_isOverridden {p : Program} {l : Launch} {e : Env} {s : State} {m : MethodId} {args : Array Value} {below : List Frame} {meth : Method} {c : Code} {Q : State → Prop} {dC : Nat → ClassId} {dI : Nat → Nat → Nat} {ad : Nat → Nat} {cA : Nat → ClassId} {r : Int32} {H : Heap} {locs : List Loc} {σ : xSt} (C : CallFix p m c cC2_isOverridden 4 s args wAll RC2) (hK : va_K (dC, dI) vwC (xT cA) s) (hP : va_P (dC, dI) vwC (xW ad cA σ) H) (hend : ∀ (v : Int32) (pc : Nat) (ls : Array Slot), v = r → narrow .boolean (.int v) = .int v → decode cC2_isOverridden pc = .ok (.ireturn, 1) → W p l e rm_C2_isOverridden s m args below meth c H locs 0 0 Q (F0 m pc ls [.int v])) {x1 : Int32} {x2 : Int32} (ls : Array Slot) (hl : lv_has ls 4 [(0, .ref (ad 2)), (1, .int (x1)), (2, .int (x2))]) (h : fC2_isOverridden σ x1 x2 = some r) : W p l e rm_C2_isOverridden s m args below meth c H locs 0 0 Q (F0 m 0 ls []) := by
  obtain ⟨hx, hb, hml, hown, hts⟩ := id C
  unfold fC2_isOverridden at h
  refine lv_iconst (v := (0 : Int32)) hx hb dC2_isOverridden_0 (by decide) ?_
  refine lv_istore_n (lv' := [(3, .int ((0 : Int32))), (0, .ref (ad 2)), (1, .int (x1)), (2, .int (x2))]) hx hb dC2_isOverridden_1 rfl hl (by decide) rfl (fun ls hl => ?_)
  exact wC2_isOverridden_b2 C hK hP hend _ _ _ _ _ (lv_sub hl [1, 2, 3, 0] rfl) h
set_option maxHeartbeats 4000000 in
set_option maxRecDepth 100000 in
theorem kC2_isOverridden (l : Launch) (dC : Nat → ClassId) (dI : Nat → Nat → Nat) (ad : Nat → Nat) (cA : Nat → ClassId) (σ : xSt) (x1 : Int32) (x2 : Int32) (r : Int32) (h : fC2_isOverridden σ x1 x2 = some r) : Met l yC2_isOverridden wsC2_isOverridden rm_C2_isOverridden (va_Pc [.ref (ad 2), .int (x1), .int (x2)] (fun U => va_P (dC, dI) vwC (xW ad cA σ) U.heap ∧ va_K (dC, dI) vwC (xT cA) U)) (vp_Si (fun v => v = r)) 0 0 (fun _ => False) := by
  refine Met.ofW (cc := cC2_isOverridden) (maxL := 4) (ret := (some .boolean)) (by decide) rfl ?_
  intro p e s m args below meth c s₁ B hml hv
  obtain ⟨rfl, hP, hK⟩ := hv
  have hr := B.returns
  have hlocks := B.notSynchronized
  have hl := lv_entry ([.ref (ad 2), .int (x1), .int (x2)]) (n := 4) (Nat.le_of_ble_eq_true rfl)
  rw [lg_entry_eq]
  exact wC2_isOverridden ⟨B.exec, B.bytes, hml, findClass_of_methodNamed B.named, fun w h => atoms_spec (ws := wsC2_isOverridden) B.pre w (List.mem_cons_of_mem _ h)⟩ hK hP (fun v pc ls hv hn hd => W.zret (v := v) B.exec B.bytes hr hn (fun t ht hW => ⟨v, rfl, hv, ht⟩) (fun q hq => absurd hq List.not_mem_nil) hd) _ hl h
abbrev rm_C2_isSeen : Room := { frames := 3, cells := 0, slots := 0, locals := 71 }
def fC2_isSeen (σ : xSt) (x1 : Int32) (x2 : Int32) (x3 : Int32) : Option Int32 :=
  if x1 < 0 ∨ 61 ≤ x1.toNatClampNeg then none else
  (fC1_isA σ x2 (σ.1 9 x1.toNatClampNeg)).bind fun v2 =>
  if v2 = 0 then
    some (0 : Int32)
  else
    (fC2_isPrivate σ x1).bind fun v3 =>
    if v3 = 0 then
      (fC2_isOverridden σ x1 x2).bind fun v4 =>
      if v4 = 0 then
        some (1 : Int32)
      else
        some (0 : Int32)
    else
      if x1 < 0 ∨ 61 ≤ x1.toNatClampNeg then none else
      if (σ.1 9 x1.toNatClampNeg) = x3 then
        some (1 : Int32)
      else
        some (0 : Int32)
set_option maxHeartbeats 4000000 in
set_option maxRecDepth 100000 in
theorem wC2_isSeen {p : Program} {l : Launch} {e : Env} {s : State} {m : MethodId} {args : Array Value} {below : List Frame} {meth : Method} {c : Code} {Q : State → Prop} {dC : Nat → ClassId} {dI : Nat → Nat → Nat} {ad : Nat → Nat} {cA : Nat → ClassId} {r : Int32} {H : Heap} {locs : List Loc} {σ : xSt} (C : CallFix p m c cC2_isSeen 4 s args wAll RC2) (hK : va_K (dC, dI) vwC (xT cA) s) (hP : va_P (dC, dI) vwC (xW ad cA σ) H) (hend : ∀ (v : Int32) (pc : Nat) (ls : Array Slot), v = r → narrow .boolean (.int v) = .int v → decode cC2_isSeen pc = .ok (.ireturn, 1) → W p l e rm_C2_isSeen s m args below meth c H locs 0 0 Q (F0 m pc ls [.int v])) {x1 : Int32} {x2 : Int32} {x3 : Int32} (ls : Array Slot) (hl : lv_has ls 4 [(0, .ref (ad 2)), (1, .int (x1)), (2, .int (x2)), (3, .int (x3))]) (h : fC2_isSeen σ x1 x2 x3 = some r) : W p l e rm_C2_isSeen s m args below meth c H locs 0 0 Q (F0 m 0 ls []) := by
  obtain ⟨hx, hb, hml, hown, hts⟩ := id C
  unfold fC2_isSeen at h
  refine lv_aload_n hx hb dC2_isSeen_0 rfl (lv_at hl 0 rfl) ?_
  refine va_get (D := (dC, dI)) (ci := 2) (v := .ref (ad 1)) (C := RC2) (T := TC2) (N := 10) hx hb hts inC2 hown hK hP 2 rfl rfl 0 (by decide) (hts _ mw_57) (fun _ h9 => h9) rfl dC2_isSeen_1 ?_
  refine lv_iload_n hx hb dC2_isSeen_4 rfl (lv_at hl 2 rfl) ?_
  refine lv_aload_n hx hb dC2_isSeen_5 rfl (lv_at hl 0 rfl) ?_
  refine va_get (D := (dC, dI)) (ci := 2) (v := .ref (ad 9)) (C := RC2) (T := TC2) (N := 10) hx hb hts inC2 hown hK hP 2 rfl rfl 1 (by decide) (hts _ mw_42) (fun _ h9 => h9) rfl dC2_isSeen_6 ?_
  refine lv_iload_n hx hb dC2_isSeen_9 rfl (lv_at hl 1 rfl) ?_
  obtain ⟨b1, h⟩ := gx_nb h
  refine va_iald hx hb hK hP 9 4 rfl rfl b1 dC2_isSeen_10 ?_
  obtain ⟨v2, ev2, h⟩ := Option.bind_eq_some_iff.mp h
  refine gcall_r (b := ad 1) (As := [.int (x2), .int (σ.1 9 x1.toNatClampNeg)]) (rest := []) C hK hP (ci := 1) (q0 := 1) rfl rfl (kC1_isA l dC dI ad cA σ x2 (σ.1 9 x1.toNatClampNeg) v2 ev2) (cwV 2 hts (gw mw_140 mw_28 mw_29 mw_7 mw_30) rfl rfl rfl hdC1_isA ⟨Nat.le_of_ble_eq_true rfl, Nat.le_of_ble_eq_true rfl⟩) rfl hl.1 rfl (Nat.le_of_ble_eq_true rfl) dC2_isSeen_11 ⟨Nat.le_refl _, Nat.le_refl _⟩ ?_
  refine lv_if_ne (tgt := 19) hx hb dC2_isSeen_14 (by decide) (fun c9 => ?_) (fun c9 => ?_)
  · have h := (if_neg c9).symm.trans h
    refine lv_aload_n hx hb dC2_isSeen_19 rfl (lv_at hl 0 rfl) ?_
    refine lv_iload_n hx hb dC2_isSeen_20 rfl (lv_at hl 1 rfl) ?_
    obtain ⟨v3, ev3, h⟩ := Option.bind_eq_some_iff.mp h
    refine gcall_r (b := ad 2) (As := [.int (x1)]) (rest := []) C hK hP (ci := 2) (q0 := 2) rfl rfl (kC2_isPrivate l dC dI ad cA σ x1 v3 ev3) (cwV 1 hts (gw mw_68 mw_69 mw_70 mw_40 mw_71) rfl rfl rfl hdC2_isPrivate ⟨Nat.le_of_ble_eq_true rfl, Nat.le_of_ble_eq_true rfl⟩) rfl hl.1 rfl (Nat.le_of_ble_eq_true rfl) dC2_isSeen_21 ⟨Nat.le_refl _, Nat.le_refl _⟩ ?_
    refine lv_if_eq (tgt := 45) hx hb dC2_isSeen_24 (by decide) (fun c8 => ?_) (fun c8 => ?_)
    · have h := (if_pos c8).symm.trans h
      refine lv_aload_n hx hb dC2_isSeen_45 rfl (lv_at hl 0 rfl) ?_
      refine lv_iload_n hx hb dC2_isSeen_46 rfl (lv_at hl 1 rfl) ?_
      refine lv_iload_n hx hb dC2_isSeen_47 rfl (lv_at hl 2 rfl) ?_
      obtain ⟨v4, ev4, h⟩ := Option.bind_eq_some_iff.mp h
      refine gcall_r (b := ad 2) (As := [.int (x1), .int (x2)]) (rest := []) C hK hP (ci := 2) (q0 := 2) rfl rfl (kC2_isOverridden l dC dI ad cA σ x1 x2 v4 ev4) (cwV 2 hts (gw mw_145 mw_146 mw_147 mw_40 mw_148) rfl rfl rfl hdC2_isOverridden ⟨Nat.le_of_ble_eq_true rfl, Nat.le_of_ble_eq_true rfl⟩) rfl hl.1 rfl (Nat.le_of_ble_eq_true rfl) dC2_isSeen_48 ⟨Nat.le_refl _, Nat.le_refl _⟩ ?_
      refine lv_if_ne (tgt := 58) hx hb dC2_isSeen_51 (by decide) (fun c5 => ?_) (fun c5 => ?_)
      · have h := (if_neg c5).symm.trans h
        refine lv_iconst (v := (0 : Int32)) hx hb dC2_isSeen_58 (by decide) ?_
        exact hend _ _ _ (Option.some.inj h) rfl dC2_isSeen_59
      · have h := (if_pos c5).symm.trans h
        refine lv_iconst (v := (1 : Int32)) hx hb dC2_isSeen_54 (by decide) ?_
        refine lv_goto (tgt := 59) hx hb dC2_isSeen_55 (by decide) ?_
        exact hend _ _ _ (Option.some.inj h) rfl dC2_isSeen_59
    · have h := (if_neg c8).symm.trans h
      refine lv_aload_n hx hb dC2_isSeen_27 rfl (lv_at hl 0 rfl) ?_
      refine va_get (D := (dC, dI)) (ci := 2) (v := .ref (ad 9)) (C := RC2) (T := TC2) (N := 10) hx hb hts inC2 hown hK hP 2 rfl rfl 1 (by decide) (hts _ mw_42) (fun _ h9 => h9) rfl dC2_isSeen_28 ?_
      refine lv_iload_n hx hb dC2_isSeen_31 rfl (lv_at hl 1 rfl) ?_
      obtain ⟨b6, h⟩ := gx_nb h
      refine va_iald hx hb hK hP 9 4 rfl rfl b6 dC2_isSeen_32 ?_
      refine lv_iload_n hx hb dC2_isSeen_33 rfl (lv_at hl 3 rfl) ?_
      refine lv_icmp_ne (tgt := 41) hx hb dC2_isSeen_34 (by decide) (fun c7 => ?_) (fun c7 => ?_)
      · have h := (if_neg c7).symm.trans h
        refine lv_iconst (v := (0 : Int32)) hx hb dC2_isSeen_41 (by decide) ?_
        refine lv_goto (tgt := 59) hx hb dC2_isSeen_42 (by decide) ?_
        exact hend _ _ _ (Option.some.inj h) rfl dC2_isSeen_59
      · have h := (if_pos c7).symm.trans h
        refine lv_iconst (v := (1 : Int32)) hx hb dC2_isSeen_37 (by decide) ?_
        refine lv_goto (tgt := 59) hx hb dC2_isSeen_38 (by decide) ?_
        exact hend _ _ _ (Option.some.inj h) rfl dC2_isSeen_59
  · have h := (if_pos c9).symm.trans h
    refine lv_iconst (v := (0 : Int32)) hx hb dC2_isSeen_17 (by decide) ?_
    exact hend _ _ _ (Option.some.inj h) rfl dC2_isSeen_18
set_option maxHeartbeats 4000000 in
set_option maxRecDepth 100000 in
theorem kC2_isSeen (l : Launch) (dC : Nat → ClassId) (dI : Nat → Nat → Nat) (ad : Nat → Nat) (cA : Nat → ClassId) (σ : xSt) (x1 : Int32) (x2 : Int32) (x3 : Int32) (r : Int32) (h : fC2_isSeen σ x1 x2 x3 = some r) : Met l yC2_isSeen wsC2_isSeen rm_C2_isSeen (va_Pc [.ref (ad 2), .int (x1), .int (x2), .int (x3)] (fun U => va_P (dC, dI) vwC (xW ad cA σ) U.heap ∧ va_K (dC, dI) vwC (xT cA) U)) (vp_Si (fun v => v = r)) 0 0 (fun _ => False) := by
  refine Met.ofW (cc := cC2_isSeen) (maxL := 4) (ret := (some .boolean)) (by decide) rfl ?_
  intro p e s m args below meth c s₁ B hml hv
  obtain ⟨rfl, hP, hK⟩ := hv
  have hr := B.returns
  have hlocks := B.notSynchronized
  have hl := lv_entry ([.ref (ad 2), .int (x1), .int (x2), .int (x3)]) (n := 4) (Nat.le_of_ble_eq_true rfl)
  rw [lg_entry_eq]
  exact wC2_isSeen ⟨B.exec, B.bytes, hml, findClass_of_methodNamed B.named, fun w h => atoms_spec (ws := wsC2_isSeen) B.pre w (List.mem_cons_of_mem _ h)⟩ hK hP (fun v pc ls hv hn hd => W.zret (v := v) B.exec B.bytes hr hn (fun t ht hW => ⟨v, rfl, hv, ht⟩) (fun q hq => absurd hq List.not_mem_nil) hd) _ hl h
abbrev rm_C2_findFunction : Room := { frames := 4, cells := 0, slots := 0, locals := 94 }
def fC2_findFunction_b69 (k4 : Int32 → Int32 → Int32 → Option Int32) (σ : xSt) (x1 : Int32) (x2 : Int32) (x3 : Int32) : Option Int32 :=
  k4 x1 x2 (x3 + (1 : Int32))
set_option maxHeartbeats 4000000 in
set_option maxRecDepth 100000 in
theorem wC2_findFunction_b69 {p : Program} {l : Launch} {e : Env} {s : State} {m : MethodId} {args : Array Value} {below : List Frame} {meth : Method} {c : Code} {Q : State → Prop} {dC : Nat → ClassId} {dI : Nat → Nat → Nat} {ad : Nat → Nat} {cA : Nat → ClassId} {r : Int32} {H : Heap} {locs : List Loc} {σ : xSt} (C : CallFix p m c cC2_findFunction 4 s args wAll RC2) (hK : va_K (dC, dI) vwC (xT cA) s) (hP : va_P (dC, dI) vwC (xW ad cA σ) H) (hend : ∀ (v : Int32) (pc : Nat) (ls : Array Slot), v = r → decode cC2_findFunction pc = .ok (.ireturn, 1) → W p l e rm_C2_findFunction s m args below meth c H locs 0 0 Q (F0 m pc ls [.int v])) {k4 : Int32 → Int32 → Int32 → Option Int32} (hk4 : ∀ (x1 : Int32) (x2 : Int32) (x3 : Int32) (ls : Array Slot), lv_has ls 4 [(0, .ref (ad 2)), (1, .int (x1)), (2, .int (x2)), (3, .int (x3))] → k4 x1 x2 x3 = some r → W p l e rm_C2_findFunction s m args below meth c H locs 0 0 Q (F0 m 4 ls [])) :
    ∀ (x1 : Int32) (x2 : Int32) (x3 : Int32) (ls : Array Slot), lv_has ls 4 [(0, .ref (ad 2)), (1, .int (x1)), (2, .int (x2)), (3, .int (x3))] → fC2_findFunction_b69 k4 σ x1 x2 x3 = some r → W p l e rm_C2_findFunction s m args below meth c H locs 0 0 Q (F0 m 69 ls []) := by
  obtain ⟨hx, hb, hml, hown, hts⟩ := id C
  intro x1 x2 x3 ls hl h
  unfold fC2_findFunction_b69 at h
  refine lv_iinc (v := x3 + (1 : Int32)) (lv' := [(3, .int (x3 + (1 : Int32))), (0, .ref (ad 2)), (1, .int (x1)), (2, .int (x2))]) hx hb dC2_findFunction_69 hl (k := 3) rfl rfl (by decide) rfl (fun ls hl => ?_)
  refine lv_goto (tgt := 4) hx hb dC2_findFunction_72 (by decide) ?_
  exact hk4 _ _ _ _ (lv_sub hl [1, 2, 3, 0] rfl) h
def fC2_findFunction_b4 (σ : xSt) : Nat → Int32 → Int32 → Int32 → Option Int32
  | 0, _, _, _ => none
  | n + 1, x1, x2, x3 =>
    if (σ.1 2 9) ≤ x3 then
      some x2
    else
      (fC2_isAbstract σ x3).bind fun v1 =>
      if v1 = 0 then
        fC2_findFunction_b69 (fC2_findFunction_b4 σ n) σ x1 x2 x3
      else
        (fC2_isSeen σ x3 x1 x1).bind fun v2 =>
        if v2 = 0 then
          fC2_findFunction_b69 (fC2_findFunction_b4 σ n) σ x1 x2 x3
        else
          if x2 = (-1 : Int32) then
            fC2_findFunction_b69 (fC2_findFunction_b4 σ n) σ x1 x3 x3
          else
            if x3 < 0 ∨ 61 ≤ x3.toNatClampNeg then none else
            if x2 < 0 ∨ 61 ≤ x2.toNatClampNeg then none else
            if (σ.1 10 x3.toNatClampNeg) = (σ.1 10 x2.toNatClampNeg) then
              (fC2_sameParameters σ x3 x2).bind fun v5 =>
              if v5 = 0 then
                some (-1 : Int32)
              else
                fC2_findFunction_b69 (fC2_findFunction_b4 σ n) σ x1 x2 x3
            else
              some (-1 : Int32)
set_option maxHeartbeats 4000000 in
set_option maxRecDepth 100000 in
theorem wC2_findFunction_b4 {p : Program} {l : Launch} {e : Env} {s : State} {m : MethodId} {args : Array Value} {below : List Frame} {meth : Method} {c : Code} {Q : State → Prop} {dC : Nat → ClassId} {dI : Nat → Nat → Nat} {ad : Nat → Nat} {cA : Nat → ClassId} {r : Int32} {H : Heap} {locs : List Loc} {σ : xSt} (C : CallFix p m c cC2_findFunction 4 s args wAll RC2) (hK : va_K (dC, dI) vwC (xT cA) s) (hP : va_P (dC, dI) vwC (xW ad cA σ) H) (hend : ∀ (v : Int32) (pc : Nat) (ls : Array Slot), v = r → decode cC2_findFunction pc = .ok (.ireturn, 1) → W p l e rm_C2_findFunction s m args below meth c H locs 0 0 Q (F0 m pc ls [.int v])) :
    ∀ (n : Nat) (x1 : Int32) (x2 : Int32) (x3 : Int32) (ls : Array Slot), lv_has ls 4 [(0, .ref (ad 2)), (1, .int (x1)), (2, .int (x2)), (3, .int (x3))] → fC2_findFunction_b4 σ n x1 x2 x3 = some r → W p l e rm_C2_findFunction s m args below meth c H locs 0 0 Q (F0 m 4 ls []) := by
  obtain ⟨hx, hb, hml, hown, hts⟩ := id C
  intro n
  induction n with
  | zero =>
    intro x1 x2 x3 ls hl h
    rw [fC2_findFunction_b4] at h
    cases h
  | succ n ih =>
    intro x1 x2 x3 ls hl h
    rw [fC2_findFunction_b4] at h
    refine lv_iload_n hx hb dC2_findFunction_4 rfl (lv_at hl 3 rfl) ?_
    refine lv_aload_n hx hb dC2_findFunction_5 rfl (lv_at hl 0 rfl) ?_
    refine va_get (D := (dC, dI)) (ci := 2) (v := .int (σ.1 2 9)) (C := RC2) (T := TC2) (N := 10) hx hb hts inC2 hown hK hP 2 rfl rfl 9 (by decide) (hts _ mw_43) (fun _ h9 => h9) rfl dC2_findFunction_6 ?_
    refine lv_icmp_ge (tgt := 75) hx hb dC2_findFunction_9 (by decide) (fun c11 => ?_) (fun c11 => ?_)
    · have h := (if_pos c11).symm.trans h
      refine lv_iload_n hx hb dC2_findFunction_75 rfl (lv_at hl 2 rfl) ?_
      exact hend _ _ _ (Option.some.inj h) dC2_findFunction_76
    · have h := (if_neg c11).symm.trans h
      refine lv_aload_n hx hb dC2_findFunction_12 rfl (lv_at hl 0 rfl) ?_
      refine lv_iload_n hx hb dC2_findFunction_13 rfl (lv_at hl 3 rfl) ?_
      obtain ⟨v1, ev1, h⟩ := Option.bind_eq_some_iff.mp h
      refine gcall_r (b := ad 2) (As := [.int (x3)]) (rest := []) C hK hP (ci := 2) (q0 := 2) rfl rfl (kC2_isAbstract l dC dI ad cA σ x3 v1 ev1) (cwV 1 hts (gw mw_60 mw_61 mw_62 mw_40 mw_63) rfl rfl rfl hdC2_isAbstract ⟨Nat.le_of_ble_eq_true rfl, Nat.le_of_ble_eq_true rfl⟩) rfl hl.1 rfl (Nat.le_of_ble_eq_true rfl) dC2_findFunction_14 ⟨Nat.le_refl _, Nat.le_refl _⟩ ?_
      refine lv_if_eq (tgt := 69) hx hb dC2_findFunction_17 (by decide) (fun c10 => ?_) (fun c10 => ?_)
      · have h := (if_pos c10).symm.trans h
        exact wC2_findFunction_b69 C hK hP hend ih _ _ _ _ (lv_sub hl [0, 1, 2, 3] rfl) h
      · have h := (if_neg c10).symm.trans h
        refine lv_aload_n hx hb dC2_findFunction_20 rfl (lv_at hl 0 rfl) ?_
        refine lv_iload_n hx hb dC2_findFunction_21 rfl (lv_at hl 3 rfl) ?_
        refine lv_iload_n hx hb dC2_findFunction_22 rfl (lv_at hl 1 rfl) ?_
        refine lv_iload_n hx hb dC2_findFunction_23 rfl (lv_at hl 1 rfl) ?_
        obtain ⟨v2, ev2, h⟩ := Option.bind_eq_some_iff.mp h
        refine gcall_r (b := ad 2) (As := [.int (x3), .int (x1), .int (x1)]) (rest := []) C hK hP (ci := 2) (q0 := 2) rfl rfl (kC2_isSeen l dC dI ad cA σ x3 x1 x1 v2 ev2) (cwV 3 hts (gw mw_149 mw_150 mw_151 mw_40 mw_152) rfl rfl rfl hdC2_isSeen ⟨Nat.le_of_ble_eq_true rfl, Nat.le_of_ble_eq_true rfl⟩) rfl hl.1 rfl (Nat.le_of_ble_eq_true rfl) dC2_findFunction_24 ⟨Nat.le_refl _, Nat.le_refl _⟩ ?_
        refine lv_if_ne (tgt := 33) hx hb dC2_findFunction_27 (by decide) (fun c9 => ?_) (fun c9 => ?_)
        · have h := (if_neg c9).symm.trans h
          refine lv_iload_n hx hb dC2_findFunction_33 rfl (lv_at hl 2 rfl) ?_
          refine lv_iconst (v := (-1 : Int32)) hx hb dC2_findFunction_34 (by decide) ?_
          refine lv_icmp_ne (tgt := 43) hx hb dC2_findFunction_35 (by decide) (fun c8 => ?_) (fun c8 => ?_)
          · have h := (if_neg c8).symm.trans h
            refine lv_aload_n hx hb dC2_findFunction_43 rfl (lv_at hl 0 rfl) ?_
            refine va_get (D := (dC, dI)) (ci := 2) (v := .ref (ad 10)) (C := RC2) (T := TC2) (N := 10) hx hb hts inC2 hown hK hP 2 rfl rfl 2 (by decide) (hts _ mw_44) (fun _ h9 => h9) rfl dC2_findFunction_44 ?_
            refine lv_iload_n hx hb dC2_findFunction_47 rfl (lv_at hl 3 rfl) ?_
            obtain ⟨b3, h⟩ := gx_nb h
            refine va_iald hx hb hK hP 10 5 rfl rfl b3 dC2_findFunction_48 ?_
            refine lv_aload_n hx hb dC2_findFunction_49 rfl (lv_at hl 0 rfl) ?_
            refine va_get (D := (dC, dI)) (ci := 2) (v := .ref (ad 10)) (C := RC2) (T := TC2) (N := 10) hx hb hts inC2 hown hK hP 2 rfl rfl 2 (by decide) (hts _ mw_44) (fun _ h9 => h9) rfl dC2_findFunction_50 ?_
            refine lv_iload_n hx hb dC2_findFunction_53 rfl (lv_at hl 2 rfl) ?_
            obtain ⟨b4, h⟩ := gx_nb h
            refine va_iald hx hb hK hP 10 5 rfl rfl b4 dC2_findFunction_54 ?_
            refine lv_icmp_ne (tgt := 67) hx hb dC2_findFunction_55 (by decide) (fun c7 => ?_) (fun c7 => ?_)
            · have h := (if_neg c7).symm.trans h
              refine lv_iconst (v := (-1 : Int32)) hx hb dC2_findFunction_67 (by decide) ?_
              exact hend _ _ _ (Option.some.inj h) dC2_findFunction_68
            · have h := (if_pos c7).symm.trans h
              refine lv_aload_n hx hb dC2_findFunction_58 rfl (lv_at hl 0 rfl) ?_
              refine lv_iload_n hx hb dC2_findFunction_59 rfl (lv_at hl 3 rfl) ?_
              refine lv_iload_n hx hb dC2_findFunction_60 rfl (lv_at hl 2 rfl) ?_
              obtain ⟨v5, ev5, h⟩ := Option.bind_eq_some_iff.mp h
              refine gcall_r (b := ad 2) (As := [.int (x3), .int (x2)]) (rest := []) C hK hP (ci := 2) (q0 := 2) rfl rfl (kC2_sameParameters l dC dI ad cA σ x3 x2 v5 ev5) (cwV 2 hts (gw mw_110 mw_111 mw_112 mw_40 mw_113) rfl rfl rfl hdC2_sameParameters ⟨Nat.le_of_ble_eq_true rfl, Nat.le_of_ble_eq_true rfl⟩) rfl hl.1 rfl (Nat.le_of_ble_eq_true rfl) dC2_findFunction_61 ⟨Nat.le_refl _, Nat.le_refl _⟩ ?_
              refine lv_if_ne (tgt := 69) hx hb dC2_findFunction_64 (by decide) (fun c6 => ?_) (fun c6 => ?_)
              · have h := (if_neg c6).symm.trans h
                exact wC2_findFunction_b69 C hK hP hend ih _ _ _ _ (lv_sub hl [0, 1, 2, 3] rfl) h
              · have h := (if_pos c6).symm.trans h
                refine lv_iconst (v := (-1 : Int32)) hx hb dC2_findFunction_67 (by decide) ?_
                exact hend _ _ _ (Option.some.inj h) dC2_findFunction_68
          · have h := (if_pos c8).symm.trans h
            refine lv_iload_n hx hb dC2_findFunction_38 rfl (lv_at hl 3 rfl) ?_
            refine lv_istore_n (lv' := [(2, .int (x3)), (0, .ref (ad 2)), (1, .int (x1)), (3, .int (x3))]) hx hb dC2_findFunction_39 rfl hl (by decide) rfl (fun ls hl => ?_)
            refine lv_goto (tgt := 69) hx hb dC2_findFunction_40 (by decide) ?_
            exact wC2_findFunction_b69 C hK hP hend ih _ _ _ _ (lv_sub hl [1, 2, 0, 3] rfl) h
        · have h := (if_pos c9).symm.trans h
          refine lv_goto (tgt := 69) hx hb dC2_findFunction_30 (by decide) ?_
          exact wC2_findFunction_b69 C hK hP hend ih _ _ _ _ (lv_sub hl [0, 1, 2, 3] rfl) h
def fC2_findFunction (σ : xSt) (x1 : Int32) : Option Int32 :=
  fC2_findFunction_b4 σ gF x1 (-1 : Int32) (0 : Int32)
set_option maxHeartbeats 4000000 in
set_option maxRecDepth 100000 in
theorem wC2_findFunction {p : Program} {l : Launch} {e : Env} {s : State} {m : MethodId} {args : Array Value} {below : List Frame} {meth : Method} {c : Code} {Q : State → Prop} {dC : Nat → ClassId} {dI : Nat → Nat → Nat} {ad : Nat → Nat} {cA : Nat → ClassId} {r : Int32} {H : Heap} {locs : List Loc} {σ : xSt} (C : CallFix p m c cC2_findFunction 4 s args wAll RC2) (hK : va_K (dC, dI) vwC (xT cA) s) (hP : va_P (dC, dI) vwC (xW ad cA σ) H) (hend : ∀ (v : Int32) (pc : Nat) (ls : Array Slot), v = r → decode cC2_findFunction pc = .ok (.ireturn, 1) → W p l e rm_C2_findFunction s m args below meth c H locs 0 0 Q (F0 m pc ls [.int v])) {x1 : Int32} (ls : Array Slot) (hl : lv_has ls 4 [(0, .ref (ad 2)), (1, .int (x1))]) (h : fC2_findFunction σ x1 = some r) : W p l e rm_C2_findFunction s m args below meth c H locs 0 0 Q (F0 m 0 ls []) := by
  obtain ⟨hx, hb, hml, hown, hts⟩ := id C
  unfold fC2_findFunction at h
  refine lv_iconst (v := (-1 : Int32)) hx hb dC2_findFunction_0 (by decide) ?_
  refine lv_istore_n (lv' := [(2, .int ((-1 : Int32))), (0, .ref (ad 2)), (1, .int (x1))]) hx hb dC2_findFunction_1 rfl hl (by decide) rfl (fun ls hl => ?_)
  refine lv_iconst (v := (0 : Int32)) hx hb dC2_findFunction_2 (by decide) ?_
  refine lv_istore_n (lv' := [(3, .int ((0 : Int32))), (2, .int ((-1 : Int32))), (0, .ref (ad 2)), (1, .int (x1))]) hx hb dC2_findFunction_3 rfl hl (by decide) rfl (fun ls hl => ?_)
  exact wC2_findFunction_b4 C hK hP hend _ _ _ _ _ (lv_sub hl [2, 3, 1, 0] rfl) h
set_option maxHeartbeats 4000000 in
set_option maxRecDepth 100000 in
theorem kC2_findFunction (l : Launch) (dC : Nat → ClassId) (dI : Nat → Nat → Nat) (ad : Nat → Nat) (cA : Nat → ClassId) (σ : xSt) (x1 : Int32) (r : Int32) (h : fC2_findFunction σ x1 = some r) : Met l yC2_findFunction wsC2_findFunction rm_C2_findFunction (va_Pc [.ref (ad 2), .int (x1)] (fun U => va_P (dC, dI) vwC (xW ad cA σ) U.heap ∧ va_K (dC, dI) vwC (xT cA) U)) (vp_Si (fun v => v = r)) 0 0 (fun _ => False) := by
  refine Met.ofW (cc := cC2_findFunction) (maxL := 4) (ret := (some .int)) (by decide) rfl ?_
  intro p e s m args below meth c s₁ B hml hv
  obtain ⟨rfl, hP, hK⟩ := hv
  have hr := B.returns
  have hlocks := B.notSynchronized
  have hl := lv_entry ([.ref (ad 2), .int (x1)]) (n := 4) (Nat.le_of_ble_eq_true rfl)
  rw [lg_entry_eq]
  exact wC2_findFunction ⟨B.exec, B.bytes, hml, findClass_of_methodNamed B.named, fun w h => atoms_spec (ws := wsC2_findFunction) B.pre w (List.mem_cons_of_mem _ h)⟩ hK hP (fun v pc ls hv hd => W.iret (v := v) B.exec B.bytes hr (fun t ht hW => ⟨v, rfl, hv, ht⟩) (fun q hq => absurd hq List.not_mem_nil) hd) _ hl h
