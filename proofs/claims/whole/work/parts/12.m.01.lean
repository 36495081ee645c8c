abbrev rm_CM_forgetFunctions : Room := { frames := 0, cells := 0, slots := 0, locals := 0 }
def fCM_forgetFunctions_b2 : Nat → xSt → Int32 → Option xSt
  | 0, _, _ => none
  | n + 1, σ, x1 =>
    if (24 : Int32) ≤ x1 then
      some σ
    else
      if x1 < 0 ∨ 24 ≤ x1.toNatClampNeg then none else
      nm (sI σ 19 x1.toNatClampNeg (-2 : Int32)) fun σ2 =>
      fCM_forgetFunctions_b2 n σ2 (x1 + (1 : Int32))
set_option maxHeartbeats 4000000 in
set_option maxRecDepth 100000 in
theorem wCM_forgetFunctions_b2 {p : Program} {l : Launch} {e : Env} {s : State} {m : MethodId} {args : Array Value} {below : List Frame} {meth : Method} {c : Code} {Q : State → Prop} {dC : Nat → ClassId} {dI : Nat → Nat → Nat} {ad : Nat → Nat} {cA : Nat → ClassId} {r : xSt} (C : CallFix p m c cCM_forgetFunctions 2 s args wAll RCM) (hK : va_K (dC, dI) vwC (mT cA) s) (hend : ∀ (σ : xSt) (H : Heap) (locs : List Loc) (pc : Nat) (ls : Array Slot), σ = r → va_P (dC, dI) vwC (mW ad cA σ) H → va_S (mA ad) s.heap H locs → decode cCM_forgetFunctions pc = .ok (.return_, 1) → W p l e rm_CM_forgetFunctions s m args below meth c H locs 0 0 Q (F0 m pc ls [])) :
    ∀ (n : Nat) (σ : xSt) (H : Heap) (locs : List Loc) (x1 : Int32) (ls : Array Slot), va_P (dC, dI) vwC (mW ad cA σ) H → va_D (mA ad) (mW ad cA σ) → va_S (mA ad) s.heap H locs → lv_has ls 2 [(0, .ref (ad 0)), (1, .int (x1))] → fCM_forgetFunctions_b2 n σ x1 = some r → W p l e rm_CM_forgetFunctions s m args below meth c H locs 0 0 Q (F0 m 2 ls []) := by
  obtain ⟨hx, hb, hml, hown, hts⟩ := id C
  intro n
  induction n with
  | zero =>
    intro σ H locs x1 ls hP hD hS hl h
    rw [fCM_forgetFunctions_b2] at h
    cases h
  | succ n ih =>
    intro σ H locs x1 ls hP hD hS hl h
    rw [fCM_forgetFunctions_b2] at h
    refine lv_iload_n hx hb dCM_forgetFunctions_2 rfl (lv_at hl 1 rfl) ?_
    refine lv_bipush (v := (24 : Int32)) hx hb dCM_forgetFunctions_3 (by decide) ?_
    refine lv_icmp_ge (tgt := 22) hx hb dCM_forgetFunctions_5 (by decide) (fun c3 => ?_) (fun c3 => ?_)
    · have h := (if_pos c3).symm.trans h
      exact hend _ _ _ _ _ (Option.some.inj h) hP hS dCM_forgetFunctions_22
    · have h := (if_neg c3).symm.trans h
      refine lv_aload_n hx hb dCM_forgetFunctions_8 rfl (lv_at hl 0 rfl) ?_
      refine va_get (D := (dC, dI)) (ci := 5) (v := .ref (ad 19)) (C := RCM) (T := TCM) (N := 23) hx hb hts inCM hown hK hP 0 rfl rfl 22 (by decide) (hts _ mw_359) (fun _ h9 => h9) rfl dCM_forgetFunctions_9 ?_
      refine lv_iload_n hx hb dCM_forgetFunctions_12 rfl (lv_at hl 1 rfl) ?_
      refine lv_bipush (v := (-2 : Int32)) hx hb dCM_forgetFunctions_13 (by decide) ?_
      obtain ⟨b1, h⟩ := gx_nb h
      refine va_iast hx hb hK hP hD hS 19 18 rfl rfl b1 dCM_forgetFunctions_15 (fun H locs hP hD hS => ?_)
      obtain ⟨σ2, eσ2⟩ : ∃ z, z = sI σ 19 x1.toNatClampNeg (-2 : Int32) := ⟨_, rfl⟩
      have hP : va_P (dC, dI) vwC (mW ad cA σ2) H := by rw [eσ2]; exact hP
      have hD : va_D (mA ad) (mW ad cA σ2) := by rw [eσ2]; exact hD
      have h := nm_at eσ2 h
      refine lv_iinc (v := x1 + (1 : Int32)) (lv' := [(1, .int (x1 + (1 : Int32))), (0, .ref (ad 0))]) hx hb dCM_forgetFunctions_16 hl (k := 1) rfl rfl (by decide) rfl (fun ls hl => ?_)
      refine lv_goto (tgt := 2) hx hb dCM_forgetFunctions_19 (by decide) ?_
      exact ih _ _ _ _ _ hP hD hS (lv_sub hl [1, 0] rfl) h
def fCM_forgetFunctions (σ : xSt) : Option xSt :=
  fCM_forgetFunctions_b2 gF σ (0 : Int32)
set_option maxHeartbeats 4000000 in
set_option maxRecDepth 100000 in
theorem wCM_forgetFunctions {p : Program} {l : Launch} {e : Env} {s : State} {m : MethodId} {args : Array Value} {below : List Frame} {meth : Method} {c : Code} {Q : State → Prop} {dC : Nat → ClassId} {dI : Nat → Nat → Nat} {ad : Nat → Nat} {cA : Nat → ClassId} {r : xSt} (C : CallFix p m c cCM_forgetFunctions 2 s args wAll RCM) (hK : va_K (dC, dI) vwC (mT cA) s) (hend : ∀ (σ : xSt) (H : Heap) (locs : List Loc) (pc : Nat) (ls : Array Slot), σ = r → va_P (dC, dI) vwC (mW ad cA σ) H → va_S (mA ad) s.heap H locs → decode cCM_forgetFunctions pc = .ok (.return_, 1) → W p l e rm_CM_forgetFunctions s m args below meth c H locs 0 0 Q (F0 m pc ls [])) {H : Heap} {locs : List Loc} {σ : xSt} (hP : va_P (dC, dI) vwC (mW ad cA σ) H) (hD : va_D (mA ad) (mW ad cA σ)) (hS : va_S (mA ad) s.heap H locs) (ls : Array Slot) (hl : lv_has ls 2 [(0, .ref (ad 0))]) (h : fCM_forgetFunctions σ = some r) : W p l e rm_CM_forgetFunctions s m args below meth c H locs 0 0 Q (F0 m 0 ls []) := by
  obtain ⟨hx, hb, hml, hown, hts⟩ := id C
  unfold fCM_forgetFunctions at h
  refine lv_iconst (v := (0 : Int32)) hx hb dCM_forgetFunctions_0 (by decide) ?_
  refine lv_istore_n (lv' := [(1, .int ((0 : Int32))), (0, .ref (ad 0))]) hx hb dCM_forgetFunctions_1 rfl hl (by decide) rfl (fun ls hl => ?_)
  exact wCM_forgetFunctions_b2 C hK hend _ _ _ _ _ _ hP hD hS (lv_sub hl [1, 0] rfl) h
set_option maxHeartbeats 4000000 in
set_option maxRecDepth 100000 in
theorem kCM_forgetFunctions (l : Launch) (dC : Nat → ClassId) (dI : Nat → Nat → Nat) (ad : Nat → Nat) (cA : Nat → ClassId) (σ : xSt) (r : xSt) (h : fCM_forgetFunctions σ = some r) : Met l yCM_forgetFunctions wsCM_forgetFunctions rm_CM_forgetFunctions (va_Pc [.ref (ad 0)] (fun U => va_P (dC, dI) vwC (mW ad cA σ) U.heap ∧ va_K (dC, dI) vwC (mT cA) U ∧ va_D (mA ad) (mW ad cA σ))) (va_Qv (fun u : xSt => u = r) (fun u t => va_P (dC, dI) vwC (mW ad cA u) t.heap) (mA ad)) 0 0 (mA ad) := by
  refine Met.ofW (cc := cCM_forgetFunctions) (maxL := 2) (ret := none) (by decide) rfl ?_
  intro p e s m args below meth c s₁ B hml hv
  obtain ⟨rfl, hP, hK, hD⟩ := hv
  have hr := B.returns
  have hlocks := B.notSynchronized
  have hl := lv_entry ([.ref (ad 0)]) (n := 2) (Nat.le_of_ble_eq_true rfl)
  rw [lg_entry_eq]
  exact wCM_forgetFunctions ⟨B.exec, B.bytes, hml, findClass_of_methodNamed B.named, fun w h => atoms_spec (ws := wsCM_forgetFunctions) B.pre w (List.mem_cons_of_mem _ h)⟩ hK (fun σ H locs pc ls hv hP hS hd => W.vret B.exec B.bytes hr (fun t ht hW => ⟨⟨σ, rfl, hv, by show va_P _ _ _ t.heap; rw [ht]; exact hP⟩, hS.F ht⟩) hS.2.2 hd) hP hD va_S.rf _ hl h
abbrev rm_CM_closeTypes : Room := { frames := 1, cells := 0, slots := 0, locals := 21 }
def fCM_closeTypes_b207 (k122 : xSt → Int32 → Option xSt) (k132 : xSt → Int32 → Int32 → Option xSt) (k142 : xSt → Int32 → Int32 → Int32 → Option xSt) (σ : xSt) (x1 : Int32) (x2 : Int32) (x3 : Int32) (s1 : Int32) (s2 : Int32) : Option xSt :=
  if s1 < 0 ∨ 576 ≤ s1.toNatClampNeg then none else
  nm (sI σ 5 s1.toNatClampNeg (vp_nar .boolean s2)) fun σ5 =>
  k142 σ5 x1 x2 (x3 + (1 : Int32))
set_option maxHeartbeats 4000000 in
set_option maxRecDepth 100000 in
theorem wCM_closeTypes_b207 {p : Program} {l : Launch} {e : Env} {s : State} {m : MethodId} {args : Array Value} {below : List Frame} {meth : Method} {c : Code} {Q : State → Prop} {dC : Nat → ClassId} {dI : Nat → Nat → Nat} {ad : Nat → Nat} {cA : Nat → ClassId} {r : xSt} (C : CallFix p m c cCM_closeTypes 5 s args wAll RCM) (hK : va_K (dC, dI) vwC (mT cA) s) (hend : ∀ (σ : xSt) (H : Heap) (locs : List Loc) (pc : Nat) (ls : Array Slot), σ = r → va_P (dC, dI) vwC (mW ad cA σ) H → va_S (mA ad) s.heap H locs → decode cCM_closeTypes pc = .ok (.return_, 1) → W p l e rm_CM_closeTypes s m args below meth c H locs 0 0 Q (F0 m pc ls [])) {k122 : xSt → Int32 → Option xSt} {k132 : xSt → Int32 → Int32 → Option xSt} {k142 : xSt → Int32 → Int32 → Int32 → Option xSt} (hk122 : ∀ (σ : xSt) (H : Heap) (locs : List Loc) (x1 : Int32) (ls : Array Slot), va_P (dC, dI) vwC (mW ad cA σ) H → va_D (mA ad) (mW ad cA σ) → va_S (mA ad) s.heap H locs → lv_has ls 5 [(0, .ref (ad 0)), (1, .int (x1))] → k122 σ x1 = some r → W p l e rm_CM_closeTypes s m args below meth c H locs 0 0 Q (F0 m 122 ls [])) (hk132 : ∀ (σ : xSt) (H : Heap) (locs : List Loc) (x1 : Int32) (x2 : Int32) (ls : Array Slot), va_P (dC, dI) vwC (mW ad cA σ) H → va_D (mA ad) (mW ad cA σ) → va_S (mA ad) s.heap H locs → lv_has ls 5 [(0, .ref (ad 0)), (1, .int (x1)), (2, .int (x2))] → k132 σ x1 x2 = some r → W p l e rm_CM_closeTypes s m args below meth c H locs 0 0 Q (F0 m 132 ls [])) (hk142 : ∀ (σ : xSt) (H : Heap) (locs : List Loc) (x1 : Int32) (x2 : Int32) (x3 : Int32) (ls : Array Slot), va_P (dC, dI) vwC (mW ad cA σ) H → va_D (mA ad) (mW ad cA σ) → va_S (mA ad) s.heap H locs → lv_has ls 5 [(0, .ref (ad 0)), (1, .int (x1)), (2, .int (x2)), (3, .int (x3))] → k142 σ x1 x2 x3 = some r → W p l e rm_CM_closeTypes s m args below meth c H locs 0 0 Q (F0 m 142 ls [])) :
    ∀ (σ : xSt) (H : Heap) (locs : List Loc) (x1 : Int32) (x2 : Int32) (x3 : Int32) (s1 : Int32) (s2 : Int32) (ls : Array Slot), va_P (dC, dI) vwC (mW ad cA σ) H → va_D (mA ad) (mW ad cA σ) → va_S (mA ad) s.heap H locs → lv_has ls 5 [(0, .ref (ad 0)), (1, .int (x1)), (2, .int (x2)), (3, .int (x3))] → fCM_closeTypes_b207 k122 k132 k142 σ x1 x2 x3 s1 s2 = some r → W p l e rm_CM_closeTypes s m args below meth c H locs 0 0 Q (F0 m 207 ls [.int (s2), .int (s1), .ref (ad 5)]) := by
  obtain ⟨hx, hb, hml, hown, hts⟩ := id C
  intro σ H locs x1 x2 x3 s1 s2 ls hP hD hS hl h
  unfold fCM_closeTypes_b207 at h
  obtain ⟨b4, h⟩ := gx_nb h
  refine va_zast hx hb hK hP hD hS 5 4 rfl rfl b4 dCM_closeTypes_207 (fun H locs hP hD hS => ?_)
  obtain ⟨σ5, eσ5⟩ : ∃ z, z = sI σ 5 s1.toNatClampNeg (vp_nar .boolean s2) := ⟨_, rfl⟩
  have hP : va_P (dC, dI) vwC (mW ad cA σ5) H := by rw [eσ5]; exact hP
  have hD : va_D (mA ad) (mW ad cA σ5) := by rw [eσ5]; exact hD
  have h := nm_at eσ5 h
  refine lv_iinc (v := x3 + (1 : Int32)) (lv' := [(3, .int (x3 + (1 : Int32))), (0, .ref (ad 0)), (1, .int (x1)), (2, .int (x2))]) hx hb dCM_closeTypes_208 hl (k := 3) rfl rfl (by decide) rfl (fun ls hl => ?_)
  refine lv_goto (tgt := 142) hx hb dCM_closeTypes_211 (by decide) ?_
  exact hk142 _ _ _ _ _ _ _ hP hD hS (lv_sub hl [1, 2, 3, 0] rfl) h
def fCM_closeTypes_b202 (k122 : xSt → Int32 → Option xSt) (k132 : xSt → Int32 → Int32 → Option xSt) (k142 : xSt → Int32 → Int32 → Int32 → Option xSt) (σ : xSt) (x1 : Int32) (x2 : Int32) (x3 : Int32) (s1 : Int32) : Option xSt :=
  fCM_closeTypes_b207 k122 k132 k142 σ x1 x2 x3 s1 (1 : Int32)
set_option maxHeartbeats 4000000 in
set_option maxRecDepth 100000 in
theorem wCM_closeTypes_b202 {p : Program} {l : Launch} {e : Env} {s : State} {m : MethodId} {args : Array Value} {below : List Frame} {meth : Method} {c : Code} {Q : State → Prop} {dC : Nat → ClassId} {dI : Nat → Nat → Nat} {ad : Nat → Nat} {cA : Nat → ClassId} {r : xSt} (C : CallFix p m c cCM_closeTypes 5 s args wAll RCM) (hK : va_K (dC, dI) vwC (mT cA) s) (hend : ∀ (σ : xSt) (H : Heap) (locs : List Loc) (pc : Nat) (ls : Array Slot), σ = r → va_P (dC, dI) vwC (mW ad cA σ) H → va_S (mA ad) s.heap H locs → decode cCM_closeTypes pc = .ok (.return_, 1) → W p l e rm_CM_closeTypes s m args below meth c H locs 0 0 Q (F0 m pc ls [])) {k122 : xSt → Int32 → Option xSt} {k132 : xSt → Int32 → Int32 → Option xSt} {k142 : xSt → Int32 → Int32 → Int32 → Option xSt} (hk122 : ∀ (σ : xSt) (H : Heap) (locs : List Loc) (x1 : Int32) (ls : Array Slot), va_P (dC, dI) vwC (mW ad cA σ) H → va_D (mA ad) (mW ad cA σ) → va_S (mA ad) s.heap H locs → lv_has ls 5 [(0, .ref (ad 0)), (1, .int (x1))] → k122 σ x1 = some r → W p l e rm_CM_closeTypes s m args below meth c H locs 0 0 Q (F0 m 122 ls [])) (hk132 : ∀ (σ : xSt) (H : Heap) (locs : List Loc) (x1 : Int32) (x2 : Int32) (ls : Array Slot), va_P (dC, dI) vwC (mW ad cA σ) H → va_D (mA ad) (mW ad cA σ) → va_S (mA ad) s.heap H locs → lv_has ls 5 [(0, .ref (ad 0)), (1, .int (x1)), (2, .int (x2))] → k132 σ x1 x2 = some r → W p l e rm_CM_closeTypes s m args below meth c H locs 0 0 Q (F0 m 132 ls [])) (hk142 : ∀ (σ : xSt) (H : Heap) (locs : List Loc) (x1 : Int32) (x2 : Int32) (x3 : Int32) (ls : Array Slot), va_P (dC, dI) vwC (mW ad cA σ) H → va_D (mA ad) (mW ad cA σ) → va_S (mA ad) s.heap H locs → lv_has ls 5 [(0, .ref (ad 0)), (1, .int (x1)), (2, .int (x2)), (3, .int (x3))] → k142 σ x1 x2 x3 = some r → W p l e rm_CM_closeTypes s m args below meth c H locs 0 0 Q (F0 m 142 ls [])) :
    ∀ (σ : xSt) (H : Heap) (locs : List Loc) (x1 : Int32) (x2 : Int32) (x3 : Int32) (s1 : Int32) (ls : Array Slot), va_P (dC, dI) vwC (mW ad cA σ) H → va_D (mA ad) (mW ad cA σ) → va_S (mA ad) s.heap H locs → lv_has ls 5 [(0, .ref (ad 0)), (1, .int (x1)), (2, .int (x2)), (3, .int (x3))] → fCM_closeTypes_b202 k122 k132 k142 σ x1 x2 x3 s1 = some r → W p l e rm_CM_closeTypes s m args below meth c H locs 0 0 Q (F0 m 202 ls [.int (s1), .ref (ad 5)]) := by
  obtain ⟨hx, hb, hml, hown, hts⟩ := id C
  intro σ H locs x1 x2 x3 s1 ls hP hD hS hl h
  unfold fCM_closeTypes_b202 at h
  refine lv_iconst (v := (1 : Int32)) hx hb dCM_closeTypes_202 (by decide) ?_
  refine lv_goto (tgt := 207) hx hb dCM_closeTypes_203 (by decide) ?_
  exact wCM_closeTypes_b207 C hK hend hk122 hk132 hk142 _ _ _ _ _ _ _ _ _ hP hD hS (lv_sub hl [0, 1, 2, 3] rfl) h
def fCM_closeTypes_b206 (k122 : xSt → Int32 → Option xSt) (k132 : xSt → Int32 → Int32 → Option xSt) (k142 : xSt → Int32 → Int32 → Int32 → Option xSt) (σ : xSt) (x1 : Int32) (x2 : Int32) (x3 : Int32) (s1 : Int32) : Option xSt :=
  fCM_closeTypes_b207 k122 k132 k142 σ x1 x2 x3 s1 (0 : Int32)
set_option maxHeartbeats 4000000 in
set_option maxRecDepth 100000 in
theorem wCM_closeTypes_b206 {p : Program} {l : Launch} {e : Env} {s : State} {m : MethodId} {args : Array Value} {below : List Frame} {meth : Method} {c : Code} {Q : State → Prop} {dC : Nat → ClassId} {dI : Nat → Nat → Nat} {ad : Nat → Nat} {cA : Nat → ClassId} {r : xSt} (C : CallFix p m c cCM_closeTypes 5 s args wAll RCM) (hK : va_K (dC, dI) vwC (mT cA) s) (hend : ∀ (σ : xSt) (H : Heap) (locs : List Loc) (pc : Nat) (ls : Array Slot), σ = r → va_P (dC, dI) vwC (mW ad cA σ) H → va_S (mA ad) s.heap H locs → decode cCM_closeTypes pc = .ok (.return_, 1) → W p l e rm_CM_closeTypes s m args below meth c H locs 0 0 Q (F0 m pc ls [])) {k122 : xSt → Int32 → Option xSt} {k132 : xSt → Int32 → Int32 → Option xSt} {k142 : xSt → Int32 → Int32 → Int32 → Option xSt} (hk122 : ∀ (σ : xSt) (H : Heap) (locs : List Loc) (x1 : Int32) (ls : Array Slot), va_P (dC, dI) vwC (mW ad cA σ) H → va_D (mA ad) (mW ad cA σ) → va_S (mA ad) s.heap H locs → lv_has ls 5 [(0, .ref (ad 0)), (1, .int (x1))] → k122 σ x1 = some r → W p l e rm_CM_closeTypes s m args below meth c H locs 0 0 Q (F0 m 122 ls [])) (hk132 : ∀ (σ : xSt) (H : Heap) (locs : List Loc) (x1 : Int32) (x2 : Int32) (ls : Array Slot), va_P (dC, dI) vwC (mW ad cA σ) H → va_D (mA ad) (mW ad cA σ) → va_S (mA ad) s.heap H locs → lv_has ls 5 [(0, .ref (ad 0)), (1, .int (x1)), (2, .int (x2))] → k132 σ x1 x2 = some r → W p l e rm_CM_closeTypes s m args below meth c H locs 0 0 Q (F0 m 132 ls [])) (hk142 : ∀ (σ : xSt) (H : Heap) (locs : List Loc) (x1 : Int32) (x2 : Int32) (x3 : Int32) (ls : Array Slot), va_P (dC, dI) vwC (mW ad cA σ) H → va_D (mA ad) (mW ad cA σ) → va_S (mA ad) s.heap H locs → lv_has ls 5 [(0, .ref (ad 0)), (1, .int (x1)), (2, .int (x2)), (3, .int (x3))] → k142 σ x1 x2 x3 = some r → W p l e rm_CM_closeTypes s m args below meth c H locs 0 0 Q (F0 m 142 ls [])) :
    ∀ (σ : xSt) (H : Heap) (locs : List Loc) (x1 : Int32) (x2 : Int32) (x3 : Int32) (s1 : Int32) (ls : Array Slot), va_P (dC, dI) vwC (mW ad cA σ) H → va_D (mA ad) (mW ad cA σ) → va_S (mA ad) s.heap H locs → lv_has ls 5 [(0, .ref (ad 0)), (1, .int (x1)), (2, .int (x2)), (3, .int (x3))] → fCM_closeTypes_b206 k122 k132 k142 σ x1 x2 x3 s1 = some r → W p l e rm_CM_closeTypes s m args below meth c H locs 0 0 Q (F0 m 206 ls [.int (s1), .ref (ad 5)]) := by
  obtain ⟨hx, hb, hml, hown, hts⟩ := id C
  intro σ H locs x1 x2 x3 s1 ls hP hD hS hl h
  unfold fCM_closeTypes_b206 at h
  refine lv_iconst (v := (0 : Int32)) hx hb dCM_closeTypes_206 (by decide) ?_
  exact wCM_closeTypes_b207 C hK hend hk122 hk132 hk142 _ _ _ _ _ _ _ _ _ hP hD hS (lv_sub hl [0, 1, 2, 3] rfl) h
def fCM_closeTypes_b142 (k122 : xSt → Int32 → Option xSt) (k132 : xSt → Int32 → Int32 → Option xSt) : Nat → xSt → Int32 → Int32 → Int32 → Option xSt
  | 0, _, _, _, _ => none
  | n + 1, σ, x1, x2, x3 =>
    if (σ.1 0 0) ≤ x3 then
      k132 σ x1 (x2 + (1 : Int32))
    else
      if (((24 : Int32) * x2) + x3) < 0 ∨ 576 ≤ (((24 : Int32) * x2) + x3).toNatClampNeg then none else
      if (σ.1 5 (((24 : Int32) * x2) + x3).toNatClampNeg) = 0 then
        if (((24 : Int32) * x2) + x1) < 0 ∨ 576 ≤ (((24 : Int32) * x2) + x1).toNatClampNeg then none else
        if (σ.1 5 (((24 : Int32) * x2) + x1).toNatClampNeg) = 0 then
          fCM_closeTypes_b206 k122 k132 (fCM_closeTypes_b142 k122 k132 n) σ x1 x2 x3 (((24 : Int32) * x2) + x3)
        else
          if (((24 : Int32) * x1) + x3) < 0 ∨ 576 ≤ (((24 : Int32) * x1) + x3).toNatClampNeg then none else
          if (σ.1 5 (((24 : Int32) * x1) + x3).toNatClampNeg) = 0 then
            fCM_closeTypes_b206 k122 k132 (fCM_closeTypes_b142 k122 k132 n) σ x1 x2 x3 (((24 : Int32) * x2) + x3)
          else
            fCM_closeTypes_b202 k122 k132 (fCM_closeTypes_b142 k122 k132 n) σ x1 x2 x3 (((24 : Int32) * x2) + x3)
      else
        fCM_closeTypes_b202 k122 k132 (fCM_closeTypes_b142 k122 k132 n) σ x1 x2 x3 (((24 : Int32) * x2) + x3)
set_option maxHeartbeats 4000000 in
set_option maxRecDepth 100000 in
theorem wCM_closeTypes_b142 {p : Program} {l : Launch} {e : Env} {s : State} {m : MethodId} {args : Array Value} {below : List Frame} {meth : Method} {c : Code} {Q : State → Prop} {dC : Nat → ClassId} {dI : Nat → Nat → Nat} {ad : Nat → Nat} {cA : Nat → ClassId} {r : xSt} (C : CallFix p m c cCM_closeTypes 5 s args wAll RCM) (hK : va_K (dC, dI) vwC (mT cA) s) (hend : ∀ (σ : xSt) (H : Heap) (locs : List Loc) (pc : Nat) (ls : Array Slot), σ = r → va_P (dC, dI) vwC (mW ad cA σ) H → va_S (mA ad) s.heap H locs → decode cCM_closeTypes pc = .ok (.return_, 1) → W p l e rm_CM_closeTypes s m args below meth c H locs 0 0 Q (F0 m pc ls [])) {k122 : xSt → Int32 → Option xSt} {k132 : xSt → Int32 → Int32 → Option xSt} (hk122 : ∀ (σ : xSt) (H : Heap) (locs : List Loc) (x1 : Int32) (ls : Array Slot), va_P (dC, dI) vwC (mW ad cA σ) H → va_D (mA ad) (mW ad cA σ) → va_S (mA ad) s.heap H locs → lv_has ls 5 [(0, .ref (ad 0)), (1, .int (x1))] → k122 σ x1 = some r → W p l e rm_CM_closeTypes s m args below meth c H locs 0 0 Q (F0 m 122 ls [])) (hk132 : ∀ (σ : xSt) (H : Heap) (locs : List Loc) (x1 : Int32) (x2 : Int32) (ls : Array Slot), va_P (dC, dI) vwC (mW ad cA σ) H → va_D (mA ad) (mW ad cA σ) → va_S (mA ad) s.heap H locs → lv_has ls 5 [(0, .ref (ad 0)), (1, .int (x1)), (2, .int (x2))] → k132 σ x1 x2 = some r → W p l e rm_CM_closeTypes s m args below meth c H locs 0 0 Q (F0 m 132 ls [])) :
    ∀ (n : Nat) (σ : xSt) (H : Heap) (locs : List Loc) (x1 : Int32) (x2 : Int32) (x3 : Int32) (ls : Array Slot), va_P (dC, dI) vwC (mW ad cA σ) H → va_D (mA ad) (mW ad cA σ) → va_S (mA ad) s.heap H locs → lv_has ls 5 [(0, .ref (ad 0)), (1, .int (x1)), (2, .int (x2)), (3, .int (x3))] → fCM_closeTypes_b142 k122 k132 n σ x1 x2 x3 = some r → W p l e rm_CM_closeTypes s m args below meth c H locs 0 0 Q (F0 m 142 ls []) := by
  obtain ⟨hx, hb, hml, hown, hts⟩ := id C
  intro n
  induction n with
  | zero =>
    intro σ H locs x1 x2 x3 ls hP hD hS hl h
    rw [fCM_closeTypes_b142] at h
    cases h
  | succ n ih =>
    intro σ H locs x1 x2 x3 ls hP hD hS hl h
    rw [fCM_closeTypes_b142] at h
    refine lv_iload_n hx hb dCM_closeTypes_142 rfl (lv_at hl 3 rfl) ?_
    refine lv_aload_n hx hb dCM_closeTypes_143 rfl (lv_at hl 0 rfl) ?_
    refine va_get (D := (dC, dI)) (ci := 5) (v := .int (σ.1 0 0)) (C := RCM) (T := TCM) (N := 23) hx hb hts inCM hown hK hP 0 rfl rfl 0 (by decide) (hts _ mw_355) (fun _ h9 => h9) rfl dCM_closeTypes_144 ?_
    refine lv_icmp_ge (tgt := 214) hx hb dCM_closeTypes_147 (by decide) (fun c11 => ?_) (fun c11 => ?_)
    · have h := (if_pos c11).symm.trans h
      refine lv_iinc (v := x2 + (1 : Int32)) (lv' := [(2, .int (x2 + (1 : Int32))), (0, .ref (ad 0)), (1, .int (x1)), (3, .int (x3))]) hx hb dCM_closeTypes_214 hl (k := 2) rfl rfl (by decide) rfl (fun ls hl => ?_)
      refine lv_goto (tgt := 132) hx hb dCM_closeTypes_217 (by decide) ?_
      exact hk132 _ _ _ _ _ _ hP hD hS (lv_sub hl [1, 2, 0] rfl) h
    · have h := (if_neg c11).symm.trans h
      refine lv_aload_n hx hb dCM_closeTypes_150 rfl (lv_at hl 0 rfl) ?_
      refine va_get (D := (dC, dI)) (ci := 5) (v := .ref (ad 5)) (C := RCM) (T := TCM) (N := 23) hx hb hts inCM hown hK hP 0 rfl rfl 5 (by decide) (hts _ mw_365) (fun _ h9 => h9) rfl dCM_closeTypes_151 ?_
      refine lv_bipush (v := (24 : Int32)) hx hb dCM_closeTypes_154 (by decide) ?_
      refine lv_iload_n hx hb dCM_closeTypes_156 rfl (lv_at hl 2 rfl) ?_
      refine lv_imul hx hb dCM_closeTypes_157 ?_
      refine lv_iload_n hx hb dCM_closeTypes_158 rfl (lv_at hl 3 rfl) ?_
      refine lv_iadd hx hb dCM_closeTypes_159 ?_
      refine lv_aload_n hx hb dCM_closeTypes_160 rfl (lv_at hl 0 rfl) ?_
      refine va_get (D := (dC, dI)) (ci := 5) (v := .ref (ad 5)) (C := RCM) (T := TCM) (N := 23) hx hb hts inCM hown hK hP 0 rfl rfl 5 (by decide) (hts _ mw_365) (fun _ h9 => h9) rfl dCM_closeTypes_161 ?_
      refine lv_bipush (v := (24 : Int32)) hx hb dCM_closeTypes_164 (by decide) ?_
      refine lv_iload_n hx hb dCM_closeTypes_166 rfl (lv_at hl 2 rfl) ?_
      refine lv_imul hx hb dCM_closeTypes_167 ?_
      refine lv_iload_n hx hb dCM_closeTypes_168 rfl (lv_at hl 3 rfl) ?_
      refine lv_iadd hx hb dCM_closeTypes_169 ?_
      obtain ⟨b3, h⟩ := gx_nb h
      refine va_zald hx hb hK hP 5 4 rfl rfl b3 dCM_closeTypes_170 ?_
      refine lv_if_ne (tgt := 202) hx hb dCM_closeTypes_171 (by decide) (fun c10 => ?_) (fun c10 => ?_)
      · have h := (if_neg c10).symm.trans h
        exact wCM_closeTypes_b202 C hK hend hk122 hk132 ih _ _ _ _ _ _ _ _ hP hD hS (lv_sub hl [0, 1, 2, 3] rfl) h
      · have h := (if_pos c10).symm.trans h
        refine lv_aload_n hx hb dCM_closeTypes_174 rfl (lv_at hl 0 rfl) ?_
        refine va_get (D := (dC, dI)) (ci := 5) (v := .ref (ad 5)) (C := RCM) (T := TCM) (N := 23) hx hb hts inCM hown hK hP 0 rfl rfl 5 (by decide) (hts _ mw_365) (fun _ h9 => h9) rfl dCM_closeTypes_175 ?_
        refine lv_bipush (v := (24 : Int32)) hx hb dCM_closeTypes_178 (by decide) ?_
        refine lv_iload_n hx hb dCM_closeTypes_180 rfl (lv_at hl 2 rfl) ?_
        refine lv_imul hx hb dCM_closeTypes_181 ?_
        refine lv_iload_n hx hb dCM_closeTypes_182 rfl (lv_at hl 1 rfl) ?_
        refine lv_iadd hx hb dCM_closeTypes_183 ?_
        obtain ⟨b6, h⟩ := gx_nb h
        refine va_zald hx hb hK hP 5 4 rfl rfl b6 dCM_closeTypes_184 ?_
        refine lv_if_eq (tgt := 206) hx hb dCM_closeTypes_185 (by decide) (fun c9 => ?_) (fun c9 => ?_)
        · have h := (if_pos c9).symm.trans h
          exact wCM_closeTypes_b206 C hK hend hk122 hk132 ih _ _ _ _ _ _ _ _ hP hD hS (lv_sub hl [0, 1, 2, 3] rfl) h
        · have h := (if_neg c9).symm.trans h
          refine lv_aload_n hx hb dCM_closeTypes_188 rfl (lv_at hl 0 rfl) ?_
          refine va_get (D := (dC, dI)) (ci := 5) (v := .ref (ad 5)) (C := RCM) (T := TCM) (N := 23) hx hb hts inCM hown hK hP 0 rfl rfl 5 (by decide) (hts _ mw_365) (fun _ h9 => h9) rfl dCM_closeTypes_189 ?_
          refine lv_bipush (v := (24 : Int32)) hx hb dCM_closeTypes_192 (by decide) ?_
          refine lv_iload_n hx hb dCM_closeTypes_194 rfl (lv_at hl 1 rfl) ?_
          refine lv_imul hx hb dCM_closeTypes_195 ?_
          refine lv_iload_n hx hb dCM_closeTypes_196 rfl (lv_at hl 3 rfl) ?_
          refine lv_iadd hx hb dCM_closeTypes_197 ?_
          obtain ⟨b7, h⟩ := gx_nb h
          refine va_zald hx hb hK hP 5 4 rfl rfl b7 dCM_closeTypes_198 ?_
          refine lv_if_eq (tgt := 206) hx hb dCM_closeTypes_199 (by decide) (fun c8 => ?_) (fun c8 => ?_)
          · have h := (if_pos c8).symm.trans h
            exact wCM_closeTypes_b206 C hK hend hk122 hk132 ih _ _ _ _ _ _ _ _ hP hD hS (lv_sub hl [0, 1, 2, 3] rfl) h
          · have h := (if_neg c8).symm.trans h
            exact wCM_closeTypes_b202 C hK hend hk122 hk132 ih _ _ _ _ _ _ _ _ hP hD hS (lv_sub hl [0, 1, 2, 3] rfl) h
def fCM_closeTypes_b132 (k122 : xSt → Int32 → Option xSt) : Nat → xSt → Int32 → Int32 → Option xSt
  | 0, _, _, _ => none
  | n + 1, σ, x1, x2 =>
    if (σ.1 0 0) ≤ x2 then
      k122 σ (x1 + (1 : Int32))
    else
      fCM_closeTypes_b142 k122 (fCM_closeTypes_b132 k122 n) gF σ x1 x2 (0 : Int32)
set_option maxHeartbeats 4000000 in
set_option maxRecDepth 100000 in
theorem wCM_closeTypes_b132 {p : Program} {l : Launch} {e : Env} {s : State} {m : MethodId} {args : Array Value} {below : List Frame} {meth : Method} {c : Code} {Q : State → Prop} {dC : Nat → ClassId} {dI : Nat → Nat → Nat} {ad : Nat → Nat} {cA : Nat → ClassId} {r : xSt} (C : CallFix p m c cCM_closeTypes 5 s args wAll RCM) (hK : va_K (dC, dI) vwC (mT cA) s) (hend : ∀ (σ : xSt) (H : Heap) (locs : List Loc) (pc : Nat) (ls : Array Slot), σ = r → va_P (dC, dI) vwC (mW ad cA σ) H → va_S (mA ad) s.heap H locs → decode cCM_closeTypes pc = .ok (.return_, 1) → W p l e rm_CM_closeTypes s m args below meth c H locs 0 0 Q (F0 m pc ls [])) {k122 : xSt → Int32 → Option xSt} (hk122 : ∀ (σ : xSt) (H : Heap) (locs : List Loc) (x1 : Int32) (ls : Array Slot), va_P (dC, dI) vwC (mW ad cA σ) H → va_D (mA ad) (mW ad cA σ) → va_S (mA ad) s.heap H locs → lv_has ls 5 [(0, .ref (ad 0)), (1, .int (x1))] → k122 σ x1 = some r → W p l e rm_CM_closeTypes s m args below meth c H locs 0 0 Q (F0 m 122 ls [])) :
    ∀ (n : Nat) (σ : xSt) (H : Heap) (locs : List Loc) (x1 : Int32) (x2 : Int32) (ls : Array Slot), va_P (dC, dI) vwC (mW ad cA σ) H → va_D (mA ad) (mW ad cA σ) → va_S (mA ad) s.heap H locs → lv_has ls 5 [(0, .ref (ad 0)), (1, .int (x1)), (2, .int (x2))] → fCM_closeTypes_b132 k122 n σ x1 x2 = some r → W p l e rm_CM_closeTypes s m args below meth c H locs 0 0 Q (F0 m 132 ls []) := by
  obtain ⟨hx, hb, hml, hown, hts⟩ := id C
  intro n
  induction n with
  | zero =>
    intro σ H locs x1 x2 ls hP hD hS hl h
    rw [fCM_closeTypes_b132] at h
    cases h
  | succ n ih =>
    intro σ H locs x1 x2 ls hP hD hS hl h
    rw [fCM_closeTypes_b132] at h
    refine lv_iload_n hx hb dCM_closeTypes_132 rfl (lv_at hl 2 rfl) ?_
    refine lv_aload_n hx hb dCM_closeTypes_133 rfl (lv_at hl 0 rfl) ?_
    refine va_get (D := (dC, dI)) (ci := 5) (v := .int (σ.1 0 0)) (C := RCM) (T := TCM) (N := 23) hx hb hts inCM hown hK hP 0 rfl rfl 0 (by decide) (hts _ mw_355) (fun _ h9 => h9) rfl dCM_closeTypes_134 ?_
    refine lv_icmp_ge (tgt := 220) hx hb dCM_closeTypes_137 (by decide) (fun c12 => ?_) (fun c12 => ?_)
    · have h := (if_pos c12).symm.trans h
      refine lv_iinc (v := x1 + (1 : Int32)) (lv' := [(1, .int (x1 + (1 : Int32))), (0, .ref (ad 0)), (2, .int (x2))]) hx hb dCM_closeTypes_220 hl (k := 1) rfl rfl (by decide) rfl (fun ls hl => ?_)
      refine lv_goto (tgt := 122) hx hb dCM_closeTypes_223 (by decide) ?_
      exact hk122 _ _ _ _ _ hP hD hS (lv_sub hl [1, 0] rfl) h
    · have h := (if_neg c12).symm.trans h
      refine lv_iconst (v := (0 : Int32)) hx hb dCM_closeTypes_140 (by decide) ?_
      refine lv_istore_n (lv' := [(3, .int ((0 : Int32))), (0, .ref (ad 0)), (1, .int (x1)), (2, .int (x2))]) hx hb dCM_closeTypes_141 rfl hl (by decide) rfl (fun ls hl => ?_)
      exact wCM_closeTypes_b142 C hK hend hk122 ih _ _ _ _ _ _ _ _ hP hD hS (lv_sub hl [1, 2, 3, 0] rfl) h
def fCM_closeTypes_b122 : Nat → xSt → Int32 → Option xSt
  | 0, _, _ => none
  | n + 1, σ, x1 =>
    if (σ.1 0 0) ≤ x1 then
      some σ
    else
      fCM_closeTypes_b132 (fCM_closeTypes_b122 n) gF σ x1 (0 : Int32)
set_option maxHeartbeats 4000000 in
set_option maxRecDepth 100000 in
theorem wCM_closeTypes_b122 {p : Program} {l : Launch} {e : Env} {s : State} {m : MethodId} {args : Array Value} {below : List Frame} {meth : Method} {c : Code} {Q : State → Prop} {dC : Nat → ClassId} {dI : Nat → Nat → Nat} {ad : Nat → Nat} {cA : Nat → ClassId} {r : xSt} (C : CallFix p m c cCM_closeTypes 5 s args wAll RCM) (hK : va_K (dC, dI) vwC (mT cA) s) (hend : ∀ (σ : xSt) (H : Heap) (locs : List Loc) (pc : Nat) (ls : Array Slot), σ = r → va_P (dC, dI) vwC (mW ad cA σ) H → va_S (mA ad) s.heap H locs → decode cCM_closeTypes pc = .ok (.return_, 1) → W p l e rm_CM_closeTypes s m args below meth c H locs 0 0 Q (F0 m pc ls [])) :
    ∀ (n : Nat) (σ : xSt) (H : Heap) (locs : List Loc) (x1 : Int32) (ls : Array Slot), va_P (dC, dI) vwC (mW ad cA σ) H → va_D (mA ad) (mW ad cA σ) → va_S (mA ad) s.heap H locs → lv_has ls 5 [(0, .ref (ad 0)), (1, .int (x1))] → fCM_closeTypes_b122 n σ x1 = some r → W p l e rm_CM_closeTypes s m args below meth c H locs 0 0 Q (F0 m 122 ls []) := by
  obtain ⟨hx, hb, hml, hown, hts⟩ := id C
  intro n
  induction n with
  | zero =>
    intro σ H locs x1 ls hP hD hS hl h
    rw [fCM_closeTypes_b122] at h
    cases h
  | succ n ih =>
    intro σ H locs x1 ls hP hD hS hl h
    rw [fCM_closeTypes_b122] at h
    refine lv_iload_n hx hb dCM_closeTypes_122 rfl (lv_at hl 1 rfl) ?_
    refine lv_aload_n hx hb dCM_closeTypes_123 rfl (lv_at hl 0 rfl) ?_
    refine va_get (D := (dC, dI)) (ci := 5) (v := .int (σ.1 0 0)) (C := RCM) (T := TCM) (N := 23) hx hb hts inCM hown hK hP 0 rfl rfl 0 (by decide) (hts _ mw_355) (fun _ h9 => h9) rfl dCM_closeTypes_124 ?_
    refine lv_icmp_ge (tgt := 226) hx hb dCM_closeTypes_127 (by decide) (fun c13 => ?_) (fun c13 => ?_)
    · have h := (if_pos c13).symm.trans h
      exact hend _ _ _ _ _ (Option.some.inj h) hP hS dCM_closeTypes_226
    · have h := (if_neg c13).symm.trans h
      refine lv_iconst (v := (0 : Int32)) hx hb dCM_closeTypes_130 (by decide) ?_
      refine lv_istore_n (lv' := [(2, .int ((0 : Int32))), (0, .ref (ad 0)), (1, .int (x1))]) hx hb dCM_closeTypes_131 rfl hl (by decide) rfl (fun ls hl => ?_)
      exact wCM_closeTypes_b132 C hK hend ih _ _ _ _ _ _ _ hP hD hS (lv_sub hl [1, 2, 0] rfl) h
def fCM_closeTypes_b89 (k6 : xSt → Int32 → Option xSt) (k16 : xSt → Int32 → Int32 → Option xSt) (k51 : xSt → Int32 → Int32 → Int32 → Int32 → Option xSt) (σ : xSt) (x1 : Int32) (x2 : Int32) (x4 : Int32) (s0 : Int32) : Option xSt :=
  k51 σ x1 x2 s0 (x4 + (1 : Int32))
set_option maxHeartbeats 4000000 in
set_option maxRecDepth 100000 in
theorem wCM_closeTypes_b89 {p : Program} {l : Launch} {e : Env} {s : State} {m : MethodId} {args : Array Value} {below : List Frame} {meth : Method} {c : Code} {Q : State → Prop} {dC : Nat → ClassId} {dI : Nat → Nat → Nat} {ad : Nat → Nat} {cA : Nat → ClassId} {r : xSt} (C : CallFix p m c cCM_closeTypes 5 s args wAll RCM) (hK : va_K (dC, dI) vwC (mT cA) s) (hend : ∀ (σ : xSt) (H : Heap) (locs : List Loc) (pc : Nat) (ls : Array Slot), σ = r → va_P (dC, dI) vwC (mW ad cA σ) H → va_S (mA ad) s.heap H locs → decode cCM_closeTypes pc = .ok (.return_, 1) → W p l e rm_CM_closeTypes s m args below meth c H locs 0 0 Q (F0 m pc ls [])) {k6 : xSt → Int32 → Option xSt} {k16 : xSt → Int32 → Int32 → Option xSt} {k51 : xSt → Int32 → Int32 → Int32 → Int32 → Option xSt} (hk6 : ∀ (σ : xSt) (H : Heap) (locs : List Loc) (x1 : Int32) (ls : Array Slot), va_P (dC, dI) vwC (mW ad cA σ) H → va_D (mA ad) (mW ad cA σ) → va_S (mA ad) s.heap H locs → lv_has ls 5 [(0, .ref (ad 0)), (1, .int (x1))] → k6 σ x1 = some r → W p l e rm_CM_closeTypes s m args below meth c H locs 0 0 Q (F0 m 6 ls [])) (hk16 : ∀ (σ : xSt) (H : Heap) (locs : List Loc) (x1 : Int32) (x2 : Int32) (ls : Array Slot), va_P (dC, dI) vwC (mW ad cA σ) H → va_D (mA ad) (mW ad cA σ) → va_S (mA ad) s.heap H locs → lv_has ls 5 [(0, .ref (ad 0)), (1, .int (x1)), (2, .int (x2))] → k16 σ x1 x2 = some r → W p l e rm_CM_closeTypes s m args below meth c H locs 0 0 Q (F0 m 16 ls [])) (hk51 : ∀ (σ : xSt) (H : Heap) (locs : List Loc) (x1 : Int32) (x2 : Int32) (x3 : Int32) (x4 : Int32) (ls : Array Slot), va_P (dC, dI) vwC (mW ad cA σ) H → va_D (mA ad) (mW ad cA σ) → va_S (mA ad) s.heap H locs → lv_has ls 5 [(0, .ref (ad 0)), (1, .int (x1)), (2, .int (x2)), (3, .int (x3)), (4, .int (x4))] → k51 σ x1 x2 x3 x4 = some r → W p l e rm_CM_closeTypes s m args below meth c H locs 0 0 Q (F0 m 51 ls [])) :
    ∀ (σ : xSt) (H : Heap) (locs : List Loc) (x1 : Int32) (x2 : Int32) (x4 : Int32) (s0 : Int32) (ls : Array Slot), va_P (dC, dI) vwC (mW ad cA σ) H → va_D (mA ad) (mW ad cA σ) → va_S (mA ad) s.heap H locs → lv_has ls 5 [(0, .ref (ad 0)), (1, .int (x1)), (2, .int (x2)), (4, .int (x4))] → fCM_closeTypes_b89 k6 k16 k51 σ x1 x2 x4 s0 = some r → W p l e rm_CM_closeTypes s m args below meth c H locs 0 0 Q (F0 m 89 ls [.int (s0)]) := by
  obtain ⟨hx, hb, hml, hown, hts⟩ := id C
  intro σ H locs x1 x2 x4 s0 ls hP hD hS hl h
  unfold fCM_closeTypes_b89 at h
  refine lv_istore_n (lv' := [(3, .int (s0)), (0, .ref (ad 0)), (1, .int (x1)), (2, .int (x2)), (4, .int (x4))]) hx hb dCM_closeTypes_89 rfl hl (by decide) rfl (fun ls hl => ?_)
  refine lv_iinc (v := x4 + (1 : Int32)) (lv' := [(4, .int (x4 + (1 : Int32))), (3, .int (s0)), (0, .ref (ad 0)), (1, .int (x1)), (2, .int (x2))]) hx hb dCM_closeTypes_90 hl (k := 4) rfl rfl (by decide) rfl (fun ls hl => ?_)
  refine lv_goto (tgt := 51) hx hb dCM_closeTypes_93 (by decide) ?_
  exact hk51 _ _ _ _ _ _ _ _ hP hD hS (lv_sub hl [2, 3, 4, 1, 0] rfl) h
def fCM_closeTypes_b84 (k6 : xSt → Int32 → Option xSt) (k16 : xSt → Int32 → Int32 → Option xSt) (k51 : xSt → Int32 → Int32 → Int32 → Int32 → Option xSt) (σ : xSt) (x1 : Int32) (x2 : Int32) (x4 : Int32) : Option xSt :=
  fCM_closeTypes_b89 k6 k16 k51 σ x1 x2 x4 (1 : Int32)
set_option maxHeartbeats 4000000 in
set_option maxRecDepth 100000 in
theorem wCM_closeTypes_b84 {p : Program} {l : Launch} {e : Env} {s : State} {m : MethodId} {args : Array Value} {below : List Frame} {meth : Method} {c : Code} {Q : State → Prop} {dC : Nat → ClassId} {dI : Nat → Nat → Nat} {ad : Nat → Nat} {cA : Nat → ClassId} {r : xSt} (C : CallFix p m c cCM_closeTypes 5 s args wAll RCM) (hK : va_K (dC, dI) vwC (mT cA) s) (hend : ∀ (σ : xSt) (H : Heap) (locs : List Loc) (pc : Nat) (ls : Array Slot), σ = r → va_P (dC, dI) vwC (mW ad cA σ) H → va_S (mA ad) s.heap H locs → decode cCM_closeTypes pc = .ok (.return_, 1) → W p l e rm_CM_closeTypes s m args below meth c H locs 0 0 Q (F0 m pc ls [])) {k6 : xSt → Int32 → Option xSt} {k16 : xSt → Int32 → Int32 → Option xSt} {k51 : xSt → Int32 → Int32 → Int32 → Int32 → Option xSt} (hk6 : ∀ (σ : xSt) (H : Heap) (locs : List Loc) (x1 : Int32) (ls : Array Slot), va_P (dC, dI) vwC (mW ad cA σ) H → va_D (mA ad) (mW ad cA σ) → va_S (mA ad) s.heap H locs → lv_has ls 5 [(0, .ref (ad 0)), (1, .int (x1))] → k6 σ x1 = some r → W p l e rm_CM_closeTypes s m args below meth c H locs 0 0 Q (F0 m 6 ls [])) (hk16 : ∀ (σ : xSt) (H : Heap) (locs : List Loc) (x1 : Int32) (x2 : Int32) (ls : Array Slot), va_P (dC, dI) vwC (mW ad cA σ) H → va_D (mA ad) (mW ad cA σ) → va_S (mA ad) s.heap H locs → lv_has ls 5 [(0, .ref (ad 0)), (1, .int (x1)), (2, .int (x2))] → k16 σ x1 x2 = some r → W p l e rm_CM_closeTypes s m args below meth c H locs 0 0 Q (F0 m 16 ls [])) (hk51 : ∀ (σ : xSt) (H : Heap) (locs : List Loc) (x1 : Int32) (x2 : Int32) (x3 : Int32) (x4 : Int32) (ls : Array Slot), va_P (dC, dI) vwC (mW ad cA σ) H → va_D (mA ad) (mW ad cA σ) → va_S (mA ad) s.heap H locs → lv_has ls 5 [(0, .ref (ad 0)), (1, .int (x1)), (2, .int (x2)), (3, .int (x3)), (4, .int (x4))] → k51 σ x1 x2 x3 x4 = some r → W p l e rm_CM_closeTypes s m args below meth c H locs 0 0 Q (F0 m 51 ls [])) :
    ∀ (σ : xSt) (H : Heap) (locs : List Loc) (x1 : Int32) (x2 : Int32) (x4 : Int32) (ls : Array Slot), va_P (dC, dI) vwC (mW ad cA σ) H → va_D (mA ad) (mW ad cA σ) → va_S (mA ad) s.heap H locs → lv_has ls 5 [(0, .ref (ad 0)), (1, .int (x1)), (2, .int (x2)), (4, .int (x4))] → fCM_closeTypes_b84 k6 k16 k51 σ x1 x2 x4 = some r → W p l e rm_CM_closeTypes s m args below meth c H locs 0 0 Q (F0 m 84 ls []) := by
  obtain ⟨hx, hb, hml, hown, hts⟩ := id C
  intro σ H locs x1 x2 x4 ls hP hD hS hl h
  unfold fCM_closeTypes_b84 at h
  refine lv_iconst (v := (1 : Int32)) hx hb dCM_closeTypes_84 (by decide) ?_
  refine lv_goto (tgt := 89) hx hb dCM_closeTypes_85 (by decide) ?_
  exact wCM_closeTypes_b89 C hK hend hk6 hk16 hk51 _ _ _ _ _ _ _ _ hP hD hS (lv_sub hl [0, 1, 2, 3] rfl) h
def fCM_closeTypes_b51 (k6 : xSt → Int32 → Option xSt) (k16 : xSt → Int32 → Int32 → Option xSt) : Nat → xSt → Int32 → Int32 → Int32 → Int32 → Option xSt
  | 0, _, _, _, _, _ => none
  | n + 1, σ, x1, x2, x3, x4 =>
    if x1 < 0 ∨ 24 ≤ x1.toNatClampNeg then none else
    if (σ.1 3 x1.toNatClampNeg) ≤ x4 then
      if (((24 : Int32) * x1) + x2) < 0 ∨ 576 ≤ (((24 : Int32) * x1) + x2).toNatClampNeg then none else
      nm (sI σ 5 (((24 : Int32) * x1) + x2).toNatClampNeg (vp_nar .boolean x3)) fun σ16 =>
      k16 σ16 x1 (x2 + (1 : Int32))
    else
      if x3 = 0 then
        if (((4 : Int32) * x1) + x4) < 0 ∨ 96 ≤ (((4 : Int32) * x1) + x4).toNatClampNeg then none else
        if (σ.1 4 (((4 : Int32) * x1) + x4).toNatClampNeg) = ((16 : Int32) + x2) then
          fCM_closeTypes_b84 k6 k16 (fCM_closeTypes_b51 k6 k16 n) σ x1 x2 x4
        else
          fCM_closeTypes_b89 k6 k16 (fCM_closeTypes_b51 k6 k16 n) σ x1 x2 x4 (0 : Int32)
      else
        fCM_closeTypes_b84 k6 k16 (fCM_closeTypes_b51 k6 k16 n) σ x1 x2 x4
set_option maxHeartbeats 4000000 in
set_option maxRecDepth 100000 in
theorem wCM_closeTypes_b51 {p : Program} {l : Launch} {e : Env} {s : State} {m : MethodId} {args : Array Value} {below : List Frame} {meth : Method} {c : Code} {Q : State → Prop} {dC : Nat → ClassId} {dI : Nat → Nat → Nat} {ad : Nat → Nat} {cA : Nat → ClassId} {r : xSt} (C : CallFix p m c cCM_closeTypes 5 s args wAll RCM) (hK : va_K (dC, dI) vwC (mT cA) s) (hend : ∀ (σ : xSt) (H : Heap) (locs : List Loc) (pc : Nat) (ls : Array Slot), σ = r → va_P (dC, dI) vwC (mW ad cA σ) H → va_S (mA ad) s.heap H locs → decode cCM_closeTypes pc = .ok (.return_, 1) → W p l e rm_CM_closeTypes s m args below meth c H locs 0 0 Q (F0 m pc ls [])) {k6 : xSt → Int32 → Option xSt} {k16 : xSt → Int32 → Int32 → Option xSt} (hk6 : ∀ (σ : xSt) (H : Heap) (locs : List Loc) (x1 : Int32) (ls : Array Slot), va_P (dC, dI) vwC (mW ad cA σ) H → va_D (mA ad) (mW ad cA σ) → va_S (mA ad) s.heap H locs → lv_has ls 5 [(0, .ref (ad 0)), (1, .int (x1))] → k6 σ x1 = some r → W p l e rm_CM_closeTypes s m args below meth c H locs 0 0 Q (F0 m 6 ls [])) (hk16 : ∀ (σ : xSt) (H : Heap) (locs : List Loc) (x1 : Int32) (x2 : Int32) (ls : Array Slot), va_P (dC, dI) vwC (mW ad cA σ) H → va_D (mA ad) (mW ad cA σ) → va_S (mA ad) s.heap H locs → lv_has ls 5 [(0, .ref (ad 0)), (1, .int (x1)), (2, .int (x2))] → k16 σ x1 x2 = some r → W p l e rm_CM_closeTypes s m args below meth c H locs 0 0 Q (F0 m 16 ls [])) :
    ∀ (n : Nat) (σ : xSt) (H : Heap) (locs : List Loc) (x1 : Int32) (x2 : Int32) (x3 : Int32) (x4 : Int32) (ls : Array Slot), va_P (dC, dI) vwC (mW ad cA σ) H → va_D (mA ad) (mW ad cA σ) → va_S (mA ad) s.heap H locs → lv_has ls 5 [(0, .ref (ad 0)), (1, .int (x1)), (2, .int (x2)), (3, .int (x3)), (4, .int (x4))] → fCM_closeTypes_b51 k6 k16 n σ x1 x2 x3 x4 = some r → W p l e rm_CM_closeTypes s m args below meth c H locs 0 0 Q (F0 m 51 ls []) := by
  obtain ⟨hx, hb, hml, hown, hts⟩ := id C
  intro n
  induction n with
  | zero =>
    intro σ H locs x1 x2 x3 x4 ls hP hD hS hl h
    rw [fCM_closeTypes_b51] at h
    cases h
  | succ n ih =>
    intro σ H locs x1 x2 x3 x4 ls hP hD hS hl h
    rw [fCM_closeTypes_b51] at h
    refine lv_iload hx hb dCM_closeTypes_51 (lv_at hl 4 rfl) ?_
    refine lv_aload_n hx hb dCM_closeTypes_53 rfl (lv_at hl 0 rfl) ?_
    refine va_get (D := (dC, dI)) (ci := 5) (v := .ref (ad 3)) (C := RCM) (T := TCM) (N := 23) hx hb hts inCM hown hK hP 0 rfl rfl 3 (by decide) (hts _ mw_358) (fun _ h9 => h9) rfl dCM_closeTypes_54 ?_
    refine lv_iload_n hx hb dCM_closeTypes_57 rfl (lv_at hl 1 rfl) ?_
    obtain ⟨b14, h⟩ := gx_nb h
    refine va_iald hx hb hK hP 3 2 rfl rfl b14 dCM_closeTypes_58 ?_
    refine lv_icmp_ge (tgt := 96) hx hb dCM_closeTypes_59 (by decide) (fun c20 => ?_) (fun c20 => ?_)
    · have h := (if_pos c20).symm.trans h
      refine lv_aload_n hx hb dCM_closeTypes_96 rfl (lv_at hl 0 rfl) ?_
      refine va_get (D := (dC, dI)) (ci := 5) (v := .ref (ad 5)) (C := RCM) (T := TCM) (N := 23) hx hb hts inCM hown hK hP 0 rfl rfl 5 (by decide) (hts _ mw_365) (fun _ h9 => h9) rfl dCM_closeTypes_97 ?_
      refine lv_bipush (v := (24 : Int32)) hx hb dCM_closeTypes_100 (by decide) ?_
      refine lv_iload_n hx hb dCM_closeTypes_102 rfl (lv_at hl 1 rfl) ?_
      refine lv_imul hx hb dCM_closeTypes_103 ?_
      refine lv_iload_n hx hb dCM_closeTypes_104 rfl (lv_at hl 2 rfl) ?_
      refine lv_iadd hx hb dCM_closeTypes_105 ?_
      refine lv_iload_n hx hb dCM_closeTypes_106 rfl (lv_at hl 3 rfl) ?_
      obtain ⟨b15, h⟩ := gx_nb h
      refine va_zast hx hb hK hP hD hS 5 4 rfl rfl b15 dCM_closeTypes_107 (fun H locs hP hD hS => ?_)
      obtain ⟨σ16, eσ16⟩ : ∃ z, z = sI σ 5 (((24 : Int32) * x1) + x2).toNatClampNeg (vp_nar .boolean x3) := ⟨_, rfl⟩
      have hP : va_P (dC, dI) vwC (mW ad cA σ16) H := by rw [eσ16]; exact hP
      have hD : va_D (mA ad) (mW ad cA σ16) := by rw [eσ16]; exact hD
      have h := nm_at eσ16 h
      refine lv_iinc (v := x2 + (1 : Int32)) (lv' := [(2, .int (x2 + (1 : Int32))), (0, .ref (ad 0)), (1, .int (x1)), (3, .int (x3)), (4, .int (x4))]) hx hb dCM_closeTypes_108 hl (k := 2) rfl rfl (by decide) rfl (fun ls hl => ?_)
      refine lv_goto (tgt := 16) hx hb dCM_closeTypes_111 (by decide) ?_
      exact hk16 _ _ _ _ _ _ hP hD hS (lv_sub hl [1, 2, 0] rfl) h
    · have h := (if_neg c20).symm.trans h
      refine lv_iload_n hx hb dCM_closeTypes_62 rfl (lv_at hl 3 rfl) ?_
      refine lv_if_ne (tgt := 84) hx hb dCM_closeTypes_63 (by decide) (fun c19 => ?_) (fun c19 => ?_)
      · have h := (if_neg c19).symm.trans h
        exact wCM_closeTypes_b84 C hK hend hk6 hk16 ih _ _ _ _ _ _ _ hP hD hS (lv_sub hl [0, 1, 2, 4] rfl) h
      · have h := (if_pos c19).symm.trans h
        refine lv_aload_n hx hb dCM_closeTypes_66 rfl (lv_at hl 0 rfl) ?_
        refine va_get (D := (dC, dI)) (ci := 5) (v := .ref (ad 4)) (C := RCM) (T := TCM) (N := 23) hx hb hts inCM hown hK hP 0 rfl rfl 4 (by decide) (hts _ mw_366) (fun _ h9 => h9) rfl dCM_closeTypes_67 ?_
        refine lv_iconst (v := (4 : Int32)) hx hb dCM_closeTypes_70 (by decide) ?_
        refine lv_iload_n hx hb dCM_closeTypes_71 rfl (lv_at hl 1 rfl) ?_
        refine lv_imul hx hb dCM_closeTypes_72 ?_
        refine lv_iload hx hb dCM_closeTypes_73 (lv_at hl 4 rfl) ?_
        refine lv_iadd hx hb dCM_closeTypes_75 ?_
        obtain ⟨b17, h⟩ := gx_nb h
        refine va_iald hx hb hK hP 4 3 rfl rfl b17 dCM_closeTypes_76 ?_
        refine lv_bipush (v := (16 : Int32)) hx hb dCM_closeTypes_77 (by decide) ?_
        refine lv_iload_n hx hb dCM_closeTypes_79 rfl (lv_at hl 2 rfl) ?_
        refine lv_iadd hx hb dCM_closeTypes_80 ?_
        refine lv_icmp_ne (tgt := 88) hx hb dCM_closeTypes_81 (by decide) (fun c18 => ?_) (fun c18 => ?_)
        · have h := (if_neg c18).symm.trans h
          refine lv_iconst (v := (0 : Int32)) hx hb dCM_closeTypes_88 (by decide) ?_
          exact wCM_closeTypes_b89 C hK hend hk6 hk16 ih _ _ _ _ _ _ _ _ hP hD hS (lv_sub hl [0, 1, 2, 4] rfl) h
        · have h := (if_pos c18).symm.trans h
          exact wCM_closeTypes_b84 C hK hend hk6 hk16 ih _ _ _ _ _ _ _ hP hD hS (lv_sub hl [0, 1, 2, 4] rfl) h
def fCM_closeTypes_b47 (k6 : xSt → Int32 → Option xSt) (k16 : xSt → Int32 → Int32 → Option xSt) (σ : xSt) (x1 : Int32) (x2 : Int32) (s0 : Int32) : Option xSt :=
  fCM_closeTypes_b51 k6 k16 gF σ x1 x2 s0 (0 : Int32)
set_option maxHeartbeats 4000000 in
set_option maxRecDepth 100000 in
theorem wCM_closeTypes_b47 {p : Program} {l : Launch} {e : Env} {s : State} {m : MethodId} {args : Array Value} {below : List Frame} {meth : Method} {c : Code} {Q : State → Prop} {dC : Nat → ClassId} {dI : Nat → Nat → Nat} {ad : Nat → Nat} {cA : Nat → ClassId} {r : xSt} (C : CallFix p m c cCM_closeTypes 5 s args wAll RCM) (hK : va_K (dC, dI) vwC (mT cA) s) (hend : ∀ (σ : xSt) (H : Heap) (locs : List Loc) (pc : Nat) (ls : Array Slot), σ = r → va_P (dC, dI) vwC (mW ad cA σ) H → va_S (mA ad) s.heap H locs → decode cCM_closeTypes pc = .ok (.return_, 1) → W p l e rm_CM_closeTypes s m args below meth c H locs 0 0 Q (F0 m pc ls [])) {k6 : xSt → Int32 → Option xSt} {k16 : xSt → Int32 → Int32 → Option xSt} (hk6 : ∀ (σ : xSt) (H : Heap) (locs : List Loc) (x1 : Int32) (ls : Array Slot), va_P (dC, dI) vwC (mW ad cA σ) H → va_D (mA ad) (mW ad cA σ) → va_S (mA ad) s.heap H locs → lv_has ls 5 [(0, .ref (ad 0)), (1, .int (x1))] → k6 σ x1 = some r → W p l e rm_CM_closeTypes s m args below meth c H locs 0 0 Q (F0 m 6 ls [])) (hk16 : ∀ (σ : xSt) (H : Heap) (locs : List Loc) (x1 : Int32) (x2 : Int32) (ls : Array Slot), va_P (dC, dI) vwC (mW ad cA σ) H → va_D (mA ad) (mW ad cA σ) → va_S (mA ad) s.heap H locs → lv_has ls 5 [(0, .ref (ad 0)), (1, .int (x1)), (2, .int (x2))] → k16 σ x1 x2 = some r → W p l e rm_CM_closeTypes s m args below meth c H locs 0 0 Q (F0 m 16 ls [])) :
    ∀ (σ : xSt) (H : Heap) (locs : List Loc) (x1 : Int32) (x2 : Int32) (s0 : Int32) (ls : Array Slot), va_P (dC, dI) vwC (mW ad cA σ) H → va_D (mA ad) (mW ad cA σ) → va_S (mA ad) s.heap H locs → lv_has ls 5 [(0, .ref (ad 0)), (1, .int (x1)), (2, .int (x2))] → fCM_closeTypes_b47 k6 k16 σ x1 x2 s0 = some r → W p l e rm_CM_closeTypes s m args below meth c H locs 0 0 Q (F0 m 47 ls [.int (s0)]) := by
  obtain ⟨hx, hb, hml, hown, hts⟩ := id C
  intro σ H locs x1 x2 s0 ls hP hD hS hl h
  unfold fCM_closeTypes_b47 at h
  refine lv_istore_n (lv' := [(3, .int (s0)), (0, .ref (ad 0)), (1, .int (x1)), (2, .int (x2))]) hx hb dCM_closeTypes_47 rfl hl (by decide) rfl (fun ls hl => ?_)
  refine lv_iconst (v := (0 : Int32)) hx hb dCM_closeTypes_48 (by decide) ?_
  refine lv_istore (lv' := [(4, .int ((0 : Int32))), (3, .int (s0)), (0, .ref (ad 0)), (1, .int (x1)), (2, .int (x2))]) hx hb dCM_closeTypes_49 hl (by decide) rfl (fun ls hl => ?_)
  exact wCM_closeTypes_b51 C hK hend hk6 hk16 _ _ _ _ _ _ _ _ _ hP hD hS (lv_sub hl [2, 3, 4, 1, 0] rfl) h
def fCM_closeTypes_b42 (k6 : xSt → Int32 → Option xSt) (k16 : xSt → Int32 → Int32 → Option xSt) (σ : xSt) (x1 : Int32) (x2 : Int32) : Option xSt :=
  fCM_closeTypes_b47 k6 k16 σ x1 x2 (1 : Int32)
set_option maxHeartbeats 4000000 in
set_option maxRecDepth 100000 in
theorem wCM_closeTypes_b42 {p : Program} {l : Launch} {e : Env} {s : State} {m : MethodId} {args : Array Value} {below : List Frame} {meth : Method} {c : Code} {Q : State → Prop} {dC : Nat → ClassId} {dI : Nat → Nat → Nat} {ad : Nat → Nat} {cA : Nat → ClassId} {r : xSt} (C : CallFix p m c cCM_closeTypes 5 s args wAll RCM) (hK : va_K (dC, dI) vwC (mT cA) s) (hend : ∀ (σ : xSt) (H : Heap) (locs : List Loc) (pc : Nat) (ls : Array Slot), σ = r → va_P (dC, dI) vwC (mW ad cA σ) H → va_S (mA ad) s.heap H locs → decode cCM_closeTypes pc = .ok (.return_, 1) → W p l e rm_CM_closeTypes s m args below meth c H locs 0 0 Q (F0 m pc ls [])) {k6 : xSt → Int32 → Option xSt} {k16 : xSt → Int32 → Int32 → Option xSt} (hk6 : ∀ (σ : xSt) (H : Heap) (locs : List Loc) (x1 : Int32) (ls : Array Slot), va_P (dC, dI) vwC (mW ad cA σ) H → va_D (mA ad) (mW ad cA σ) → va_S (mA ad) s.heap H locs → lv_has ls 5 [(0, .ref (ad 0)), (1, .int (x1))] → k6 σ x1 = some r → W p l e rm_CM_closeTypes s m args below meth c H locs 0 0 Q (F0 m 6 ls [])) (hk16 : ∀ (σ : xSt) (H : Heap) (locs : List Loc) (x1 : Int32) (x2 : Int32) (ls : Array Slot), va_P (dC, dI) vwC (mW ad cA σ) H → va_D (mA ad) (mW ad cA σ) → va_S (mA ad) s.heap H locs → lv_has ls 5 [(0, .ref (ad 0)), (1, .int (x1)), (2, .int (x2))] → k16 σ x1 x2 = some r → W p l e rm_CM_closeTypes s m args below meth c H locs 0 0 Q (F0 m 16 ls [])) :
    ∀ (σ : xSt) (H : Heap) (locs : List Loc) (x1 : Int32) (x2 : Int32) (ls : Array Slot), va_P (dC, dI) vwC (mW ad cA σ) H → va_D (mA ad) (mW ad cA σ) → va_S (mA ad) s.heap H locs → lv_has ls 5 [(0, .ref (ad 0)), (1, .int (x1)), (2, .int (x2))] → fCM_closeTypes_b42 k6 k16 σ x1 x2 = some r → W p l e rm_CM_closeTypes s m args below meth c H locs 0 0 Q (F0 m 42 ls []) := by
  obtain ⟨hx, hb, hml, hown, hts⟩ := id C
  intro σ H locs x1 x2 ls hP hD hS hl h
  unfold fCM_closeTypes_b42 at h
  refine lv_iconst (v := (1 : Int32)) hx hb dCM_closeTypes_42 (by decide) ?_
  refine lv_goto (tgt := 47) hx hb dCM_closeTypes_43 (by decide) ?_
  exact wCM_closeTypes_b47 C hK hend hk6 hk16 _ _ _ _ _ _ _ hP hD hS (lv_sub hl [0, 1, 2] rfl) h
def fCM_closeTypes_b16 (k6 : xSt → Int32 → Option xSt) : Nat → xSt → Int32 → Int32 → Option xSt
  | 0, _, _, _ => none
  | n + 1, σ, x1, x2 =>
    if (σ.1 0 0) ≤ x2 then
      k6 σ (x1 + (1 : Int32))
    else
      if x1 = x2 then
        fCM_closeTypes_b42 k6 (fCM_closeTypes_b16 k6 n) σ x1 x2
      else
        if x1 < 0 ∨ 24 ≤ x1.toNatClampNeg then none else
        if (σ.1 2 x1.toNatClampNeg) = ((16 : Int32) + x2) then
          fCM_closeTypes_b42 k6 (fCM_closeTypes_b16 k6 n) σ x1 x2
        else
          fCM_closeTypes_b47 k6 (fCM_closeTypes_b16 k6 n) σ x1 x2 (0 : Int32)
set_option maxHeartbeats 4000000 in
set_option maxRecDepth 100000 in
theorem wCM_closeTypes_b16 {p : Program} {l : Launch} {e : Env} {s : State} {m : MethodId} {args : Array Value} {below : List Frame} {meth : Method} {c : Code} {Q : State → Prop} {dC : Nat → ClassId} {dI : Nat → Nat → Nat} {ad : Nat → Nat} {cA : Nat → ClassId} {r : xSt} (C : CallFix p m c cCM_closeTypes 5 s args wAll RCM) (hK : va_K (dC, dI) vwC (mT cA) s) (hend : ∀ (σ : xSt) (H : Heap) (locs : List Loc) (pc : Nat) (ls : Array Slot), σ = r → va_P (dC, dI) vwC (mW ad cA σ) H → va_S (mA ad) s.heap H locs → decode cCM_closeTypes pc = .ok (.return_, 1) → W p l e rm_CM_closeTypes s m args below meth c H locs 0 0 Q (F0 m pc ls [])) {k6 : xSt → Int32 → Option xSt} (hk6 : ∀ (σ : xSt) (H : Heap) (locs : List Loc) (x1 : Int32) (ls : Array Slot), va_P (dC, dI) vwC (mW ad cA σ) H → va_D (mA ad) (mW ad cA σ) → va_S (mA ad) s.heap H locs → lv_has ls 5 [(0, .ref (ad 0)), (1, .int (x1))] → k6 σ x1 = some r → W p l e rm_CM_closeTypes s m args below meth c H locs 0 0 Q (F0 m 6 ls [])) :
    ∀ (n : Nat) (σ : xSt) (H : Heap) (locs : List Loc) (x1 : Int32) (x2 : Int32) (ls : Array Slot), va_P (dC, dI) vwC (mW ad cA σ) H → va_D (mA ad) (mW ad cA σ) → va_S (mA ad) s.heap H locs → lv_has ls 5 [(0, .ref (ad 0)), (1, .int (x1)), (2, .int (x2))] → fCM_closeTypes_b16 k6 n σ x1 x2 = some r → W p l e rm_CM_closeTypes s m args below meth c H locs 0 0 Q (F0 m 16 ls []) := by
  obtain ⟨hx, hb, hml, hown, hts⟩ := id C
  intro n
  induction n with
  | zero =>
    intro σ H locs x1 x2 ls hP hD hS hl h
    rw [fCM_closeTypes_b16] at h
    cases h
  | succ n ih =>
    intro σ H locs x1 x2 ls hP hD hS hl h
    rw [fCM_closeTypes_b16] at h
    refine lv_iload_n hx hb dCM_closeTypes_16 rfl (lv_at hl 2 rfl) ?_
    refine lv_aload_n hx hb dCM_closeTypes_17 rfl (lv_at hl 0 rfl) ?_
    refine va_get (D := (dC, dI)) (ci := 5) (v := .int (σ.1 0 0)) (C := RCM) (T := TCM) (N := 23) hx hb hts inCM hown hK hP 0 rfl rfl 0 (by decide) (hts _ mw_355) (fun _ h9 => h9) rfl dCM_closeTypes_18 ?_
    refine lv_icmp_ge (tgt := 114) hx hb dCM_closeTypes_21 (by decide) (fun c24 => ?_) (fun c24 => ?_)
    · have h := (if_pos c24).symm.trans h
      refine lv_iinc (v := x1 + (1 : Int32)) (lv' := [(1, .int (x1 + (1 : Int32))), (0, .ref (ad 0)), (2, .int (x2))]) hx hb dCM_closeTypes_114 hl (k := 1) rfl rfl (by decide) rfl (fun ls hl => ?_)
      refine lv_goto (tgt := 6) hx hb dCM_closeTypes_117 (by decide) ?_
      exact hk6 _ _ _ _ _ hP hD hS (lv_sub hl [1, 0] rfl) h
    · have h := (if_neg c24).symm.trans h
      refine lv_iload_n hx hb dCM_closeTypes_24 rfl (lv_at hl 1 rfl) ?_
      refine lv_iload_n hx hb dCM_closeTypes_25 rfl (lv_at hl 2 rfl) ?_
      refine lv_icmp_eq (tgt := 42) hx hb dCM_closeTypes_26 (by decide) (fun c23 => ?_) (fun c23 => ?_)
      · have h := (if_pos c23).symm.trans h
        exact wCM_closeTypes_b42 C hK hend hk6 ih _ _ _ _ _ _ hP hD hS (lv_sub hl [0, 1, 2] rfl) h
      · have h := (if_neg c23).symm.trans h
        refine lv_aload_n hx hb dCM_closeTypes_29 rfl (lv_at hl 0 rfl) ?_
        refine va_get (D := (dC, dI)) (ci := 5) (v := .ref (ad 2)) (C := RCM) (T := TCM) (N := 23) hx hb hts inCM hown hK hP 0 rfl rfl 2 (by decide) (hts _ mw_356) (fun _ h9 => h9) rfl dCM_closeTypes_30 ?_
        refine lv_iload_n hx hb dCM_closeTypes_33 rfl (lv_at hl 1 rfl) ?_
        obtain ⟨b21, h⟩ := gx_nb h
        refine va_iald hx hb hK hP 2 1 rfl rfl b21 dCM_closeTypes_34 ?_
        refine lv_bipush (v := (16 : Int32)) hx hb dCM_closeTypes_35 (by decide) ?_
        refine lv_iload_n hx hb dCM_closeTypes_37 rfl (lv_at hl 2 rfl) ?_
        refine lv_iadd hx hb dCM_closeTypes_38 ?_
        refine lv_icmp_ne (tgt := 46) hx hb dCM_closeTypes_39 (by decide) (fun c22 => ?_) (fun c22 => ?_)
        · have h := (if_neg c22).symm.trans h
          refine lv_iconst (v := (0 : Int32)) hx hb dCM_closeTypes_46 (by decide) ?_
          exact wCM_closeTypes_b47 C hK hend hk6 ih _ _ _ _ _ _ _ hP hD hS (lv_sub hl [0, 1, 2] rfl) h
        · have h := (if_pos c22).symm.trans h
          exact wCM_closeTypes_b42 C hK hend hk6 ih _ _ _ _ _ _ hP hD hS (lv_sub hl [0, 1, 2] rfl) h
def fCM_closeTypes_b6 : Nat → xSt → Int32 → Option xSt
  | 0, _, _ => none
  | n + 1, σ, x1 =>
    if (σ.1 0 0) ≤ x1 then
      fCM_closeTypes_b122 gF σ (0 : Int32)
    else
      fCM_closeTypes_b16 (fCM_closeTypes_b6 n) gF σ x1 (0 : Int32)
set_option maxHeartbeats 4000000 in
set_option maxRecDepth 100000 in
theorem wCM_closeTypes_b6 {p : Program} {l : Launch} {e : Env} {s : State} {m : MethodId} {args : Array Value} {below : List Frame} {meth : Method} {c : Code} {Q : State → Prop} {dC : Nat → ClassId} {dI : Nat → Nat → Nat} {ad : Nat → Nat} {cA : Nat → ClassId} {r : xSt} (C : CallFix p m c cCM_closeTypes 5 s args wAll RCM) (hK : va_K (dC, dI) vwC (mT cA) s) (hend : ∀ (σ : xSt) (H : Heap) (locs : List Loc) (pc : Nat) (ls : Array Slot), σ = r → va_P (dC, dI) vwC (mW ad cA σ) H → va_S (mA ad) s.heap H locs → decode cCM_closeTypes pc = .ok (.return_, 1) → W p l e rm_CM_closeTypes s m args below meth c H locs 0 0 Q (F0 m pc ls [])) :
    ∀ (n : Nat) (σ : xSt) (H : Heap) (locs : List Loc) (x1 : Int32) (ls : Array Slot), va_P (dC, dI) vwC (mW ad cA σ) H → va_D (mA ad) (mW ad cA σ) → va_S (mA ad) s.heap H locs → lv_has ls 5 [(0, .ref (ad 0)), (1, .int (x1))] → fCM_closeTypes_b6 n σ x1 = some r → W p l e rm_CM_closeTypes s m args below meth c H locs 0 0 Q (F0 m 6 ls []) := by
  obtain ⟨hx, hb, hml, hown, hts⟩ := id C
  intro n
  induction n with
  | zero =>
    intro σ H locs x1 ls hP hD hS hl h
    rw [fCM_closeTypes_b6] at h
    cases h
  | succ n ih =>
    intro σ H locs x1 ls hP hD hS hl h
    rw [fCM_closeTypes_b6] at h
    refine lv_iload_n hx hb dCM_closeTypes_6 rfl (lv_at hl 1 rfl) ?_
    refine lv_aload_n hx hb dCM_closeTypes_7 rfl (lv_at hl 0 rfl) ?_
    refine va_get (D := (dC, dI)) (ci := 5) (v := .int (σ.1 0 0)) (C := RCM) (T := TCM) (N := 23) hx hb hts inCM hown hK hP 0 rfl rfl 0 (by decide) (hts _ mw_355) (fun _ h9 => h9) rfl dCM_closeTypes_8 ?_
    refine lv_icmp_ge (tgt := 120) hx hb dCM_closeTypes_11 (by decide) (fun c25 => ?_) (fun c25 => ?_)
    · have h := (if_pos c25).symm.trans h
      refine lv_iconst (v := (0 : Int32)) hx hb dCM_closeTypes_120 (by decide) ?_
      refine lv_istore_n (lv' := [(1, .int ((0 : Int32))), (0, .ref (ad 0))]) hx hb dCM_closeTypes_121 rfl hl (by decide) rfl (fun ls hl => ?_)
      exact wCM_closeTypes_b122 C hK hend _ _ _ _ _ _ hP hD hS (lv_sub hl [1, 0] rfl) h
    · have h := (if_neg c25).symm.trans h
      refine lv_iconst (v := (0 : Int32)) hx hb dCM_closeTypes_14 (by decide) ?_
      refine lv_istore_n (lv' := [(2, .int ((0 : Int32))), (0, .ref (ad 0)), (1, .int (x1))]) hx hb dCM_closeTypes_15 rfl hl (by decide) rfl (fun ls hl => ?_)
      exact wCM_closeTypes_b16 C hK hend ih _ _ _ _ _ _ _ hP hD hS (lv_sub hl [1, 2, 0] rfl) h
def fCM_closeTypes (σ : xSt) : Option xSt :=
  (fCM_forgetFunctions σ).bind fun σ2 =>
  fCM_closeTypes_b6 gF σ2 (0 : Int32)
set_option maxHeartbeats 4000000 in
set_option maxRecDepth 100000 in
theorem wCM_closeTypes {p : Program} {l : Launch} {e : Env} {s : State} {m : MethodId} {args : Array Value} {below : List Frame} {meth : Method} {c : Code} {Q : State → Prop} {dC : Nat → ClassId} {dI : Nat → Nat → Nat} {ad : Nat → Nat} {cA : Nat → ClassId} {r : xSt} (C : CallFix p m c cCM_closeTypes 5 s args wAll RCM) (hK : va_K (dC, dI) vwC (mT cA) s) (hend : ∀ (σ : xSt) (H : Heap) (locs : List Loc) (pc : Nat) (ls : Array Slot), σ = r → va_P (dC, dI) vwC (mW ad cA σ) H → va_S (mA ad) s.heap H locs → decode cCM_closeTypes pc = .ok (.return_, 1) → W p l e rm_CM_closeTypes s m args below meth c H locs 0 0 Q (F0 m pc ls [])) {H : Heap} {locs : List Loc} {σ : xSt} (hP : va_P (dC, dI) vwC (mW ad cA σ) H) (hD : va_D (mA ad) (mW ad cA σ)) (hS : va_S (mA ad) s.heap H locs) (ls : Array Slot) (hl : lv_has ls 5 [(0, .ref (ad 0))]) (h : fCM_closeTypes σ = some r) : W p l e rm_CM_closeTypes s m args below meth c H locs 0 0 Q (F0 m 0 ls []) := by
  obtain ⟨hx, hb, hml, hown, hts⟩ := id C
  unfold fCM_closeTypes at h
  refine lv_aload_n hx hb dCM_closeTypes_0 rfl (lv_at hl 0 rfl) ?_
  obtain ⟨σ2, eσ2, h⟩ := Option.bind_eq_some_iff.mp h
  refine gcall_v (wd := mW ad cA) (b := ad 0) (As := []) (rest := []) mkeys C hK hP hD hS (ci := 5) (q0 := 0) rfl rfl (kCM_forgetFunctions l dC dI ad cA σ σ2 eσ2) (cwV 0 hts (gw mw_360 mw_361 mw_362 mw_363 mw_364) rfl rfl rfl hdCM_forgetFunctions ⟨Nat.le_of_ble_eq_true rfl, Nat.le_of_ble_eq_true rfl⟩) rfl hl.1 rfl (Nat.le_of_ble_eq_true rfl) dCM_closeTypes_1 ⟨Nat.le_refl _, Nat.le_refl _⟩ (fun H locs hP hD hS => ?_)
  refine lv_iconst (v := (0 : Int32)) hx hb dCM_closeTypes_4 (by decide) ?_
  refine lv_istore_n (lv' := [(1, .int ((0 : Int32))), (0, .ref (ad 0))]) hx hb dCM_closeTypes_5 rfl hl (by decide) rfl (fun ls hl => ?_)
  exact wCM_closeTypes_b6 C hK hend _ _ _ _ _ _ hP hD hS (lv_sub hl [1, 0] rfl) h
set_option maxHeartbeats 4000000 in
set_option maxRecDepth 100000 in
theorem kCM_closeTypes (l : Launch) (dC : Nat → ClassId) (dI : Nat → Nat → Nat) (ad : Nat → Nat) (cA : Nat → ClassId) (σ : xSt) (r : xSt) (h : fCM_closeTypes σ = some r) : Met l yCM_closeTypes wsCM_closeTypes rm_CM_closeTypes (va_Pc [.ref (ad 0)] (fun U => va_P (dC, dI) vwC (mW ad cA σ) U.heap ∧ va_K (dC, dI) vwC (mT cA) U ∧ va_D (mA ad) (mW ad cA σ))) (va_Qv (fun u : xSt => u = r) (fun u t => va_P (dC, dI) vwC (mW ad cA u) t.heap) (mA ad)) 0 0 (mA ad) := by
  refine Met.ofW (cc := cCM_closeTypes) (maxL := 5) (ret := none) (by decide) rfl ?_
  intro p e s m args below meth c s₁ B hml hv
  obtain ⟨rfl, hP, hK, hD⟩ := hv
  have hr := B.returns
  have hlocks := B.notSynchronized
  have hl := lv_entry ([.ref (ad 0)]) (n := 5) (Nat.le_of_ble_eq_true rfl)
  rw [lg_entry_eq]
  exact wCM_closeTypes ⟨B.exec, B.bytes, hml, findClass_of_methodNamed B.named, fun w h => atoms_spec (ws := wsCM_closeTypes) B.pre w (List.mem_cons_of_mem _ h)⟩ hK (fun σ H locs pc ls hv hP hS hd => W.vret B.exec B.bytes hr (fun t ht hW => ⟨⟨σ, rfl, hv, by show va_P _ _ _ t.heap; rw [ht]; exact hP⟩, hS.F ht⟩) hS.2.2 hd) hP hD va_S.rf _ hl h
abbrev rm_CM_isTold : Room := { frames := 0, cells := 0, slots := 0, locals := 0 }
def fCM_isTold (σ : xSt) (x1 : Int32) : Option Int32 :=
  if x1 < (16 : Int32) then
    some (0 : Int32)
  else
    if ((16 : Int32) + (σ.1 0 0)) ≤ x1 then
      some (0 : Int32)
    else
      some (1 : Int32)
set_option maxHeartbeats 4000000 in
set_option maxRecDepth 100000 in
theorem wCM_isTold {p : Program} {l : Launch} {e : Env} {s : State} {m : MethodId} {args : Array Value} {below : List Frame} {meth : Method} {c : Code} {Q : State → Prop} {dC : Nat → ClassId} {dI : Nat → Nat → Nat} {ad : Nat → Nat} {cA : Nat → ClassId} {r : Int32} {H : Heap} {locs : List Loc} {σ : xSt} (C : CallFix p m c cCM_isTold 2 s args wAll RCM) (hK : va_K (dC, dI) vwC (mT cA) s) (hP : va_P (dC, dI) vwC (mW ad cA σ) H) (hend : ∀ (v : Int32) (pc : Nat) (ls : Array Slot), v = r → narrow .boolean (.int v) = .int v → decode cCM_isTold pc = .ok (.ireturn, 1) → W p l e rm_CM_isTold s m args below meth c H locs 0 0 Q (F0 m pc ls [.int v])) {x1 : Int32} (ls : Array Slot) (hl : lv_has ls 2 [(0, .ref (ad 0)), (1, .int (x1))]) (h : fCM_isTold σ x1 = some r) : W p l e rm_CM_isTold s m args below meth c H locs 0 0 Q (F0 m 0 ls []) := by
  obtain ⟨hx, hb, hml, hown, hts⟩ := id C
  unfold fCM_isTold at h
  refine lv_iload_n hx hb dCM_isTold_0 rfl (lv_at hl 1 rfl) ?_
  refine lv_bipush (v := (16 : Int32)) hx hb dCM_isTold_1 (by decide) ?_
  refine lv_icmp_lt (tgt := 21) hx hb dCM_isTold_3 (by decide) (fun c2 => ?_) (fun c2 => ?_)
  · have h := (if_pos c2).symm.trans h
    refine lv_iconst (v := (0 : Int32)) hx hb dCM_isTold_21 (by decide) ?_
    exact hend _ _ _ (Option.some.inj h) rfl dCM_isTold_22
  · have h := (if_neg c2).symm.trans h
    refine lv_iload_n hx hb dCM_isTold_6 rfl (lv_at hl 1 rfl) ?_
    refine lv_bipush (v := (16 : Int32)) hx hb dCM_isTold_7 (by decide) ?_
    refine lv_aload_n hx hb dCM_isTold_9 rfl (lv_at hl 0 rfl) ?_
    refine va_get (D := (dC, dI)) (ci := 5) (v := .int (σ.1 0 0)) (C := RCM) (T := TCM) (N := 23) hx hb hts inCM hown hK hP 0 rfl rfl 0 (by decide) (hts _ mw_355) (fun _ h9 => h9) rfl dCM_isTold_10 ?_
    refine lv_iadd hx hb dCM_isTold_13 ?_
    refine lv_icmp_ge (tgt := 21) hx hb dCM_isTold_14 (by decide) (fun c1 => ?_) (fun c1 => ?_)
    · have h := (if_pos c1).symm.trans h
      refine lv_iconst (v := (0 : Int32)) hx hb dCM_isTold_21 (by decide) ?_
      exact hend _ _ _ (Option.some.inj h) rfl dCM_isTold_22
    · have h := (if_neg c1).symm.trans h
      refine lv_iconst (v := (1 : Int32)) hx hb dCM_isTold_17 (by decide) ?_
      refine lv_goto (tgt := 22) hx hb dCM_isTold_18 (by decide) ?_
      exact hend _ _ _ (Option.some.inj h) rfl dCM_isTold_22
set_option maxHeartbeats 4000000 in
set_option maxRecDepth 100000 in
theorem kCM_isTold (l : Launch) (dC : Nat → ClassId) (dI : Nat → Nat → Nat) (ad : Nat → Nat) (cA : Nat → ClassId) (σ : xSt) (x1 : Int32) (r : Int32) (h : fCM_isTold σ x1 = some r) : Met l yCM_isTold wsCM_isTold rm_CM_isTold (va_Pc [.ref (ad 0), .int (x1)] (fun U => va_P (dC, dI) vwC (mW ad cA σ) U.heap ∧ va_K (dC, dI) vwC (mT cA) U)) (vp_Si (fun v => v = r)) 0 0 (fun _ => False) := by
  refine Met.ofW (cc := cCM_isTold) (maxL := 2) (ret := (some .boolean)) (by decide) rfl ?_
  intro p e s m args below meth c s₁ B hml hv
  obtain ⟨rfl, hP, hK⟩ := hv
  have hr := B.returns
  have hlocks := B.notSynchronized
  have hl := lv_entry ([.ref (ad 0), .int (x1)]) (n := 2) (Nat.le_of_ble_eq_true rfl)
  rw [lg_entry_eq]
  exact wCM_isTold ⟨B.exec, B.bytes, hml, findClass_of_methodNamed B.named, fun w h => atoms_spec (ws := wsCM_isTold) B.pre w (List.mem_cons_of_mem _ h)⟩ hK hP (fun v pc ls hv hn hd => W.zret (v := v) B.exec B.bytes hr hn (fun t ht hW => ⟨v, rfl, hv, ht⟩) (fun q hq => absurd hq List.not_mem_nil) hd) _ hl h
abbrev rm_CM_cls : Room := { frames := 2, cells := 0, slots := 0, locals := 45 }
def fCM_cls_b26 (σ : xSt) (x1 : Int32) : Option (Int32 × xSt) :=
  if (σ.1 0 0) = (24 : Int32) then
    some ((-2 : Int32), σ)
  else
    if (σ.1 0 0) < 0 ∨ 24 ≤ (σ.1 0 0).toNatClampNeg then none else
    nm (sI σ 2 (σ.1 0 0).toNatClampNeg x1) fun σ2 =>
    if (σ2.1 0 0) < 0 ∨ 24 ≤ (σ2.1 0 0).toNatClampNeg then none else
    nm (sI σ2 1 (σ2.1 0 0).toNatClampNeg (vp_nar .boolean (0 : Int32))) fun σ4 =>
    if (σ4.1 0 0) < 0 ∨ 24 ≤ (σ4.1 0 0).toNatClampNeg then none else
    nm (sI σ4 3 (σ4.1 0 0).toNatClampNeg (0 : Int32)) fun σ6 =>
    nm (sI σ6 0 0 ((σ6.1 0 0) + (1 : Int32))) fun σ7 =>
    (fCM_closeTypes σ7).bind fun σ9 =>
    some (((16 : Int32) + (σ9.1 0 0)) - (1 : Int32), σ9)
set_option maxHeartbeats 4000000 in
set_option maxRecDepth 100000 in
theorem wCM_cls_b26 {p : Program} {l : Launch} {e : Env} {s : State} {m : MethodId} {args : Array Value} {below : List Frame} {meth : Method} {c : Code} {Q : State → Prop} {dC : Nat → ClassId} {dI : Nat → Nat → Nat} {ad : Nat → Nat} {cA : Nat → ClassId} {r : (Int32 × xSt)} (C : CallFix p m c cCM_cls 2 s args wAll RCM) (hK : va_K (dC, dI) vwC (mT cA) s) (hend : ∀ (v : Int32) (σ : xSt) (H : Heap) (locs : List Loc) (pc : Nat) (ls : Array Slot), (v, σ) = r → va_P (dC, dI) vwC (mW ad cA σ) H → va_S (mA ad) s.heap H locs → decode cCM_cls pc = .ok (.ireturn, 1) → W p l e rm_CM_cls s m args below meth c H locs 0 0 Q (F0 m pc ls [.int v])) :
    ∀ (σ : xSt) (H : Heap) (locs : List Loc) (x1 : Int32) (ls : Array Slot), va_P (dC, dI) vwC (mW ad cA σ) H → va_D (mA ad) (mW ad cA σ) → va_S (mA ad) s.heap H locs → lv_has ls 2 [(0, .ref (ad 0)), (1, .int (x1))] → fCM_cls_b26 σ x1 = some r → W p l e rm_CM_cls s m args below meth c H locs 0 0 Q (F0 m 26 ls []) := by
  obtain ⟨hx, hb, hml, hown, hts⟩ := id C
  intro σ H locs x1 ls hP hD hS hl h
  unfold fCM_cls_b26 at h
  refine lv_aload_n hx hb dCM_cls_26 rfl (lv_at hl 0 rfl) ?_
  refine va_get (D := (dC, dI)) (ci := 5) (v := .int (σ.1 0 0)) (C := RCM) (T := TCM) (N := 23) hx hb hts inCM hown hK hP 0 rfl rfl 0 (by decide) (hts _ mw_355) (fun _ h9 => h9) rfl dCM_cls_27 ?_
  refine lv_bipush (v := (24 : Int32)) hx hb dCM_cls_30 (by decide) ?_
  refine lv_icmp_ne (tgt := 38) hx hb dCM_cls_32 (by decide) (fun c10 => ?_) (fun c10 => ?_)
  · have h := (if_neg c10).symm.trans h
    refine lv_aload_n hx hb dCM_cls_38 rfl (lv_at hl 0 rfl) ?_
    refine va_get (D := (dC, dI)) (ci := 5) (v := .ref (ad 2)) (C := RCM) (T := TCM) (N := 23) hx hb hts inCM hown hK hP 0 rfl rfl 2 (by decide) (hts _ mw_356) (fun _ h9 => h9) rfl dCM_cls_39 ?_
    refine lv_aload_n hx hb dCM_cls_42 rfl (lv_at hl 0 rfl) ?_
    refine va_get (D := (dC, dI)) (ci := 5) (v := .int (σ.1 0 0)) (C := RCM) (T := TCM) (N := 23) hx hb hts inCM hown hK hP 0 rfl rfl 0 (by decide) (hts _ mw_355) (fun _ h9 => h9) rfl dCM_cls_43 ?_
    refine lv_iload_n hx hb dCM_cls_46 rfl (lv_at hl 1 rfl) ?_
    obtain ⟨b1, h⟩ := gx_nb h
    refine va_iast hx hb hK hP hD hS 2 1 rfl rfl b1 dCM_cls_47 (fun H locs hP hD hS => ?_)
    obtain ⟨σ2, eσ2⟩ : ∃ z, z = sI σ 2 (σ.1 0 0).toNatClampNeg x1 := ⟨_, rfl⟩
    have hP : va_P (dC, dI) vwC (mW ad cA σ2) H := by rw [eσ2]; exact hP
    have hD : va_D (mA ad) (mW ad cA σ2) := by rw [eσ2]; exact hD
    have h := nm_at eσ2 h
    refine lv_aload_n hx hb dCM_cls_48 rfl (lv_at hl 0 rfl) ?_
    refine va_get (D := (dC, dI)) (ci := 5) (v := .ref (ad 1)) (C := RCM) (T := TCM) (N := 23) hx hb hts inCM hown hK hP 0 rfl rfl 1 (by decide) (hts _ mw_357) (fun _ h9 => h9) rfl dCM_cls_49 ?_
    refine lv_aload_n hx hb dCM_cls_52 rfl (lv_at hl 0 rfl) ?_
    refine va_get (D := (dC, dI)) (ci := 5) (v := .int (σ2.1 0 0)) (C := RCM) (T := TCM) (N := 23) hx hb hts inCM hown hK hP 0 rfl rfl 0 (by decide) (hts _ mw_355) (fun _ h9 => h9) rfl dCM_cls_53 ?_
    refine lv_iconst (v := (0 : Int32)) hx hb dCM_cls_56 (by decide) ?_
    obtain ⟨b3, h⟩ := gx_nb h
    refine va_zast hx hb hK hP hD hS 1 0 rfl rfl b3 dCM_cls_57 (fun H locs hP hD hS => ?_)
    obtain ⟨σ4, eσ4⟩ : ∃ z, z = sI σ2 1 (σ2.1 0 0).toNatClampNeg (vp_nar .boolean (0 : Int32)) := ⟨_, rfl⟩
    have hP : va_P (dC, dI) vwC (mW ad cA σ4) H := by rw [eσ4]; exact hP
    have hD : va_D (mA ad) (mW ad cA σ4) := by rw [eσ4]; exact hD
    have h := nm_at eσ4 h
    refine lv_aload_n hx hb dCM_cls_58 rfl (lv_at hl 0 rfl) ?_
    refine va_get (D := (dC, dI)) (ci := 5) (v := .ref (ad 3)) (C := RCM) (T := TCM) (N := 23) hx hb hts inCM hown hK hP 0 rfl rfl 3 (by decide) (hts _ mw_358) (fun _ h9 => h9) rfl dCM_cls_59 ?_
    refine lv_aload_n hx hb dCM_cls_62 rfl (lv_at hl 0 rfl) ?_
    refine va_get (D := (dC, dI)) (ci := 5) (v := .int (σ4.1 0 0)) (C := RCM) (T := TCM) (N := 23) hx hb hts inCM hown hK hP 0 rfl rfl 0 (by decide) (hts _ mw_355) (fun _ h9 => h9) rfl dCM_cls_63 ?_
    refine lv_iconst (v := (0 : Int32)) hx hb dCM_cls_66 (by decide) ?_
    obtain ⟨b5, h⟩ := gx_nb h
    refine va_iast hx hb hK hP hD hS 3 2 rfl rfl b5 dCM_cls_67 (fun H locs hP hD hS => ?_)
    obtain ⟨σ6, eσ6⟩ : ∃ z, z = sI σ4 3 (σ4.1 0 0).toNatClampNeg (0 : Int32) := ⟨_, rfl⟩
    have hP : va_P (dC, dI) vwC (mW ad cA σ6) H := by rw [eσ6]; exact hP
    have hD : va_D (mA ad) (mW ad cA σ6) := by rw [eσ6]; exact hD
    have h := nm_at eσ6 h
    refine lv_aload_n hx hb dCM_cls_68 rfl (lv_at hl 0 rfl) ?_
    refine lv_dup hx hb dCM_cls_69 rfl ?_
    refine va_get (D := (dC, dI)) (ci := 5) (v := .int (σ6.1 0 0)) (C := RCM) (T := TCM) (N := 23) hx hb hts inCM hown hK hP 0 rfl rfl 0 (by decide) (hts _ mw_355) (fun _ h9 => h9) rfl dCM_cls_70 ?_
    refine lv_iconst (v := (1 : Int32)) hx hb dCM_cls_73 (by decide) ?_
    refine lv_iadd hx hb dCM_cls_74 ?_
    refine va_put (D := (dC, dI)) (ci := 5) (v := .int ((σ6.1 0 0) + (1 : Int32))) (ty := .int) (C := RCM) (T := TCM) (N := 23) hx hb hts inCM tyCM tyCM_ok nnCM hown hK hP hD hS 0 rfl rfl 0 (by decide) (hts _ mw_355) (fun _ h9 => h9) rfl (by decide +kernel) rfl rfl (Nat.le_of_ble_eq_true rfl) dCM_cls_75 (fun H locs hP hD hS => ?_)
    obtain ⟨σ7, eσ7⟩ : ∃ z, z = sI σ6 0 0 ((σ6.1 0 0) + (1 : Int32)) := ⟨_, rfl⟩
    have hP : va_P (dC, dI) vwC (mW ad cA σ7) H := by rw [eσ7]; exact hP
    have hD : va_D (mA ad) (mW ad cA σ7) := by rw [eσ7]; exact hD
    have h := nm_at eσ7 h
    refine lv_aload_n hx hb dCM_cls_78 rfl (lv_at hl 0 rfl) ?_
    obtain ⟨σ9, eσ9, h⟩ := Option.bind_eq_some_iff.mp h
    refine gcall_v (wd := mW ad cA) (b := ad 0) (As := []) (rest := []) mkeys C hK hP hD hS (ci := 5) (q0 := 0) rfl rfl (kCM_closeTypes l dC dI ad cA σ7 σ9 eσ9) (cwV 0 hts (gw mw_367 mw_368 mw_369 mw_363 mw_370) rfl rfl rfl hdCM_closeTypes ⟨Nat.le_of_ble_eq_true rfl, Nat.le_of_ble_eq_true rfl⟩) rfl hl.1 rfl (Nat.le_of_ble_eq_true rfl) dCM_cls_79 ⟨Nat.le_refl _, Nat.le_refl _⟩ (fun H locs hP hD hS => ?_)
    refine lv_bipush (v := (16 : Int32)) hx hb dCM_cls_82 (by decide) ?_
    refine lv_aload_n hx hb dCM_cls_84 rfl (lv_at hl 0 rfl) ?_
    refine va_get (D := (dC, dI)) (ci := 5) (v := .int (σ9.1 0 0)) (C := RCM) (T := TCM) (N := 23) hx hb hts inCM hown hK hP 0 rfl rfl 0 (by decide) (hts _ mw_355) (fun _ h9 => h9) rfl dCM_cls_85 ?_
    refine lv_iadd hx hb dCM_cls_88 ?_
    refine lv_iconst (v := (1 : Int32)) hx hb dCM_cls_89 (by decide) ?_
    refine lv_isub hx hb dCM_cls_90 ?_
    exact hend _ _ _ _ _ _ (Option.some.inj h) hP hS dCM_cls_91
  · have h := (if_pos c10).symm.trans h
    refine lv_bipush (v := (-2 : Int32)) hx hb dCM_cls_35 (by decide) ?_
    exact hend _ _ _ _ _ _ (Option.some.inj h) hP hS dCM_cls_37
def fCM_cls (σ : xSt) (x1 : Int32) : Option (Int32 × xSt) :=
  if x1 = (8 : Int32) then
    fCM_cls_b26 σ x1
  else
    (fCM_isTold σ x1).bind fun v11 =>
    if v11 = 0 then
      some ((-2 : Int32), σ)
    else
      if (x1 - (16 : Int32)) < 0 ∨ 24 ≤ (x1 - (16 : Int32)).toNatClampNeg then none else
      if (σ.1 1 (x1 - (16 : Int32)).toNatClampNeg) = 0 then
        fCM_cls_b26 σ x1
      else
        some ((-2 : Int32), σ)
set_option maxHeartbeats 4000000 in
set_option maxRecDepth 100000 in
theorem wCM_cls {p : Program} {l : Launch} {e : Env} {s : State} {m : MethodId} {args : Array Value} {below : List Frame} {meth : Method} {c : Code} {Q : State → Prop} {dC : Nat → ClassId} {dI : Nat → Nat → Nat} {ad : Nat → Nat} {cA : Nat → ClassId} {r : (Int32 × xSt)} (C : CallFix p m c cCM_cls 2 s args wAll RCM) (hK : va_K (dC, dI) vwC (mT cA) s) (hend : ∀ (v : Int32) (σ : xSt) (H : Heap) (locs : List Loc) (pc : Nat) (ls : Array Slot), (v, σ) = r → va_P (dC, dI) vwC (mW ad cA σ) H → va_S (mA ad) s.heap H locs → decode cCM_cls pc = .ok (.ireturn, 1) → W p l e rm_CM_cls s m args below meth c H locs 0 0 Q (F0 m pc ls [.int v])) {H : Heap} {locs : List Loc} {σ : xSt} (hP : va_P (dC, dI) vwC (mW ad cA σ) H) (hD : va_D (mA ad) (mW ad cA σ)) (hS : va_S (mA ad) s.heap H locs) {x1 : Int32} (ls : Array Slot) (hl : lv_has ls 2 [(0, .ref (ad 0)), (1, .int (x1))]) (h : fCM_cls σ x1 = some r) : W p l e rm_CM_cls s m args below meth c H locs 0 0 Q (F0 m 0 ls []) := by
  obtain ⟨hx, hb, hml, hown, hts⟩ := id C
  unfold fCM_cls at h
  refine lv_iload_n hx hb dCM_cls_0 rfl (lv_at hl 1 rfl) ?_
  refine lv_bipush (v := (8 : Int32)) hx hb dCM_cls_1 (by decide) ?_
  refine lv_icmp_eq (tgt := 26) hx hb dCM_cls_3 (by decide) (fun c15 => ?_) (fun c15 => ?_)
  · have h := (if_pos c15).symm.trans h
    exact wCM_cls_b26 C hK hend _ _ _ _ _ hP hD hS (lv_sub hl [0, 1] rfl) h
  · have h := (if_neg c15).symm.trans h
    refine lv_aload_n hx hb dCM_cls_6 rfl (lv_at hl 0 rfl) ?_
    refine lv_iload_n hx hb dCM_cls_7 rfl (lv_at hl 1 rfl) ?_
    obtain ⟨v11, ev11, h⟩ := Option.bind_eq_some_iff.mp h
    refine gcall_r (b := ad 0) (As := [.int (x1)]) (rest := []) C hK hP (ci := 5) (q0 := 0) rfl rfl (kCM_isTold l dC dI ad cA σ x1 v11 ev11) (cwV 1 hts (gw mw_371 mw_372 mw_373 mw_363 mw_374) rfl rfl rfl hdCM_isTold ⟨Nat.le_of_ble_eq_true rfl, Nat.le_of_ble_eq_true rfl⟩) rfl hl.1 rfl (Nat.le_of_ble_eq_true rfl) dCM_cls_8 ⟨Nat.le_refl _, Nat.le_refl _⟩ ?_
    refine lv_if_eq (tgt := 35) hx hb dCM_cls_11 (by decide) (fun c14 => ?_) (fun c14 => ?_)
    · have h := (if_pos c14).symm.trans h
      refine lv_bipush (v := (-2 : Int32)) hx hb dCM_cls_35 (by decide) ?_
      exact hend _ _ _ _ _ _ (Option.some.inj h) hP hS dCM_cls_37
    · have h := (if_neg c14).symm.trans h
      refine lv_aload_n hx hb dCM_cls_14 rfl (lv_at hl 0 rfl) ?_
      refine va_get (D := (dC, dI)) (ci := 5) (v := .ref (ad 1)) (C := RCM) (T := TCM) (N := 23) hx hb hts inCM hown hK hP 0 rfl rfl 1 (by decide) (hts _ mw_357) (fun _ h9 => h9) rfl dCM_cls_15 ?_
      refine lv_iload_n hx hb dCM_cls_18 rfl (lv_at hl 1 rfl) ?_
      refine lv_bipush (v := (16 : Int32)) hx hb dCM_cls_19 (by decide) ?_
      refine lv_isub hx hb dCM_cls_21 ?_
      obtain ⟨b12, h⟩ := gx_nb h
      refine va_zald hx hb hK hP 1 0 rfl rfl b12 dCM_cls_22 ?_
      refine lv_if_ne (tgt := 35) hx hb dCM_cls_23 (by decide) (fun c13 => ?_) (fun c13 => ?_)
      · have h := (if_neg c13).symm.trans h
        refine lv_bipush (v := (-2 : Int32)) hx hb dCM_cls_35 (by decide) ?_
        exact hend _ _ _ _ _ _ (Option.some.inj h) hP hS dCM_cls_37
      · have h := (if_pos c13).symm.trans h
        exact wCM_cls_b26 C hK hend _ _ _ _ _ hP hD hS (lv_sub hl [0, 1] rfl) h
set_option maxHeartbeats 4000000 in
set_option maxRecDepth 100000 in
theorem kCM_cls (l : Launch) (dC : Nat → ClassId) (dI : Nat → Nat → Nat) (ad : Nat → Nat) (cA : Nat → ClassId) (σ : xSt) (x1 : Int32) (r : (Int32 × xSt)) (h : fCM_cls σ x1 = some r) : Met l yCM_cls wsCM_cls rm_CM_cls (va_Pc [.ref (ad 0), .int (x1)] (fun U => va_P (dC, dI) vwC (mW ad cA σ) U.heap ∧ va_K (dC, dI) vwC (mT cA) U ∧ va_D (mA ad) (mW ad cA σ))) (va_Qi (fun (v : Int32) (u : xSt) => (v, u) = r) (fun u t => va_P (dC, dI) vwC (mW ad cA u) t.heap) (mA ad)) 0 0 (mA ad) := by
  refine Met.ofW (cc := cCM_cls) (maxL := 2) (ret := (some .int)) (by decide) rfl ?_
  intro p e s m args below meth c s₁ B hml hv
  obtain ⟨rfl, hP, hK, hD⟩ := hv
  have hr := B.returns
  have hlocks := B.notSynchronized
  have hl := lv_entry ([.ref (ad 0), .int (x1)]) (n := 2) (Nat.le_of_ble_eq_true rfl)
  rw [lg_entry_eq]
  exact wCM_cls ⟨B.exec, B.bytes, hml, findClass_of_methodNamed B.named, fun w h => atoms_spec (ws := wsCM_cls) B.pre w (List.mem_cons_of_mem _ h)⟩ hK (fun v σ H locs pc ls hv hP hS hd => W.iret (v := v) B.exec B.bytes hr (fun t ht hW => ⟨⟨v, σ, rfl, hv, by show va_P _ _ _ t.heap; rw [ht]; exact hP⟩, hS.F ht⟩) hS.2.2 hd) hP hD va_S.rf _ hl h
abbrev rm_CM_face : Room := { frames := 2, cells := 0, slots := 0, locals := 45 }
def fCM_face (σ : xSt) : Option (Int32 × xSt) :=
  if (σ.1 0 0) = (24 : Int32) then
    some ((-2 : Int32), σ)
  else
    if (σ.1 0 0) < 0 ∨ 24 ≤ (σ.1 0 0).toNatClampNeg then none else
    nm (sI σ 2 (σ.1 0 0).toNatClampNeg (-1 : Int32)) fun σ2 =>
    if (σ2.1 0 0) < 0 ∨ 24 ≤ (σ2.1 0 0).toNatClampNeg then none else
    nm (sI σ2 1 (σ2.1 0 0).toNatClampNeg (vp_nar .boolean (1 : Int32))) fun σ4 =>
    if (σ4.1 0 0) < 0 ∨ 24 ≤ (σ4.1 0 0).toNatClampNeg then none else
    nm (sI σ4 3 (σ4.1 0 0).toNatClampNeg (0 : Int32)) fun σ6 =>
    nm (sI σ6 0 0 ((σ6.1 0 0) + (1 : Int32))) fun σ7 =>
    (fCM_closeTypes σ7).bind fun σ9 =>
    some (((16 : Int32) + (σ9.1 0 0)) - (1 : Int32), σ9)
set_option maxHeartbeats 4000000 in
set_option maxRecDepth 100000 in
theorem wCM_face {p : Program} {l : Launch} {e : Env} {s : State} {m : MethodId} {args : Array Value} {below : List Frame} {meth : Method} {c : Code} {Q : State → Prop} {dC : Nat → ClassId} {dI : Nat → Nat → Nat} {ad : Nat → Nat} {cA : Nat → ClassId} {r : (Int32 × xSt)} (C : CallFix p m c cCM_face 1 s args wAll RCM) (hK : va_K (dC, dI) vwC (mT cA) s) (hend : ∀ (v : Int32) (σ : xSt) (H : Heap) (locs : List Loc) (pc : Nat) (ls : Array Slot), (v, σ) = r → va_P (dC, dI) vwC (mW ad cA σ) H → va_S (mA ad) s.heap H locs → decode cCM_face pc = .ok (.ireturn, 1) → W p l e rm_CM_face s m args below meth c H locs 0 0 Q (F0 m pc ls [.int v])) {H : Heap} {locs : List Loc} {σ : xSt} (hP : va_P (dC, dI) vwC (mW ad cA σ) H) (hD : va_D (mA ad) (mW ad cA σ)) (hS : va_S (mA ad) s.heap H locs) (ls : Array Slot) (hl : lv_has ls 1 [(0, .ref (ad 0))]) (h : fCM_face σ = some r) : W p l e rm_CM_face s m args below meth c H locs 0 0 Q (F0 m 0 ls []) := by
  obtain ⟨hx, hb, hml, hown, hts⟩ := id C
  unfold fCM_face at h
  refine lv_aload_n hx hb dCM_face_0 rfl (lv_at hl 0 rfl) ?_
  refine va_get (D := (dC, dI)) (ci := 5) (v := .int (σ.1 0 0)) (C := RCM) (T := TCM) (N := 23) hx hb hts inCM hown hK hP 0 rfl rfl 0 (by decide) (hts _ mw_355) (fun _ h9 => h9) rfl dCM_face_1 ?_
  refine lv_bipush (v := (24 : Int32)) hx hb dCM_face_4 (by decide) ?_
  refine lv_icmp_ne (tgt := 12) hx hb dCM_face_6 (by decide) (fun c10 => ?_) (fun c10 => ?_)
  · have h := (if_neg c10).symm.trans h
    refine lv_aload_n hx hb dCM_face_12 rfl (lv_at hl 0 rfl) ?_
    refine va_get (D := (dC, dI)) (ci := 5) (v := .ref (ad 2)) (C := RCM) (T := TCM) (N := 23) hx hb hts inCM hown hK hP 0 rfl rfl 2 (by decide) (hts _ mw_356) (fun _ h9 => h9) rfl dCM_face_13 ?_
    refine lv_aload_n hx hb dCM_face_16 rfl (lv_at hl 0 rfl) ?_
    refine va_get (D := (dC, dI)) (ci := 5) (v := .int (σ.1 0 0)) (C := RCM) (T := TCM) (N := 23) hx hb hts inCM hown hK hP 0 rfl rfl 0 (by decide) (hts _ mw_355) (fun _ h9 => h9) rfl dCM_face_17 ?_
    refine lv_iconst (v := (-1 : Int32)) hx hb dCM_face_20 (by decide) ?_
    obtain ⟨b1, h⟩ := gx_nb h
    refine va_iast hx hb hK hP hD hS 2 1 rfl rfl b1 dCM_face_21 (fun H locs hP hD hS => ?_)
    obtain ⟨σ2, eσ2⟩ : ∃ z, z = sI σ 2 (σ.1 0 0).toNatClampNeg (-1 : Int32) := ⟨_, rfl⟩
    have hP : va_P (dC, dI) vwC (mW ad cA σ2) H := by rw [eσ2]; exact hP
    have hD : va_D (mA ad) (mW ad cA σ2) := by rw [eσ2]; exact hD
    have h := nm_at eσ2 h
    refine lv_aload_n hx hb dCM_face_22 rfl (lv_at hl 0 rfl) ?_
    refine va_get (D := (dC, dI)) (ci := 5) (v := .ref (ad 1)) (C := RCM) (T := TCM) (N := 23) hx hb hts inCM hown hK hP 0 rfl rfl 1 (by decide) (hts _ mw_357) (fun _ h9 => h9) rfl dCM_face_23 ?_
    refine lv_aload_n hx hb dCM_face_26 rfl (lv_at hl 0 rfl) ?_
    refine va_get (D := (dC, dI)) (ci := 5) (v := .int (σ2.1 0 0)) (C := RCM) (T := TCM) (N := 23) hx hb hts inCM hown hK hP 0 rfl rfl 0 (by decide) (hts _ mw_355) (fun _ h9 => h9) rfl dCM_face_27 ?_
    refine lv_iconst (v := (1 : Int32)) hx hb dCM_face_30 (by decide) ?_
    obtain ⟨b3, h⟩ := gx_nb h
    refine va_zast hx hb hK hP hD hS 1 0 rfl rfl b3 dCM_face_31 (fun H locs hP hD hS => ?_)
    obtain ⟨σ4, eσ4⟩ : ∃ z, z = sI σ2 1 (σ2.1 0 0).toNatClampNeg (vp_nar .boolean (1 : Int32)) := ⟨_, rfl⟩
    have hP : va_P (dC, dI) vwC (mW ad cA σ4) H := by rw [eσ4]; exact hP
    have hD : va_D (mA ad) (mW ad cA σ4) := by rw [eσ4]; exact hD
    have h := nm_at eσ4 h
    refine lv_aload_n hx hb dCM_face_32 rfl (lv_at hl 0 rfl) ?_
    refine va_get (D := (dC, dI)) (ci := 5) (v := .ref (ad 3)) (C := RCM) (T := TCM) (N := 23) hx hb hts inCM hown hK hP 0 rfl rfl 3 (by decide) (hts _ mw_358) (fun _ h9 => h9) rfl dCM_face_33 ?_
    refine lv_aload_n hx hb dCM_face_36 rfl (lv_at hl 0 rfl) ?_
    refine va_get (D := (dC, dI)) (ci := 5) (v := .int (σ4.1 0 0)) (C := RCM) (T := TCM) (N := 23) hx hb hts inCM hown hK hP 0 rfl rfl 0 (by decide) (hts _ mw_355) (fun _ h9 => h9) rfl dCM_face_37 ?_
    refine lv_iconst (v := (0 : Int32)) hx hb dCM_face_40 (by decide) ?_
    obtain ⟨b5, h⟩ := gx_nb h
    refine va_iast hx hb hK hP hD hS 3 2 rfl rfl b5 dCM_face_41 (fun H locs hP hD hS => ?_)
    obtain ⟨σ6, eσ6⟩ : ∃ z, z = sI σ4 3 (σ4.1 0 0).toNatClampNeg (0 : Int32) := ⟨_, rfl⟩
    have hP : va_P (dC, dI) vwC (mW ad cA σ6) H := by rw [eσ6]; exact hP
    have hD : va_D (mA ad) (mW ad cA σ6) := by rw [eσ6]; exact hD
    have h := nm_at eσ6 h
    refine lv_aload_n hx hb dCM_face_42 rfl (lv_at hl 0 rfl) ?_
    refine lv_dup hx hb dCM_face_43 rfl ?_
    refine va_get (D := (dC, dI)) (ci := 5) (v := .int (σ6.1 0 0)) (C := RCM) (T := TCM) (N := 23) hx hb hts inCM hown hK hP 0 rfl rfl 0 (by decide) (hts _ mw_355) (fun _ h9 => h9) rfl dCM_face_44 ?_
    refine lv_iconst (v := (1 : Int32)) hx hb dCM_face_47 (by decide) ?_
    refine lv_iadd hx hb dCM_face_48 ?_
    refine va_put (D := (dC, dI)) (ci := 5) (v := .int ((σ6.1 0 0) + (1 : Int32))) (ty := .int) (C := RCM) (T := TCM) (N := 23) hx hb hts inCM tyCM tyCM_ok nnCM hown hK hP hD hS 0 rfl rfl 0 (by decide) (hts _ mw_355) (fun _ h9 => h9) rfl (by decide +kernel) rfl rfl (Nat.le_of_ble_eq_true rfl) dCM_face_49 (fun H locs hP hD hS => ?_)
    obtain ⟨σ7, eσ7⟩ : ∃ z, z = sI σ6 0 0 ((σ6.1 0 0) + (1 : Int32)) := ⟨_, rfl⟩
    have hP : va_P (dC, dI) vwC (mW ad cA σ7) H := by rw [eσ7]; exact hP
    have hD : va_D (mA ad) (mW ad cA σ7) := by rw [eσ7]; exact hD
    have h := nm_at eσ7 h
    refine lv_aload_n hx hb dCM_face_52 rfl (lv_at hl 0 rfl) ?_
    obtain ⟨σ9, eσ9, h⟩ := Option.bind_eq_some_iff.mp h
    refine gcall_v (wd := mW ad cA) (b := ad 0) (As := []) (rest := []) mkeys C hK hP hD hS (ci := 5) (q0 := 0) rfl rfl (kCM_closeTypes l dC dI ad cA σ7 σ9 eσ9) (cwV 0 hts (gw mw_367 mw_368 mw_369 mw_363 mw_370) rfl rfl rfl hdCM_closeTypes ⟨Nat.le_of_ble_eq_true rfl, Nat.le_of_ble_eq_true rfl⟩) rfl hl.1 rfl (Nat.le_of_ble_eq_true rfl) dCM_face_53 ⟨Nat.le_refl _, Nat.le_refl _⟩ (fun H locs hP hD hS => ?_)
    refine lv_bipush (v := (16 : Int32)) hx hb dCM_face_56 (by decide) ?_
    refine lv_aload_n hx hb dCM_face_58 rfl (lv_at hl 0 rfl) ?_
    refine va_get (D := (dC, dI)) (ci := 5) (v := .int (σ9.1 0 0)) (C := RCM) (T := TCM) (N := 23) hx hb hts inCM hown hK hP 0 rfl rfl 0 (by decide) (hts _ mw_355) (fun _ h9 => h9) rfl dCM_face_59 ?_
    refine lv_iadd hx hb dCM_face_62 ?_
    refine lv_iconst (v := (1 : Int32)) hx hb dCM_face_63 (by decide) ?_
    refine lv_isub hx hb dCM_face_64 ?_
    exact hend _ _ _ _ _ _ (Option.some.inj h) hP hS dCM_face_65
  · have h := (if_pos c10).symm.trans h
    refine lv_bipush (v := (-2 : Int32)) hx hb dCM_face_9 (by decide) ?_
    exact hend _ _ _ _ _ _ (Option.some.inj h) hP hS dCM_face_11
set_option maxHeartbeats 4000000 in
set_option maxRecDepth 100000 in
theorem kCM_face (l : Launch) (dC : Nat → ClassId) (dI : Nat → Nat → Nat) (ad : Nat → Nat) (cA : Nat → ClassId) (σ : xSt) (r : (Int32 × xSt)) (h : fCM_face σ = some r) : Met l yCM_face wsCM_face rm_CM_face (va_Pc [.ref (ad 0)] (fun U => va_P (dC, dI) vwC (mW ad cA σ) U.heap ∧ va_K (dC, dI) vwC (mT cA) U ∧ va_D (mA ad) (mW ad cA σ))) (va_Qi (fun (v : Int32) (u : xSt) => (v, u) = r) (fun u t => va_P (dC, dI) vwC (mW ad cA u) t.heap) (mA ad)) 0 0 (mA ad) := by
  refine Met.ofW (cc := cCM_face) (maxL := 1) (ret := (some .int)) (by decide) rfl ?_
  intro p e s m args below meth c s₁ B hml hv
  obtain ⟨rfl, hP, hK, hD⟩ := hv
  have hr := B.returns
  have hlocks := B.notSynchronized
  have hl := lv_entry ([.ref (ad 0)]) (n := 1) (Nat.le_of_ble_eq_true rfl)
  rw [lg_entry_eq]
  exact wCM_face ⟨B.exec, B.bytes, hml, findClass_of_methodNamed B.named, fun w h => atoms_spec (ws := wsCM_face) B.pre w (List.mem_cons_of_mem _ h)⟩ hK (fun v σ H locs pc ls hv hP hS hd => W.iret (v := v) B.exec B.bytes hr (fun t ht hW => ⟨⟨v, σ, rfl, hv, by show va_P _ _ _ t.heap; rw [ht]; exact hP⟩, hS.F ht⟩) hS.2.2 hd) hP hD va_S.rf _ hl h
abbrev rm_CM_below : Room := { frames := 2, cells := 0, slots := 0, locals := 45 }
def fCM_below_b98 (k62 : xSt → Int32 → Int32 → Int32 → Int32 → Option (Int32 × xSt)) (σ : xSt) (x2 : Int32) (x3 : Int32) (x5 : Int32) (s0 : Int32) : Option (Int32 × xSt) :=
  k62 σ x2 x3 s0 (x5 + (1 : Int32))
set_option maxHeartbeats 4000000 in
set_option maxRecDepth 100000 in
theorem wCM_below_b98 {p : Program} {l : Launch} {e : Env} {s : State} {m : MethodId} {args : Array Value} {below : List Frame} {meth : Method} {c : Code} {Q : State → Prop} {dC : Nat → ClassId} {dI : Nat → Nat → Nat} {ad : Nat → Nat} {cA : Nat → ClassId} {r : (Int32 × xSt)} (C : CallFix p m c cCM_below 6 s args wAll RCM) (hK : va_K (dC, dI) vwC (mT cA) s) (hend : ∀ (v : Int32) (σ : xSt) (H : Heap) (locs : List Loc) (pc : Nat) (ls : Array Slot), (v, σ) = r → va_P (dC, dI) vwC (mW ad cA σ) H → va_S (mA ad) s.heap H locs → decode cCM_below pc = .ok (.ireturn, 1) → W p l e rm_CM_below s m args below meth c H locs 0 0 Q (F0 m pc ls [.int v])) {k62 : xSt → Int32 → Int32 → Int32 → Int32 → Option (Int32 × xSt)} (hk62 : ∀ (σ : xSt) (H : Heap) (locs : List Loc) (x2 : Int32) (x3 : Int32) (x4 : Int32) (x5 : Int32) (ls : Array Slot), va_P (dC, dI) vwC (mW ad cA σ) H → va_D (mA ad) (mW ad cA σ) → va_S (mA ad) s.heap H locs → lv_has ls 6 [(0, .ref (ad 0)), (2, .int (x2)), (3, .int (x3)), (4, .int (x4)), (5, .int (x5))] → k62 σ x2 x3 x4 x5 = some r → W p l e rm_CM_below s m args below meth c H locs 0 0 Q (F0 m 62 ls [])) :
    ∀ (σ : xSt) (H : Heap) (locs : List Loc) (x2 : Int32) (x3 : Int32) (x5 : Int32) (s0 : Int32) (ls : Array Slot), va_P (dC, dI) vwC (mW ad cA σ) H → va_D (mA ad) (mW ad cA σ) → va_S (mA ad) s.heap H locs → lv_has ls 6 [(0, .ref (ad 0)), (2, .int (x2)), (3, .int (x3)), (5, .int (x5))] → fCM_below_b98 k62 σ x2 x3 x5 s0 = some r → W p l e rm_CM_below s m args below meth c H locs 0 0 Q (F0 m 98 ls [.int (s0)]) := by
  obtain ⟨hx, hb, hml, hown, hts⟩ := id C
  intro σ H locs x2 x3 x5 s0 ls hP hD hS hl h
  unfold fCM_below_b98 at h
  refine lv_istore (lv' := [(4, .int (s0)), (0, .ref (ad 0)), (2, .int (x2)), (3, .int (x3)), (5, .int (x5))]) hx hb dCM_below_98 hl (by decide) rfl (fun ls hl => ?_)
  refine lv_iinc (v := x5 + (1 : Int32)) (lv' := [(5, .int (x5 + (1 : Int32))), (4, .int (s0)), (0, .ref (ad 0)), (2, .int (x2)), (3, .int (x3))]) hx hb dCM_below_100 hl (k := 4) rfl rfl (by decide) rfl (fun ls hl => ?_)
  refine lv_goto (tgt := 62) hx hb dCM_below_103 (by decide) ?_
  exact hk62 _ _ _ _ _ _ _ _ hP hD hS (lv_sub hl [2, 3, 4, 1, 0] rfl) h
def fCM_below_b93 (k62 : xSt → Int32 → Int32 → Int32 → Int32 → Option (Int32 × xSt)) (σ : xSt) (x2 : Int32) (x3 : Int32) (x5 : Int32) : Option (Int32 × xSt) :=
  fCM_below_b98 k62 σ x2 x3 x5 (1 : Int32)
set_option maxHeartbeats 4000000 in
set_option maxRecDepth 100000 in
theorem wCM_below_b93 {p : Program} {l : Launch} {e : Env} {s : State} {m : MethodId} {args : Array Value} {below : List Frame} {meth : Method} {c : Code} {Q : State → Prop} {dC : Nat → ClassId} {dI : Nat → Nat → Nat} {ad : Nat → Nat} {cA : Nat → ClassId} {r : (Int32 × xSt)} (C : CallFix p m c cCM_below 6 s args wAll RCM) (hK : va_K (dC, dI) vwC (mT cA) s) (hend : ∀ (v : Int32) (σ : xSt) (H : Heap) (locs : List Loc) (pc : Nat) (ls : Array Slot), (v, σ) = r → va_P (dC, dI) vwC (mW ad cA σ) H → va_S (mA ad) s.heap H locs → decode cCM_below pc = .ok (.ireturn, 1) → W p l e rm_CM_below s m args below meth c H locs 0 0 Q (F0 m pc ls [.int v])) {k62 : xSt → Int32 → Int32 → Int32 → Int32 → Option (Int32 × xSt)} (hk62 : ∀ (σ : xSt) (H : Heap) (locs : List Loc) (x2 : Int32) (x3 : Int32) (x4 : Int32) (x5 : Int32) (ls : Array Slot), va_P (dC, dI) vwC (mW ad cA σ) H → va_D (mA ad) (mW ad cA σ) → va_S (mA ad) s.heap H locs → lv_has ls 6 [(0, .ref (ad 0)), (2, .int (x2)), (3, .int (x3)), (4, .int (x4)), (5, .int (x5))] → k62 σ x2 x3 x4 x5 = some r → W p l e rm_CM_below s m args below meth c H locs 0 0 Q (F0 m 62 ls [])) :
    ∀ (σ : xSt) (H : Heap) (locs : List Loc) (x2 : Int32) (x3 : Int32) (x5 : Int32) (ls : Array Slot), va_P (dC, dI) vwC (mW ad cA σ) H → va_D (mA ad) (mW ad cA σ) → va_S (mA ad) s.heap H locs → lv_has ls 6 [(0, .ref (ad 0)), (2, .int (x2)), (3, .int (x3)), (5, .int (x5))] → fCM_below_b93 k62 σ x2 x3 x5 = some r → W p l e rm_CM_below s m args below meth c H locs 0 0 Q (F0 m 93 ls []) := by
  obtain ⟨hx, hb, hml, hown, hts⟩ := id C
  intro σ H locs x2 x3 x5 ls hP hD hS hl h
  unfold fCM_below_b93 at h
  refine lv_iconst (v := (1 : Int32)) hx hb dCM_below_93 (by decide) ?_
  refine lv_goto (tgt := 98) hx hb dCM_below_94 (by decide) ?_
  exact wCM_below_b98 C hK hend hk62 _ _ _ _ _ _ _ _ hP hD hS (lv_sub hl [0, 1, 2, 3] rfl) h
def fCM_below_b62 : Nat → xSt → Int32 → Int32 → Int32 → Int32 → Option (Int32 × xSt)
  | 0, _, _, _, _, _ => none
  | n + 1, σ, x2, x3, x4, x5 =>
    if x3 < 0 ∨ 24 ≤ x3.toNatClampNeg then none else
    if (σ.1 3 x3.toNatClampNeg) ≤ x5 then
      if x4 = 0 then
        if x3 < 0 ∨ 24 ≤ x3.toNatClampNeg then none else
        if (σ.1 3 x3.toNatClampNeg) = (4 : Int32) then
          some ((-2 : Int32), σ)
        else
          if x3 < 0 ∨ 24 ≤ x3.toNatClampNeg then none else
          if (((4 : Int32) * x3) + (σ.1 3 x3.toNatClampNeg)) < 0 ∨ 96 ≤ (((4 : Int32) * x3) + (σ.1 3 x3.toNatClampNeg)).toNatClampNeg then none else
          nm (sI σ 4 (((4 : Int32) * x3) + (σ.1 3 x3.toNatClampNeg)).toNatClampNeg x2) fun σ10 =>
          if x3 < 0 ∨ 24 ≤ x3.toNatClampNeg then none else
          if x3 < 0 ∨ 24 ≤ x3.toNatClampNeg then none else
          nm (sI σ10 3 x3.toNatClampNeg ((σ10.1 3 x3.toNatClampNeg) + (1 : Int32))) fun σ13 =>
          (fCM_closeTypes σ13).bind fun σ15 =>
          if x3 < 0 ∨ 24 ≤ x3.toNatClampNeg then none else
          some (σ15.1 3 x3.toNatClampNeg, σ15)
      else
        some ((-2 : Int32), σ)
    else
      if x4 = 0 then
        if (((4 : Int32) * x3) + x5) < 0 ∨ 96 ≤ (((4 : Int32) * x3) + x5).toNatClampNeg then none else
        if (σ.1 4 (((4 : Int32) * x3) + x5).toNatClampNeg) = x2 then
          fCM_below_b93 (fCM_below_b62 n) σ x2 x3 x5
        else
          fCM_below_b98 (fCM_below_b62 n) σ x2 x3 x5 (0 : Int32)
      else
        fCM_below_b93 (fCM_below_b62 n) σ x2 x3 x5
set_option maxHeartbeats 4000000 in
set_option maxRecDepth 100000 in
theorem wCM_below_b62 {p : Program} {l : Launch} {e : Env} {s : State} {m : MethodId} {args : Array Value} {below : List Frame} {meth : Method} {c : Code} {Q : State → Prop} {dC : Nat → ClassId} {dI : Nat → Nat → Nat} {ad : Nat → Nat} {cA : Nat → ClassId} {r : (Int32 × xSt)} (C : CallFix p m c cCM_below 6 s args wAll RCM) (hK : va_K (dC, dI) vwC (mT cA) s) (hend : ∀ (v : Int32) (σ : xSt) (H : Heap) (locs : List Loc) (pc : Nat) (ls : Array Slot), (v, σ) = r → va_P (dC, dI) vwC (mW ad cA σ) H → va_S (mA ad) s.heap H locs → decode cCM_below pc = .ok (.ireturn, 1) → W p l e rm_CM_below s m args below meth c H locs 0 0 Q (F0 m pc ls [.int v])) :
    ∀ (n : Nat) (σ : xSt) (H : Heap) (locs : List Loc) (x2 : Int32) (x3 : Int32) (x4 : Int32) (x5 : Int32) (ls : Array Slot), va_P (dC, dI) vwC (mW ad cA σ) H → va_D (mA ad) (mW ad cA σ) → va_S (mA ad) s.heap H locs → lv_has ls 6 [(0, .ref (ad 0)), (2, .int (x2)), (3, .int (x3)), (4, .int (x4)), (5, .int (x5))] → fCM_below_b62 n σ x2 x3 x4 x5 = some r → W p l e rm_CM_below s m args below meth c H locs 0 0 Q (F0 m 62 ls []) := by
  obtain ⟨hx, hb, hml, hown, hts⟩ := id C
  intro n
  induction n with
  | zero =>
    intro σ H locs x2 x3 x4 x5 ls hP hD hS hl h
    rw [fCM_below_b62] at h
    cases h
  | succ n ih =>
    intro σ H locs x2 x3 x4 x5 ls hP hD hS hl h
    rw [fCM_below_b62] at h
    refine lv_iload hx hb dCM_below_62 (lv_at hl 4 rfl) ?_
    refine lv_aload_n hx hb dCM_below_64 rfl (lv_at hl 0 rfl) ?_
    refine va_get (D := (dC, dI)) (ci := 5) (v := .ref (ad 3)) (C := RCM) (T := TCM) (N := 23) hx hb hts inCM hown hK hP 0 rfl rfl 3 (by decide) (hts _ mw_358) (fun _ h9 => h9) rfl dCM_below_65 ?_
    refine lv_iload_n hx hb dCM_below_68 rfl (lv_at hl 2 rfl) ?_
    obtain ⟨b6, h⟩ := gx_nb h
    refine va_iald hx hb hK hP 3 2 rfl rfl b6 dCM_below_69 ?_
    refine lv_icmp_ge (tgt := 106) hx hb dCM_below_70 (by decide) (fun c22 => ?_) (fun c22 => ?_)
    · have h := (if_pos c22).symm.trans h
      refine lv_iload hx hb dCM_below_106 (lv_at hl 3 rfl) ?_
      refine lv_if_ne (tgt := 121) hx hb dCM_below_108 (by decide) (fun c18 => ?_) (fun c18 => ?_)
      · have h := (if_neg c18).symm.trans h
        refine lv_bipush (v := (-2 : Int32)) hx hb dCM_below_121 (by decide) ?_
        exact hend _ _ _ _ _ _ (Option.some.inj h) hP hS dCM_below_123
      · have h := (if_pos c18).symm.trans h
        refine lv_aload_n hx hb dCM_below_111 rfl (lv_at hl 0 rfl) ?_
        refine va_get (D := (dC, dI)) (ci := 5) (v := .ref (ad 3)) (C := RCM) (T := TCM) (N := 23) hx hb hts inCM hown hK hP 0 rfl rfl 3 (by decide) (hts _ mw_358) (fun _ h9 => h9) rfl dCM_below_112 ?_
        refine lv_iload_n hx hb dCM_below_115 rfl (lv_at hl 2 rfl) ?_
        obtain ⟨b7, h⟩ := gx_nb h
        refine va_iald hx hb hK hP 3 2 rfl rfl b7 dCM_below_116 ?_
        refine lv_iconst (v := (4 : Int32)) hx hb dCM_below_117 (by decide) ?_
        refine lv_icmp_ne (tgt := 124) hx hb dCM_below_118 (by decide) (fun c17 => ?_) (fun c17 => ?_)
        · have h := (if_neg c17).symm.trans h
          refine lv_aload_n hx hb dCM_below_124 rfl (lv_at hl 0 rfl) ?_
          refine va_get (D := (dC, dI)) (ci := 5) (v := .ref (ad 4)) (C := RCM) (T := TCM) (N := 23) hx hb hts inCM hown hK hP 0 rfl rfl 4 (by decide) (hts _ mw_366) (fun _ h9 => h9) rfl dCM_below_125 ?_
          refine lv_iconst (v := (4 : Int32)) hx hb dCM_below_128 (by decide) ?_
          refine lv_iload_n hx hb dCM_below_129 rfl (lv_at hl 2 rfl) ?_
          refine lv_imul hx hb dCM_below_130 ?_
          refine lv_aload_n hx hb dCM_below_131 rfl (lv_at hl 0 rfl) ?_
          refine va_get (D := (dC, dI)) (ci := 5) (v := .ref (ad 3)) (C := RCM) (T := TCM) (N := 23) hx hb hts inCM hown hK hP 0 rfl rfl 3 (by decide) (hts _ mw_358) (fun _ h9 => h9) rfl dCM_below_132 ?_
          refine lv_iload_n hx hb dCM_below_135 rfl (lv_at hl 2 rfl) ?_
          obtain ⟨b8, h⟩ := gx_nb h
          refine va_iald hx hb hK hP 3 2 rfl rfl b8 dCM_below_136 ?_
          refine lv_iadd hx hb dCM_below_137 ?_
          refine lv_iload_n hx hb dCM_below_138 rfl (lv_at hl 1 rfl) ?_
          obtain ⟨b9, h⟩ := gx_nb h
          refine va_iast hx hb hK hP hD hS 4 3 rfl rfl b9 dCM_below_139 (fun H locs hP hD hS => ?_)
          obtain ⟨σ10, eσ10⟩ : ∃ z, z = sI σ 4 (((4 : Int32) * x3) + (σ.1 3 x3.toNatClampNeg)).toNatClampNeg x2 := ⟨_, rfl⟩
          have hP : va_P (dC, dI) vwC (mW ad cA σ10) H := by rw [eσ10]; exact hP
          have hD : va_D (mA ad) (mW ad cA σ10) := by rw [eσ10]; exact hD
          have h := nm_at eσ10 h
          refine lv_aload_n hx hb dCM_below_140 rfl (lv_at hl 0 rfl) ?_
          refine va_get (D := (dC, dI)) (ci := 5) (v := .ref (ad 3)) (C := RCM) (T := TCM) (N := 23) hx hb hts inCM hown hK hP 0 rfl rfl 3 (by decide) (hts _ mw_358) (fun _ h9 => h9) rfl dCM_below_141 ?_
          refine lv_iload_n hx hb dCM_below_144 rfl (lv_at hl 2 rfl) ?_
          refine lv_dup2_11 hx hb dCM_below_145 rfl rfl ?_
          obtain ⟨b11, h⟩ := gx_nb h
          refine va_iald hx hb hK hP 3 2 rfl rfl b11 dCM_below_146 ?_
          refine lv_iconst (v := (1 : Int32)) hx hb dCM_below_147 (by decide) ?_
          refine lv_iadd hx hb dCM_below_148 ?_
          obtain ⟨b12, h⟩ := gx_nb h
          refine va_iast hx hb hK hP hD hS 3 2 rfl rfl b12 dCM_below_149 (fun H locs hP hD hS => ?_)
          obtain ⟨σ13, eσ13⟩ : ∃ z, z = sI σ10 3 x3.toNatClampNeg ((σ10.1 3 x3.toNatClampNeg) + (1 : Int32)) := ⟨_, rfl⟩
          have hP : va_P (dC, dI) vwC (mW ad cA σ13) H := by rw [eσ13]; exact hP
          have hD : va_D (mA ad) (mW ad cA σ13) := by rw [eσ13]; exact hD
          have h := nm_at eσ13 h
          refine lv_aload_n hx hb dCM_below_150 rfl (lv_at hl 0 rfl) ?_
          obtain ⟨σ15, eσ15, h⟩ := Option.bind_eq_some_iff.mp h
          refine gcall_v (wd := mW ad cA) (b := ad 0) (As := []) (rest := []) mkeys C hK hP hD hS (ci := 5) (q0 := 0) rfl rfl (kCM_closeTypes l dC dI ad cA σ13 σ15 eσ15) (cwV 0 hts (gw mw_367 mw_368 mw_369 mw_363 mw_370) rfl rfl rfl hdCM_closeTypes ⟨Nat.le_of_ble_eq_true rfl, Nat.le_of_ble_eq_true rfl⟩) rfl hl.1 rfl (Nat.le_of_ble_eq_true rfl) dCM_below_151 ⟨Nat.le_refl _, Nat.le_refl _⟩ (fun H locs hP hD hS => ?_)
          refine lv_aload_n hx hb dCM_below_154 rfl (lv_at hl 0 rfl) ?_
          refine va_get (D := (dC, dI)) (ci := 5) (v := .ref (ad 3)) (C := RCM) (T := TCM) (N := 23) hx hb hts inCM hown hK hP 0 rfl rfl 3 (by decide) (hts _ mw_358) (fun _ h9 => h9) rfl dCM_below_155 ?_
          refine lv_iload_n hx hb dCM_below_158 rfl (lv_at hl 2 rfl) ?_
          obtain ⟨b16, h⟩ := gx_nb h
          refine va_iald hx hb hK hP 3 2 rfl rfl b16 dCM_below_159 ?_
          exact hend _ _ _ _ _ _ (Option.some.inj h) hP hS dCM_below_160
        · have h := (if_pos c17).symm.trans h
          refine lv_bipush (v := (-2 : Int32)) hx hb dCM_below_121 (by decide) ?_
          exact hend _ _ _ _ _ _ (Option.some.inj h) hP hS dCM_below_123
    · have h := (if_neg c22).symm.trans h
      refine lv_iload hx hb dCM_below_73 (lv_at hl 3 rfl) ?_
      refine lv_if_ne (tgt := 93) hx hb dCM_below_75 (by decide) (fun c21 => ?_) (fun c21 => ?_)
      · have h := (if_neg c21).symm.trans h
        exact wCM_below_b93 C hK hend ih _ _ _ _ _ _ _ hP hD hS (lv_sub hl [0, 1, 2, 4] rfl) h
      · have h := (if_pos c21).symm.trans h
        refine lv_aload_n hx hb dCM_below_78 rfl (lv_at hl 0 rfl) ?_
        refine va_get (D := (dC, dI)) (ci := 5) (v := .ref (ad 4)) (C := RCM) (T := TCM) (N := 23) hx hb hts inCM hown hK hP 0 rfl rfl 4 (by decide) (hts _ mw_366) (fun _ h9 => h9) rfl dCM_below_79 ?_
        refine lv_iconst (v := (4 : Int32)) hx hb dCM_below_82 (by decide) ?_
        refine lv_iload_n hx hb dCM_below_83 rfl (lv_at hl 2 rfl) ?_
        refine lv_imul hx hb dCM_below_84 ?_
        refine lv_iload hx hb dCM_below_85 (lv_at hl 4 rfl) ?_
        refine lv_iadd hx hb dCM_below_87 ?_
        obtain ⟨b19, h⟩ := gx_nb h
        refine va_iald hx hb hK hP 4 3 rfl rfl b19 dCM_below_88 ?_
        refine lv_iload_n hx hb dCM_below_89 rfl (lv_at hl 1 rfl) ?_
        refine lv_icmp_ne (tgt := 97) hx hb dCM_below_90 (by decide) (fun c20 => ?_) (fun c20 => ?_)
        · have h := (if_neg c20).symm.trans h
          refine lv_iconst (v := (0 : Int32)) hx hb dCM_below_97 (by decide) ?_
          exact wCM_below_b98 C hK hend ih _ _ _ _ _ _ _ _ hP hD hS (lv_sub hl [0, 1, 2, 4] rfl) h
        · have h := (if_pos c20).symm.trans h
          exact wCM_below_b93 C hK hend ih _ _ _ _ _ _ _ hP hD hS (lv_sub hl [0, 1, 2, 4] rfl) h
def fCM_below (σ : xSt) (x1 : Int32) (x2 : Int32) : Option (Int32 × xSt) :=
  (fCM_isTold σ x1).bind fun v1 =>
  if v1 = 0 then
    some ((-2 : Int32), σ)
  else
    (fCM_isTold σ x2).bind fun v2 =>
    if v2 = 0 then
      some ((-2 : Int32), σ)
    else
      if (x2 - (16 : Int32)) < 0 ∨ 24 ≤ (x2 - (16 : Int32)).toNatClampNeg then none else
      if (σ.1 1 (x2 - (16 : Int32)).toNatClampNeg) = 0 then
        some ((-2 : Int32), σ)
      else
        if ((((24 : Int32) * (x2 - (16 : Int32))) + x1) - (16 : Int32)) < 0 ∨ 576 ≤ ((((24 : Int32) * (x2 - (16 : Int32))) + x1) - (16 : Int32)).toNatClampNeg then none else
        if (σ.1 5 ((((24 : Int32) * (x2 - (16 : Int32))) + x1) - (16 : Int32)).toNatClampNeg) = 0 then
          nm (x1 - (16 : Int32)) fun y5 =>
          fCM_below_b62 gF σ x2 y5 (0 : Int32) (0 : Int32)
        else
          some ((-2 : Int32), σ)
set_option maxHeartbeats 4000000 in
set_option maxRecDepth 100000 in
theorem wCM_below {p : Program} {l : Launch} {e : Env} {s : State} {m : MethodId} {args : Array Value} {below : List Frame} {meth : Method} {c : Code} {Q : State → Prop} {dC : Nat → ClassId} {dI : Nat → Nat → Nat} {ad : Nat → Nat} {cA : Nat → ClassId} {r : (Int32 × xSt)} (C : CallFix p m c cCM_below 6 s args wAll RCM) (hK : va_K (dC, dI) vwC (mT cA) s) (hend : ∀ (v : Int32) (σ : xSt) (H : Heap) (locs : List Loc) (pc : Nat) (ls : Array Slot), (v, σ) = r → va_P (dC, dI) vwC (mW ad cA σ) H → va_S (mA ad) s.heap H locs → decode cCM_below pc = .ok (.ireturn, 1) → W p l e rm_CM_below s m args below meth c H locs 0 0 Q (F0 m pc ls [.int v])) {H : Heap} {locs : List Loc} {σ : xSt} (hP : va_P (dC, dI) vwC (mW ad cA σ) H) (hD : va_D (mA ad) (mW ad cA σ)) (hS : va_S (mA ad) s.heap H locs) {x1 : Int32} {x2 : Int32} (ls : Array Slot) (hl : lv_has ls 6 [(0, .ref (ad 0)), (1, .int (x1)), (2, .int (x2))]) (h : fCM_below σ x1 x2 = some r) : W p l e rm_CM_below s m args below meth c H locs 0 0 Q (F0 m 0 ls []) := by
  obtain ⟨hx, hb, hml, hown, hts⟩ := id C
  unfold fCM_below at h
  refine lv_aload_n hx hb dCM_below_0 rfl (lv_at hl 0 rfl) ?_
  refine lv_iload_n hx hb dCM_below_1 rfl (lv_at hl 1 rfl) ?_
  obtain ⟨v1, ev1, h⟩ := Option.bind_eq_some_iff.mp h
  refine gcall_r (b := ad 0) (As := [.int (x1)]) (rest := []) C hK hP (ci := 5) (q0 := 0) rfl rfl (kCM_isTold l dC dI ad cA σ x1 v1 ev1) (cwV 1 hts (gw mw_371 mw_372 mw_373 mw_363 mw_374) rfl rfl rfl hdCM_isTold ⟨Nat.le_of_ble_eq_true rfl, Nat.le_of_ble_eq_true rfl⟩) rfl hl.1 rfl (Nat.le_of_ble_eq_true rfl) dCM_below_2 ⟨Nat.le_refl _, Nat.le_refl _⟩ ?_
  refine lv_if_eq (tgt := 48) hx hb dCM_below_5 (by decide) (fun c26 => ?_) (fun c26 => ?_)
  · have h := (if_pos c26).symm.trans h
    refine lv_bipush (v := (-2 : Int32)) hx hb dCM_below_48 (by decide) ?_
    exact hend _ _ _ _ _ _ (Option.some.inj h) hP hS dCM_below_50
  · have h := (if_neg c26).symm.trans h
    refine lv_aload_n hx hb dCM_below_8 rfl (lv_at hl 0 rfl) ?_
    refine lv_iload_n hx hb dCM_below_9 rfl (lv_at hl 2 rfl) ?_
    obtain ⟨v2, ev2, h⟩ := Option.bind_eq_some_iff.mp h
    refine gcall_r (b := ad 0) (As := [.int (x2)]) (rest := []) C hK hP (ci := 5) (q0 := 0) rfl rfl (kCM_isTold l dC dI ad cA σ x2 v2 ev2) (cwV 1 hts (gw mw_371 mw_372 mw_373 mw_363 mw_374) rfl rfl rfl hdCM_isTold ⟨Nat.le_of_ble_eq_true rfl, Nat.le_of_ble_eq_true rfl⟩) rfl hl.1 rfl (Nat.le_of_ble_eq_true rfl) dCM_below_10 ⟨Nat.le_refl _, Nat.le_refl _⟩ ?_
    refine lv_if_eq (tgt := 48) hx hb dCM_below_13 (by decide) (fun c25 => ?_) (fun c25 => ?_)
    · have h := (if_pos c25).symm.trans h
      refine lv_bipush (v := (-2 : Int32)) hx hb dCM_below_48 (by decide) ?_
      exact hend _ _ _ _ _ _ (Option.some.inj h) hP hS dCM_below_50
    · have h := (if_neg c25).symm.trans h
      refine lv_aload_n hx hb dCM_below_16 rfl (lv_at hl 0 rfl) ?_
      refine va_get (D := (dC, dI)) (ci := 5) (v := .ref (ad 1)) (C := RCM) (T := TCM) (N := 23) hx hb hts inCM hown hK hP 0 rfl rfl 1 (by decide) (hts _ mw_357) (fun _ h9 => h9) rfl dCM_below_17 ?_
      refine lv_iload_n hx hb dCM_below_20 rfl (lv_at hl 2 rfl) ?_
      refine lv_bipush (v := (16 : Int32)) hx hb dCM_below_21 (by decide) ?_
      refine lv_isub hx hb dCM_below_23 ?_
      obtain ⟨b3, h⟩ := gx_nb h
      refine va_zald hx hb hK hP 1 0 rfl rfl b3 dCM_below_24 ?_
      refine lv_if_eq (tgt := 48) hx hb dCM_below_25 (by decide) (fun c24 => ?_) (fun c24 => ?_)
      · have h := (if_pos c24).symm.trans h
        refine lv_bipush (v := (-2 : Int32)) hx hb dCM_below_48 (by decide) ?_
        exact hend _ _ _ _ _ _ (Option.some.inj h) hP hS dCM_below_50
      · have h := (if_neg c24).symm.trans h
        refine lv_aload_n hx hb dCM_below_28 rfl (lv_at hl 0 rfl) ?_
        refine va_get (D := (dC, dI)) (ci := 5) (v := .ref (ad 5)) (C := RCM) (T := TCM) (N := 23) hx hb hts inCM hown hK hP 0 rfl rfl 5 (by decide) (hts _ mw_365) (fun _ h9 => h9) rfl dCM_below_29 ?_
        refine lv_bipush (v := (24 : Int32)) hx hb dCM_below_32 (by decide) ?_
        refine lv_iload_n hx hb dCM_below_34 rfl (lv_at hl 2 rfl) ?_
        refine lv_bipush (v := (16 : Int32)) hx hb dCM_below_35 (by decide) ?_
        refine lv_isub hx hb dCM_below_37 ?_
        refine lv_imul hx hb dCM_below_38 ?_
        refine lv_iload_n hx hb dCM_below_39 rfl (lv_at hl 1 rfl) ?_
        refine lv_iadd hx hb dCM_below_40 ?_
        refine lv_bipush (v := (16 : Int32)) hx hb dCM_below_41 (by decide) ?_
        refine lv_isub hx hb dCM_below_43 ?_
        obtain ⟨b4, h⟩ := gx_nb h
        refine va_zald hx hb hK hP 5 4 rfl rfl b4 dCM_below_44 ?_
        refine lv_if_eq (tgt := 51) hx hb dCM_below_45 (by decide) (fun c23 => ?_) (fun c23 => ?_)
        · have h := (if_pos c23).symm.trans h
          refine lv_iload_n hx hb dCM_below_51 rfl (lv_at hl 1 rfl) ?_
          refine lv_bipush (v := (16 : Int32)) hx hb dCM_below_52 (by decide) ?_
          refine lv_isub hx hb dCM_below_54 ?_
          refine lv_topi (fun y5 ey5 => ?_)
          have h := nm_at ey5 h
          refine lv_istore_n (lv' := [(3, .int (y5)), (0, .ref (ad 0)), (1, .int (x1)), (2, .int (x2))]) hx hb dCM_below_55 rfl hl (by decide) rfl (fun ls hl => ?_)
          refine lv_iconst (v := (0 : Int32)) hx hb dCM_below_56 (by decide) ?_
          refine lv_istore (lv' := [(4, .int ((0 : Int32))), (3, .int (y5)), (0, .ref (ad 0)), (1, .int (x1)), (2, .int (x2))]) hx hb dCM_below_57 hl (by decide) rfl (fun ls hl => ?_)
          refine lv_iconst (v := (0 : Int32)) hx hb dCM_below_59 (by decide) ?_
          refine lv_istore (lv' := [(5, .int ((0 : Int32))), (4, .int ((0 : Int32))), (3, .int (y5)), (0, .ref (ad 0)), (1, .int (x1)), (2, .int (x2))]) hx hb dCM_below_60 hl (by decide) rfl (fun ls hl => ?_)
          exact wCM_below_b62 C hK hend _ _ _ _ _ _ _ _ _ hP hD hS (lv_sub hl [3, 5, 2, 1, 0] rfl) h
        · have h := (if_neg c23).symm.trans h
          refine lv_bipush (v := (-2 : Int32)) hx hb dCM_below_48 (by decide) ?_
          exact hend _ _ _ _ _ _ (Option.some.inj h) hP hS dCM_below_50
set_option maxHeartbeats 4000000 in
set_option maxRecDepth 100000 in
theorem kCM_below (l : Launch) (dC : Nat → ClassId) (dI : Nat → Nat → Nat) (ad : Nat → Nat) (cA : Nat → ClassId) (σ : xSt) (x1 : Int32) (x2 : Int32) (r : (Int32 × xSt)) (h : fCM_below σ x1 x2 = some r) : Met l yCM_below wsCM_below rm_CM_below (va_Pc [.ref (ad 0), .int (x1), .int (x2)] (fun U => va_P (dC, dI) vwC (mW ad cA σ) U.heap ∧ va_K (dC, dI) vwC (mT cA) U ∧ va_D (mA ad) (mW ad cA σ))) (va_Qi (fun (v : Int32) (u : xSt) => (v, u) = r) (fun u t => va_P (dC, dI) vwC (mW ad cA u) t.heap) (mA ad)) 0 0 (mA ad) := by
  refine Met.ofW (cc := cCM_below) (maxL := 6) (ret := (some .int)) (by decide) rfl ?_
  intro p e s m args below meth c s₁ B hml hv
  obtain ⟨rfl, hP, hK, hD⟩ := hv
  have hr := B.returns
  have hlocks := B.notSynchronized
  have hl := lv_entry ([.ref (ad 0), .int (x1), .int (x2)]) (n := 6) (Nat.le_of_ble_eq_true rfl)
  rw [lg_entry_eq]
  exact wCM_below ⟨B.exec, B.bytes, hml, findClass_of_methodNamed B.named, fun w h => atoms_spec (ws := wsCM_below) B.pre w (List.mem_cons_of_mem _ h)⟩ hK (fun v σ H locs pc ls hv hP hS hd => W.iret (v := v) B.exec B.bytes hr (fun t ht hW => ⟨⟨v, σ, rfl, hv, by show va_P _ _ _ t.heap; rw [ht]; exact hP⟩, hS.F ht⟩) hS.2.2 hd) hP hD va_S.rf _ hl h
