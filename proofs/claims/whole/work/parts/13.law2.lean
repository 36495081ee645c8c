/-- the two worlds of the law -/
def lwI (dC : Nat → ClassId) (dI : Nat → Nat → Nat) (ad : Nat → Nat) (cA : Nat → ClassId) (ad2 : Nat → Nat) (cA2 : Nat → ClassId) (s : State) (σ τ : xSt) (H : Heap) (locs : List Loc) : Prop :=
  va_P (dC, dI) vwC (xW ad cA σ) H ∧ va_P (dC, dI) vwC (mW ad2 cA2 τ) H ∧ va_S (fun q : Nat => s.heap.size ≤ q) s.heap H locs
def lwF (dC : Nat → ClassId) (dI : Nat → Nat → Nat) (ad : Nat → Nat) (cA : Nat → ClassId) (ad2 : Nat → Nat) (cA2 : Nat → ClassId) (s : State) : Prop :=
  va_K (dC, dI) vwC (xT cA) s ∧ va_K (dC, dI) vwC (mT cA2) s ∧ (∀ σ : xSt, va_D (xA ad) (xW ad cA σ)) ∧ (∀ τ : xSt, va_D (mA ad2) (mW ad2 cA2 τ)) ∧ (∀ q, xA ad q → s.heap.size ≤ q) ∧ (∀ q, mA ad2 q → s.heap.size ≤ q) ∧
  (∀ (τ : xSt) (k : Nat) (q : Nat × va_E), (mW ad2 cA2 τ)[k]? = some q → ¬ xA ad q.1) ∧ (∀ (σ : xSt) (k : Nat) (q : Nat × va_E), (xW ad cA σ)[k]? = some q → ¬ mA ad2 q.1)
section LCALL
variable {p : Program} {l : Launch} {e : Env} {R : Room} {s : State} {m : MethodId} {args : Array Value} {below : List Frame} {meth : Method} {c : Code} {H : Heap} {locs : List Loc} {cells slots : Nat} {Q : State → Prop}
variable {cc bytes : ByteArray} {nL maxL n index pc : Nat} {Ts ws : List Cond} {own : String} {y : MethodName} {ret : Option FieldType} {rm : Room} {b : Nat} {As rest st0 : List Value} {ls : Array Slot}
variable {D : va_G} {cl : List vw_C} {tys : List (ClassId × FieldType)}
theorem lcall_i {wd : xSt → va_W} {wo : va_W} {A0 A1 : Nat → Prop} {H0 : Heap} {σ u : xSt} {v : Int32} (S : CallFix p m c cc nL s args Ts own) (hK : va_K D cl tys s) (hP : va_P D cl (wd σ) H) (hD : va_D A1 (wd σ)) (hPo : va_P D cl wo H) (hap : ∀ (k : Nat) (q : Nat × va_E), wo[k]? = some q → ¬ A1 q.1) (hS : va_S A0 H0 H locs) (hA : ∀ q, A1 q → A0 q) {ci q0 : Nat} {q : vw_C} {fs : List Value} (hc : cl[ci]? = some q) (he : (wd σ)[q0]? = some (b, .inr (ci, fs)))
    (hM : Met l y ws rm (va_Pc (.ref b :: As) (fun U => va_P D cl (wd σ) U.heap ∧ va_K D cl tys U ∧ va_D A1 (wd σ))) (va_Qi (fun (w : Int32) (z : xSt) => (w, z) = (v, u)) (fun z t => va_P D cl (wd z) t.heap) A1) 0 0 A1)
    (cw : CallW R s args own q.1 index y bytes maxL ret ws rm 0 0 n) (hn : As.length = n) (hsize : ls.size = nL) (hstack : st0 = As.reverse ++ .ref b :: rest) (hroom : (rest.map fun v => v.category).sum ≤ 8) (hdg : decode cc pc = .ok (.invokevirtual index, 3))
    (hf : cells ≤ R.cells ∧ slots ≤ R.slots)
    (k : ∀ (H : Heap) (locs : List Loc), va_P D cl (wd u) H → va_P D cl wo H → va_S A0 H0 H locs → W p l e R s m args below meth c H locs cells slots Q (F0 m (pc + 3) ls (.int v :: rest))) : W p l e R s m args below meth c H locs cells slots Q (F0 m pc ls st0) := by
  refine va_calli (va_runV (As := As) (rest := rest) (b := b) S hM cw ⟨fun a U g mk q => ?_, va_recv hK hP hc he, fun U hU hW => ⟨rfl, by rw [hU]; exact hP, va_K.moved hW.alike hK, hD⟩⟩ rfl hn hsize hstack (lv_room hroom) hdg hf) hS (fun q _ h => hA q h) hA (fun r z t H1 locs1 ht hvm hw hB hz1 hk1 hS => ?_)
  · obtain ⟨q0, qP, qK, qD⟩ := q
    exact ⟨q0, qP, va_K.moved (u := U) (U := U.calling g mk a) (Vm.Alike.refl U.vm) qK, qD⟩
  · cases hw
    rw [ht] at hB
    exact k H1 locs1 hB (lw_keep hPo hap hk1) hS
end LCALL
theorem lw_in {x3 k : Int32} {n j L : Nat} (hn : n + 10 ≤ L) (hL : L ≤ 5120) (ex : x3 = nI n) (ek : k = nI j) (hj : j < 10) : vp_in (x3 + k) L := by
  rw [ex, ek, nI_add]
  exact vp_in_nI (by omega) (by omega)
set_option maxHeartbeats 4000000 in
set_option maxRecDepth 100000 in
theorem lw_c0 {p : Program} {l : Launch} {e : Env} {s : State} {m : MethodId} {below : List Frame} {meth : Method} {c : Code} {dC : Nat → ClassId} {dI : Nat → Nat → Nat} {ad ad2 : Nat → Nat} {cA cA2 : Nat → ClassId} {b L : Nat} {xs : Nat → Int32} (hL : L ≤ 5120) (C0 : lw_At p s m meth c b L xs) (F : lwF dC dI ad cA ad2 cA2 s) {σ τ σ' τ' : xSt} {v : Int32} {H : Heap} {locs : List Loc} (I : lwI dC dI ad cA ad2 cA2 s σ τ H locs) {x3 : Int32} {n : Nat} (hn : n + 10 ≤ L) (ex3 : x3 = nI n) {ls : Array Slot} (hl : lv_has ls 4 [(3, .int x3), (2, .ref (ad2 0)), (1, .ref (ad 0)), (0, .ref b)])
    (e1 : fC0_cls σ (xs (x3 + (1 : Int32)).toNatClampNeg) = some (v, σ')) (e2 : fCM_cls τ (xs (x3 + (1 : Int32)).toNatClampNeg) = some (v, τ'))
    (kk : ∀ (H : Heap) (locs : List Loc), lwI dC dI ad cA ad2 cA2 s σ' τ' H locs → W p l e room_1 s m #[Value.ref b] below meth c H locs 600000 7302250 (lw_Z below #[Value.ref b] s) (F0 m 725 ls [])) : W p l e room_1 s m #[Value.ref b] below meth c H locs 600000 7302250 (lw_Z below #[Value.ref b] s) (F0 m 116 ls []) := by
  obtain ⟨hx, hb, hr, hml, hown, hts0, hX, hbl, hlocks, hgv⟩ := id C0
  obtain ⟨hKx, hKm, hDx, hDm, hAx, hAm, hapm, hapx⟩ := id F
  obtain ⟨hPx, hPm, hS⟩ := I
  have hts : ∀ w ∈ wAll, w.before #[Value.ref b] s = true := fun w h => hts0 w (List.mem_filter.mp h).1
  have hbA : ¬ (fun q : Nat => s.heap.size ≤ q) b := Nat.not_le.mpr hbl
  refine lv_aload_n hx hb dCL_law_116 rfl (lv_at hl 2 rfl) ?_
  refine lv_aload_n hx hb dCL_law_117 rfl (lv_at hl 3 rfl) ?_
  refine lv_iload_n hx hb dCL_law_118 rfl (lv_at hl 0 rfl) ?_
  refine lv_iconst (v := (1 : Int32)) hx hb dCL_law_119 (by decide) ?_
  refine lv_iadd hx hb dCL_law_120 ?_
  refine va_sld hx hb hX hbl hbA hS (lw_in (j := 1) hn hL ex3 rfl (by decide)) dCL_law_121 ?_
  refine lcall_i (wd := xW ad cA) (b := ad 0) (As := [.int (xs (x3 + (1 : Int32)).toNatClampNeg)]) (rest := []) ⟨hx, hb, hml, hown, hts⟩ hKx hPx (hDx _) hPm (hapm _) hS hAx (ci := 0) (q0 := 0) rfl rfl (kC0_cls l dC dI ad cA σ (xs (x3 + (1 : Int32)).toNatClampNeg) (v, σ') e1) (cwV 1 hts (gw mw_487 mw_488 mw_489 mw_168 mw_490) rfl rfl rfl hdC0_cls ⟨Nat.le_of_ble_eq_true rfl, Nat.le_of_ble_eq_true rfl⟩) rfl hl.1 rfl (Nat.le_of_ble_eq_true rfl) dCL_law_122 ⟨Nat.le_refl _, Nat.le_refl _⟩ (fun H locs hPx hPm hS => ?_)
  refine lv_aload_n hx hb dCL_law_125 rfl (lv_at hl 1 rfl) ?_
  refine lv_aload_n hx hb dCL_law_126 rfl (lv_at hl 3 rfl) ?_
  refine lv_iload_n hx hb dCL_law_127 rfl (lv_at hl 0 rfl) ?_
  refine lv_iconst (v := (1 : Int32)) hx hb dCL_law_128 (by decide) ?_
  refine lv_iadd hx hb dCL_law_129 ?_
  refine va_sld hx hb hX hbl hbA hS (lw_in (j := 1) hn hL ex3 rfl (by decide)) dCL_law_130 ?_
  refine lcall_i (wd := mW ad2 cA2) (b := ad2 0) (As := [.int (xs (x3 + (1 : Int32)).toNatClampNeg)]) (rest := [.int v]) ⟨hx, hb, hml, hown, hts⟩ hKm hPm (hDm _) hPx (hapx _) hS hAm (ci := 5) (q0 := 0) rfl rfl (kCM_cls l dC dI ad2 cA2 τ (xs (x3 + (1 : Int32)).toNatClampNeg) (v, τ') e2) (cwV 1 hts (gw mw_491 mw_492 mw_493 mw_363 mw_494) rfl rfl rfl hdCM_cls ⟨Nat.le_of_ble_eq_true rfl, Nat.le_of_ble_eq_true rfl⟩) rfl hl.1 rfl (Nat.le_of_ble_eq_true rfl) dCL_law_131 ⟨Nat.le_refl _, Nat.le_refl _⟩ (fun H locs hPm hPx hS => ?_)
  refine lv_icmp_eq (tgt := 725) hx hb dCL_law_134 (by decide) (fun _ => ?_) (fun c9 => absurd rfl c9)
  exact kk H locs ⟨hPx, hPm, hS⟩
set_option maxHeartbeats 4000000 in
set_option maxRecDepth 100000 in
theorem lw_c1 {p : Program} {l : Launch} {e : Env} {s : State} {m : MethodId} {below : List Frame} {meth : Method} {c : Code} {dC : Nat → ClassId} {dI : Nat → Nat → Nat} {ad ad2 : Nat → Nat} {cA cA2 : Nat → ClassId} {b L : Nat} {xs : Nat → Int32} (hL : L ≤ 5120) (C0 : lw_At p s m meth c b L xs) (F : lwF dC dI ad cA ad2 cA2 s) {σ τ σ' τ' : xSt} {v : Int32} {H : Heap} {locs : List Loc} (I : lwI dC dI ad cA ad2 cA2 s σ τ H locs) {x3 : Int32} {n : Nat} (hn : n + 10 ≤ L) (ex3 : x3 = nI n) {ls : Array Slot} (hl : lv_has ls 4 [(3, .int x3), (2, .ref (ad2 0)), (1, .ref (ad 0)), (0, .ref b)])
    (e1 : fC0_face σ = some (v, σ')) (e2 : fCM_face τ = some (v, τ'))
    (kk : ∀ (H : Heap) (locs : List Loc), lwI dC dI ad cA ad2 cA2 s σ' τ' H locs → W p l e room_1 s m #[Value.ref b] below meth c H locs 600000 7302250 (lw_Z below #[Value.ref b] s) (F0 m 725 ls [])) : W p l e room_1 s m #[Value.ref b] below meth c H locs 600000 7302250 (lw_Z below #[Value.ref b] s) (F0 m 139 ls []) := by
  obtain ⟨hx, hb, hr, hml, hown, hts0, hX, hbl, hlocks, hgv⟩ := id C0
  obtain ⟨hKx, hKm, hDx, hDm, hAx, hAm, hapm, hapx⟩ := id F
  obtain ⟨hPx, hPm, hS⟩ := I
  have hts : ∀ w ∈ wAll, w.before #[Value.ref b] s = true := fun w h => hts0 w (List.mem_filter.mp h).1
  have hbA : ¬ (fun q : Nat => s.heap.size ≤ q) b := Nat.not_le.mpr hbl
  refine lv_aload_n hx hb dCL_law_139 rfl (lv_at hl 2 rfl) ?_
  refine lcall_i (wd := xW ad cA) (b := ad 0) (As := []) (rest := []) ⟨hx, hb, hml, hown, hts⟩ hKx hPx (hDx _) hPm (hapm _) hS hAx (ci := 0) (q0 := 0) rfl rfl (kC0_face l dC dI ad cA σ (v, σ') e1) (cwV 0 hts (gw mw_495 mw_496 mw_497 mw_168 mw_498) rfl rfl rfl hdC0_face ⟨Nat.le_of_ble_eq_true rfl, Nat.le_of_ble_eq_true rfl⟩) rfl hl.1 rfl (Nat.le_of_ble_eq_true rfl) dCL_law_140 ⟨Nat.le_refl _, Nat.le_refl _⟩ (fun H locs hPx hPm hS => ?_)
  refine lv_aload_n hx hb dCL_law_143 rfl (lv_at hl 1 rfl) ?_
  refine lcall_i (wd := mW ad2 cA2) (b := ad2 0) (As := []) (rest := [.int v]) ⟨hx, hb, hml, hown, hts⟩ hKm hPm (hDm _) hPx (hapx _) hS hAm (ci := 5) (q0 := 0) rfl rfl (kCM_face l dC dI ad2 cA2 τ (v, τ') e2) (cwV 0 hts (gw mw_499 mw_500 mw_501 mw_363 mw_502) rfl rfl rfl hdCM_face ⟨Nat.le_of_ble_eq_true rfl, Nat.le_of_ble_eq_true rfl⟩) rfl hl.1 rfl (Nat.le_of_ble_eq_true rfl) dCL_law_144 ⟨Nat.le_refl _, Nat.le_refl _⟩ (fun H locs hPm hPx hS => ?_)
  refine lv_icmp_eq (tgt := 725) hx hb dCL_law_147 (by decide) (fun _ => ?_) (fun c9 => absurd rfl c9)
  exact kk H locs ⟨hPx, hPm, hS⟩
set_option maxHeartbeats 4000000 in
set_option maxRecDepth 100000 in
theorem lw_c2 {p : Program} {l : Launch} {e : Env} {s : State} {m : MethodId} {below : List Frame} {meth : Method} {c : Code} {dC : Nat → ClassId} {dI : Nat → Nat → Nat} {ad ad2 : Nat → Nat} {cA cA2 : Nat → ClassId} {b L : Nat} {xs : Nat → Int32} (hL : L ≤ 5120) (C0 : lw_At p s m meth c b L xs) (F : lwF dC dI ad cA ad2 cA2 s) {σ τ σ' τ' : xSt} {v : Int32} {H : Heap} {locs : List Loc} (I : lwI dC dI ad cA ad2 cA2 s σ τ H locs) {x3 : Int32} {n : Nat} (hn : n + 10 ≤ L) (ex3 : x3 = nI n) {ls : Array Slot} (hl : lv_has ls 4 [(3, .int x3), (2, .ref (ad2 0)), (1, .ref (ad 0)), (0, .ref b)])
    (e1 : fC0_below σ (xs (x3 + (1 : Int32)).toNatClampNeg) (xs (x3 + (2 : Int32)).toNatClampNeg) = some (v, σ')) (e2 : fCM_below τ (xs (x3 + (1 : Int32)).toNatClampNeg) (xs (x3 + (2 : Int32)).toNatClampNeg) = some (v, τ'))
    (kk : ∀ (H : Heap) (locs : List Loc), lwI dC dI ad cA ad2 cA2 s σ' τ' H locs → W p l e room_1 s m #[Value.ref b] below meth c H locs 600000 7302250 (lw_Z below #[Value.ref b] s) (F0 m 725 ls [])) : W p l e room_1 s m #[Value.ref b] below meth c H locs 600000 7302250 (lw_Z below #[Value.ref b] s) (F0 m 152 ls []) := by
  obtain ⟨hx, hb, hr, hml, hown, hts0, hX, hbl, hlocks, hgv⟩ := id C0
  obtain ⟨hKx, hKm, hDx, hDm, hAx, hAm, hapm, hapx⟩ := id F
  obtain ⟨hPx, hPm, hS⟩ := I
  have hts : ∀ w ∈ wAll, w.before #[Value.ref b] s = true := fun w h => hts0 w (List.mem_filter.mp h).1
  have hbA : ¬ (fun q : Nat => s.heap.size ≤ q) b := Nat.not_le.mpr hbl
  refine lv_aload_n hx hb dCL_law_152 rfl (lv_at hl 2 rfl) ?_
  refine lv_aload_n hx hb dCL_law_153 rfl (lv_at hl 3 rfl) ?_
  refine lv_iload_n hx hb dCL_law_154 rfl (lv_at hl 0 rfl) ?_
  refine lv_iconst (v := (1 : Int32)) hx hb dCL_law_155 (by decide) ?_
  refine lv_iadd hx hb dCL_law_156 ?_
  refine va_sld hx hb hX hbl hbA hS (lw_in (j := 1) hn hL ex3 rfl (by decide)) dCL_law_157 ?_
  refine lv_aload_n hx hb dCL_law_158 rfl (lv_at hl 3 rfl) ?_
  refine lv_iload_n hx hb dCL_law_159 rfl (lv_at hl 0 rfl) ?_
  refine lv_iconst (v := (2 : Int32)) hx hb dCL_law_160 (by decide) ?_
  refine lv_iadd hx hb dCL_law_161 ?_
  refine va_sld hx hb hX hbl hbA hS (lw_in (j := 2) hn hL ex3 rfl (by decide)) dCL_law_162 ?_
  refine lcall_i (wd := xW ad cA) (b := ad 0) (As := [.int (xs (x3 + (1 : Int32)).toNatClampNeg), .int (xs (x3 + (2 : Int32)).toNatClampNeg)]) (rest := []) ⟨hx, hb, hml, hown, hts⟩ hKx hPx (hDx _) hPm (hapm _) hS hAx (ci := 0) (q0 := 0) rfl rfl (kC0_below l dC dI ad cA σ (xs (x3 + (1 : Int32)).toNatClampNeg) (xs (x3 + (2 : Int32)).toNatClampNeg) (v, σ') e1) (cwV 2 hts (gw mw_503 mw_504 mw_505 mw_168 mw_506) rfl rfl rfl hdC0_below ⟨Nat.le_of_ble_eq_true rfl, Nat.le_of_ble_eq_true rfl⟩) rfl hl.1 rfl (Nat.le_of_ble_eq_true rfl) dCL_law_163 ⟨Nat.le_refl _, Nat.le_refl _⟩ (fun H locs hPx hPm hS => ?_)
  refine lv_aload_n hx hb dCL_law_166 rfl (lv_at hl 1 rfl) ?_
  refine lv_aload_n hx hb dCL_law_167 rfl (lv_at hl 3 rfl) ?_
  refine lv_iload_n hx hb dCL_law_168 rfl (lv_at hl 0 rfl) ?_
  refine lv_iconst (v := (1 : Int32)) hx hb dCL_law_169 (by decide) ?_
  refine lv_iadd hx hb dCL_law_170 ?_
  refine va_sld hx hb hX hbl hbA hS (lw_in (j := 1) hn hL ex3 rfl (by decide)) dCL_law_171 ?_
  refine lv_aload_n hx hb dCL_law_172 rfl (lv_at hl 3 rfl) ?_
  refine lv_iload_n hx hb dCL_law_173 rfl (lv_at hl 0 rfl) ?_
  refine lv_iconst (v := (2 : Int32)) hx hb dCL_law_174 (by decide) ?_
  refine lv_iadd hx hb dCL_law_175 ?_
  refine va_sld hx hb hX hbl hbA hS (lw_in (j := 2) hn hL ex3 rfl (by decide)) dCL_law_176 ?_
  refine lcall_i (wd := mW ad2 cA2) (b := ad2 0) (As := [.int (xs (x3 + (1 : Int32)).toNatClampNeg), .int (xs (x3 + (2 : Int32)).toNatClampNeg)]) (rest := [.int v]) ⟨hx, hb, hml, hown, hts⟩ hKm hPm (hDm _) hPx (hapx _) hS hAm (ci := 5) (q0 := 0) rfl rfl (kCM_below l dC dI ad2 cA2 τ (xs (x3 + (1 : Int32)).toNatClampNeg) (xs (x3 + (2 : Int32)).toNatClampNeg) (v, τ') e2) (cwV 2 hts (gw mw_507 mw_508 mw_509 mw_363 mw_510) rfl rfl rfl hdCM_below ⟨Nat.le_of_ble_eq_true rfl, Nat.le_of_ble_eq_true rfl⟩) rfl hl.1 rfl (Nat.le_of_ble_eq_true rfl) dCL_law_177 ⟨Nat.le_refl _, Nat.le_refl _⟩ (fun H locs hPm hPx hS => ?_)
  refine lv_icmp_eq (tgt := 725) hx hb dCL_law_180 (by decide) (fun _ => ?_) (fun c9 => absurd rfl c9)
  exact kk H locs ⟨hPx, hPm, hS⟩
set_option maxHeartbeats 4000000 in
set_option maxRecDepth 100000 in
theorem lw_c3 {p : Program} {l : Launch} {e : Env} {s : State} {m : MethodId} {below : List Frame} {meth : Method} {c : Code} {dC : Nat → ClassId} {dI : Nat → Nat → Nat} {ad ad2 : Nat → Nat} {cA cA2 : Nat → ClassId} {b L : Nat} {xs : Nat → Int32} (hL : L ≤ 5120) (C0 : lw_At p s m meth c b L xs) (F : lwF dC dI ad cA ad2 cA2 s) {σ τ σ' τ' : xSt} {v : Int32} {H : Heap} {locs : List Loc} (I : lwI dC dI ad cA ad2 cA2 s σ τ H locs) {x3 : Int32} {n : Nat} (hn : n + 10 ≤ L) (ex3 : x3 = nI n) {ls : Array Slot} (hl : lv_has ls 4 [(3, .int x3), (2, .ref (ad2 0)), (1, .ref (ad 0)), (0, .ref b)])
    (e1 : fC0_member σ (xs (x3 + (1 : Int32)).toNatClampNeg) (xs (x3 + (2 : Int32)).toNatClampNeg) (xs (x3 + (3 : Int32)).toNatClampNeg) (xs (x3 + (4 : Int32)).toNatClampNeg) (xs (x3 + (5 : Int32)).toNatClampNeg) (xs (x3 + (6 : Int32)).toNatClampNeg) (xs (x3 + (7 : Int32)).toNatClampNeg) (xs (x3 + (8 : Int32)).toNatClampNeg) (xs (x3 + (9 : Int32)).toNatClampNeg) = some (v, σ')) (e2 : fCM_member τ (xs (x3 + (1 : Int32)).toNatClampNeg) (xs (x3 + (2 : Int32)).toNatClampNeg) (xs (x3 + (3 : Int32)).toNatClampNeg) (xs (x3 + (4 : Int32)).toNatClampNeg) (xs (x3 + (5 : Int32)).toNatClampNeg) (xs (x3 + (6 : Int32)).toNatClampNeg) (xs (x3 + (7 : Int32)).toNatClampNeg) (xs (x3 + (8 : Int32)).toNatClampNeg) (xs (x3 + (9 : Int32)).toNatClampNeg) = some (v, τ'))
    (kk : ∀ (H : Heap) (locs : List Loc), lwI dC dI ad cA ad2 cA2 s σ' τ' H locs → W p l e room_1 s m #[Value.ref b] below meth c H locs 600000 7302250 (lw_Z below #[Value.ref b] s) (F0 m 725 ls [])) : W p l e room_1 s m #[Value.ref b] below meth c H locs 600000 7302250 (lw_Z below #[Value.ref b] s) (F0 m 185 ls []) := by
  obtain ⟨hx, hb, hr, hml, hown, hts0, hX, hbl, hlocks, hgv⟩ := id C0
  obtain ⟨hKx, hKm, hDx, hDm, hAx, hAm, hapm, hapx⟩ := id F
  obtain ⟨hPx, hPm, hS⟩ := I
  have hts : ∀ w ∈ wAll, w.before #[Value.ref b] s = true := fun w h => hts0 w (List.mem_filter.mp h).1
  have hbA : ¬ (fun q : Nat => s.heap.size ≤ q) b := Nat.not_le.mpr hbl
  refine lv_aload_n hx hb dCL_law_185 rfl (lv_at hl 2 rfl) ?_
  refine lv_aload_n hx hb dCL_law_186 rfl (lv_at hl 3 rfl) ?_
  refine lv_iload_n hx hb dCL_law_187 rfl (lv_at hl 0 rfl) ?_
  refine lv_iconst (v := (1 : Int32)) hx hb dCL_law_188 (by decide) ?_
  refine lv_iadd hx hb dCL_law_189 ?_
  refine va_sld hx hb hX hbl hbA hS (lw_in (j := 1) hn hL ex3 rfl (by decide)) dCL_law_190 ?_
  refine lv_aload_n hx hb dCL_law_191 rfl (lv_at hl 3 rfl) ?_
  refine lv_iload_n hx hb dCL_law_192 rfl (lv_at hl 0 rfl) ?_
  refine lv_iconst (v := (2 : Int32)) hx hb dCL_law_193 (by decide) ?_
  refine lv_iadd hx hb dCL_law_194 ?_
  refine va_sld hx hb hX hbl hbA hS (lw_in (j := 2) hn hL ex3 rfl (by decide)) dCL_law_195 ?_
  refine lv_aload_n hx hb dCL_law_196 rfl (lv_at hl 3 rfl) ?_
  refine lv_iload_n hx hb dCL_law_197 rfl (lv_at hl 0 rfl) ?_
  refine lv_iconst (v := (3 : Int32)) hx hb dCL_law_198 (by decide) ?_
  refine lv_iadd hx hb dCL_law_199 ?_
  refine va_sld hx hb hX hbl hbA hS (lw_in (j := 3) hn hL ex3 rfl (by decide)) dCL_law_200 ?_
  refine lv_aload_n hx hb dCL_law_201 rfl (lv_at hl 3 rfl) ?_
  refine lv_iload_n hx hb dCL_law_202 rfl (lv_at hl 0 rfl) ?_
  refine lv_iconst (v := (4 : Int32)) hx hb dCL_law_203 (by decide) ?_
  refine lv_iadd hx hb dCL_law_204 ?_
  refine va_sld hx hb hX hbl hbA hS (lw_in (j := 4) hn hL ex3 rfl (by decide)) dCL_law_205 ?_
  refine lv_aload_n hx hb dCL_law_206 rfl (lv_at hl 3 rfl) ?_
  refine lv_iload_n hx hb dCL_law_207 rfl (lv_at hl 0 rfl) ?_
  refine lv_iconst (v := (5 : Int32)) hx hb dCL_law_208 (by decide) ?_
  refine lv_iadd hx hb dCL_law_209 ?_
  refine va_sld hx hb hX hbl hbA hS (lw_in (j := 5) hn hL ex3 rfl (by decide)) dCL_law_210 ?_
  refine lv_aload_n hx hb dCL_law_211 rfl (lv_at hl 3 rfl) ?_
  refine lv_iload_n hx hb dCL_law_212 rfl (lv_at hl 0 rfl) ?_
  refine lv_bipush (v := (6 : Int32)) hx hb dCL_law_213 (by decide) ?_
  refine lv_iadd hx hb dCL_law_215 ?_
  refine va_sld hx hb hX hbl hbA hS (lw_in (j := 6) hn hL ex3 rfl (by decide)) dCL_law_216 ?_
  refine lv_aload_n hx hb dCL_law_217 rfl (lv_at hl 3 rfl) ?_
  refine lv_iload_n hx hb dCL_law_218 rfl (lv_at hl 0 rfl) ?_
  refine lv_bipush (v := (7 : Int32)) hx hb dCL_law_219 (by decide) ?_
  refine lv_iadd hx hb dCL_law_221 ?_
  refine va_sld hx hb hX hbl hbA hS (lw_in (j := 7) hn hL ex3 rfl (by decide)) dCL_law_222 ?_
  refine lv_aload_n hx hb dCL_law_223 rfl (lv_at hl 3 rfl) ?_
  refine lv_iload_n hx hb dCL_law_224 rfl (lv_at hl 0 rfl) ?_
  refine lv_bipush (v := (8 : Int32)) hx hb dCL_law_225 (by decide) ?_
  refine lv_iadd hx hb dCL_law_227 ?_
  refine va_sld hx hb hX hbl hbA hS (lw_in (j := 8) hn hL ex3 rfl (by decide)) dCL_law_228 ?_
  refine lv_aload_n hx hb dCL_law_229 rfl (lv_at hl 3 rfl) ?_
  refine lv_iload_n hx hb dCL_law_230 rfl (lv_at hl 0 rfl) ?_
  refine lv_bipush (v := (9 : Int32)) hx hb dCL_law_231 (by decide) ?_
  refine lv_iadd hx hb dCL_law_233 ?_
  refine va_sld hx hb hX hbl hbA hS (lw_in (j := 9) hn hL ex3 rfl (by decide)) dCL_law_234 ?_
  refine lcall_i (wd := xW ad cA) (b := ad 0) (As := [.int (xs (x3 + (1 : Int32)).toNatClampNeg), .int (xs (x3 + (2 : Int32)).toNatClampNeg), .int (xs (x3 + (3 : Int32)).toNatClampNeg), .int (xs (x3 + (4 : Int32)).toNatClampNeg), .int (xs (x3 + (5 : Int32)).toNatClampNeg), .int (xs (x3 + (6 : Int32)).toNatClampNeg), .int (xs (x3 + (7 : Int32)).toNatClampNeg), .int (xs (x3 + (8 : Int32)).toNatClampNeg), .int (xs (x3 + (9 : Int32)).toNatClampNeg)]) (rest := []) ⟨hx, hb, hml, hown, hts⟩ hKx hPx (hDx _) hPm (hapm _) hS hAx (ci := 0) (q0 := 0) rfl rfl (kC0_member l dC dI ad cA σ (xs (x3 + (1 : Int32)).toNatClampNeg) (xs (x3 + (2 : Int32)).toNatClampNeg) (xs (x3 + (3 : Int32)).toNatClampNeg) (xs (x3 + (4 : Int32)).toNatClampNeg) (xs (x3 + (5 : Int32)).toNatClampNeg) (xs (x3 + (6 : Int32)).toNatClampNeg) (xs (x3 + (7 : Int32)).toNatClampNeg) (xs (x3 + (8 : Int32)).toNatClampNeg) (xs (x3 + (9 : Int32)).toNatClampNeg) (v, σ') e1) (cwV 9 hts (gw mw_511 mw_512 mw_513 mw_168 mw_514) rfl rfl rfl hdC0_member ⟨Nat.le_of_ble_eq_true rfl, Nat.le_of_ble_eq_true rfl⟩) rfl hl.1 rfl (Nat.le_of_ble_eq_true rfl) dCL_law_235 ⟨Nat.le_refl _, Nat.le_refl _⟩ (fun H locs hPx hPm hS => ?_)
  refine lv_aload_n hx hb dCL_law_238 rfl (lv_at hl 1 rfl) ?_
  refine lv_aload_n hx hb dCL_law_239 rfl (lv_at hl 3 rfl) ?_
  refine lv_iload_n hx hb dCL_law_240 rfl (lv_at hl 0 rfl) ?_
  refine lv_iconst (v := (1 : Int32)) hx hb dCL_law_241 (by decide) ?_
  refine lv_iadd hx hb dCL_law_242 ?_
  refine va_sld hx hb hX hbl hbA hS (lw_in (j := 1) hn hL ex3 rfl (by decide)) dCL_law_243 ?_
  refine lv_aload_n hx hb dCL_law_244 rfl (lv_at hl 3 rfl) ?_
  refine lv_iload_n hx hb dCL_law_245 rfl (lv_at hl 0 rfl) ?_
  refine lv_iconst (v := (2 : Int32)) hx hb dCL_law_246 (by decide) ?_
  refine lv_iadd hx hb dCL_law_247 ?_
  refine va_sld hx hb hX hbl hbA hS (lw_in (j := 2) hn hL ex3 rfl (by decide)) dCL_law_248 ?_
  refine lv_aload_n hx hb dCL_law_249 rfl (lv_at hl 3 rfl) ?_
  refine lv_iload_n hx hb dCL_law_250 rfl (lv_at hl 0 rfl) ?_
  refine lv_iconst (v := (3 : Int32)) hx hb dCL_law_251 (by decide) ?_
  refine lv_iadd hx hb dCL_law_252 ?_
  refine va_sld hx hb hX hbl hbA hS (lw_in (j := 3) hn hL ex3 rfl (by decide)) dCL_law_253 ?_
  refine lv_aload_n hx hb dCL_law_254 rfl (lv_at hl 3 rfl) ?_
  refine lv_iload_n hx hb dCL_law_255 rfl (lv_at hl 0 rfl) ?_
  refine lv_iconst (v := (4 : Int32)) hx hb dCL_law_256 (by decide) ?_
  refine lv_iadd hx hb dCL_law_257 ?_
  refine va_sld hx hb hX hbl hbA hS (lw_in (j := 4) hn hL ex3 rfl (by decide)) dCL_law_258 ?_
  refine lv_aload_n hx hb dCL_law_259 rfl (lv_at hl 3 rfl) ?_
  refine lv_iload_n hx hb dCL_law_260 rfl (lv_at hl 0 rfl) ?_
  refine lv_iconst (v := (5 : Int32)) hx hb dCL_law_261 (by decide) ?_
  refine lv_iadd hx hb dCL_law_262 ?_
  refine va_sld hx hb hX hbl hbA hS (lw_in (j := 5) hn hL ex3 rfl (by decide)) dCL_law_263 ?_
  refine lv_aload_n hx hb dCL_law_264 rfl (lv_at hl 3 rfl) ?_
  refine lv_iload_n hx hb dCL_law_265 rfl (lv_at hl 0 rfl) ?_
  refine lv_bipush (v := (6 : Int32)) hx hb dCL_law_266 (by decide) ?_
  refine lv_iadd hx hb dCL_law_268 ?_
  refine va_sld hx hb hX hbl hbA hS (lw_in (j := 6) hn hL ex3 rfl (by decide)) dCL_law_269 ?_
  refine lv_aload_n hx hb dCL_law_270 rfl (lv_at hl 3 rfl) ?_
  refine lv_iload_n hx hb dCL_law_271 rfl (lv_at hl 0 rfl) ?_
  refine lv_bipush (v := (7 : Int32)) hx hb dCL_law_272 (by decide) ?_
  refine lv_iadd hx hb dCL_law_274 ?_
  refine va_sld hx hb hX hbl hbA hS (lw_in (j := 7) hn hL ex3 rfl (by decide)) dCL_law_275 ?_
  refine lv_aload_n hx hb dCL_law_276 rfl (lv_at hl 3 rfl) ?_
  refine lv_iload_n hx hb dCL_law_277 rfl (lv_at hl 0 rfl) ?_
  refine lv_bipush (v := (8 : Int32)) hx hb dCL_law_278 (by decide) ?_
  refine lv_iadd hx hb dCL_law_280 ?_
  refine va_sld hx hb hX hbl hbA hS (lw_in (j := 8) hn hL ex3 rfl (by decide)) dCL_law_281 ?_
  refine lv_aload_n hx hb dCL_law_282 rfl (lv_at hl 3 rfl) ?_
  refine lv_iload_n hx hb dCL_law_283 rfl (lv_at hl 0 rfl) ?_
  refine lv_bipush (v := (9 : Int32)) hx hb dCL_law_284 (by decide) ?_
  refine lv_iadd hx hb dCL_law_286 ?_
  refine va_sld hx hb hX hbl hbA hS (lw_in (j := 9) hn hL ex3 rfl (by decide)) dCL_law_287 ?_
  refine lcall_i (wd := mW ad2 cA2) (b := ad2 0) (As := [.int (xs (x3 + (1 : Int32)).toNatClampNeg), .int (xs (x3 + (2 : Int32)).toNatClampNeg), .int (xs (x3 + (3 : Int32)).toNatClampNeg), .int (xs (x3 + (4 : Int32)).toNatClampNeg), .int (xs (x3 + (5 : Int32)).toNatClampNeg), .int (xs (x3 + (6 : Int32)).toNatClampNeg), .int (xs (x3 + (7 : Int32)).toNatClampNeg), .int (xs (x3 + (8 : Int32)).toNatClampNeg), .int (xs (x3 + (9 : Int32)).toNatClampNeg)]) (rest := [.int v]) ⟨hx, hb, hml, hown, hts⟩ hKm hPm (hDm _) hPx (hapx _) hS hAm (ci := 5) (q0 := 0) rfl rfl (kCM_member l dC dI ad2 cA2 τ (xs (x3 + (1 : Int32)).toNatClampNeg) (xs (x3 + (2 : Int32)).toNatClampNeg) (xs (x3 + (3 : Int32)).toNatClampNeg) (xs (x3 + (4 : Int32)).toNatClampNeg) (xs (x3 + (5 : Int32)).toNatClampNeg) (xs (x3 + (6 : Int32)).toNatClampNeg) (xs (x3 + (7 : Int32)).toNatClampNeg) (xs (x3 + (8 : Int32)).toNatClampNeg) (xs (x3 + (9 : Int32)).toNatClampNeg) (v, τ') e2) (cwV 9 hts (gw mw_515 mw_516 mw_517 mw_363 mw_518) rfl rfl rfl hdCM_member ⟨Nat.le_of_ble_eq_true rfl, Nat.le_of_ble_eq_true rfl⟩) rfl hl.1 rfl (Nat.le_of_ble_eq_true rfl) dCL_law_288 ⟨Nat.le_refl _, Nat.le_refl _⟩ (fun H locs hPm hPx hS => ?_)
  refine lv_icmp_eq (tgt := 725) hx hb dCL_law_291 (by decide) (fun _ => ?_) (fun c9 => absurd rfl c9)
  exact kk H locs ⟨hPx, hPm, hS⟩
set_option maxHeartbeats 4000000 in
set_option maxRecDepth 100000 in
theorem lw_c4 {p : Program} {l : Launch} {e : Env} {s : State} {m : MethodId} {below : List Frame} {meth : Method} {c : Code} {dC : Nat → ClassId} {dI : Nat → Nat → Nat} {ad ad2 : Nat → Nat} {cA cA2 : Nat → ClassId} {b L : Nat} {xs : Nat → Int32} (hL : L ≤ 5120) (C0 : lw_At p s m meth c b L xs) (F : lwF dC dI ad cA ad2 cA2 s) {σ τ : xSt} {v : Int32} {H : Heap} {locs : List Loc} (I : lwI dC dI ad cA ad2 cA2 s σ τ H locs) {x3 : Int32} {n : Nat} (hn : n + 10 ≤ L) (ex3 : x3 = nI n) {ls : Array Slot} (hl : lv_has ls 4 [(3, .int x3), (2, .ref (ad2 0)), (1, .ref (ad 0)), (0, .ref b)])
    (e1 : fC0_is σ (xs (x3 + (1 : Int32)).toNatClampNeg) (xs (x3 + (2 : Int32)).toNatClampNeg) = some v) (e2 : fCM_is τ (xs (x3 + (1 : Int32)).toNatClampNeg) (xs (x3 + (2 : Int32)).toNatClampNeg) = some v)
    (kk : ∀ (H : Heap) (locs : List Loc), lwI dC dI ad cA ad2 cA2 s σ τ H locs → W p l e room_1 s m #[Value.ref b] below meth c H locs 600000 7302250 (lw_Z below #[Value.ref b] s) (F0 m 725 ls [])) : W p l e room_1 s m #[Value.ref b] below meth c H locs 600000 7302250 (lw_Z below #[Value.ref b] s) (F0 m 296 ls []) := by
  obtain ⟨hx, hb, hr, hml, hown, hts0, hX, hbl, hlocks, hgv⟩ := id C0
  obtain ⟨hKx, hKm, hDx, hDm, hAx, hAm, hapm, hapx⟩ := id F
  obtain ⟨hPx, hPm, hS⟩ := I
  have hts : ∀ w ∈ wAll, w.before #[Value.ref b] s = true := fun w h => hts0 w (List.mem_filter.mp h).1
  have hbA : ¬ (fun q : Nat => s.heap.size ≤ q) b := Nat.not_le.mpr hbl
  refine lv_aload_n hx hb dCL_law_296 rfl (lv_at hl 2 rfl) ?_
  refine lv_aload_n hx hb dCL_law_297 rfl (lv_at hl 3 rfl) ?_
  refine lv_iload_n hx hb dCL_law_298 rfl (lv_at hl 0 rfl) ?_
  refine lv_iconst (v := (1 : Int32)) hx hb dCL_law_299 (by decide) ?_
  refine lv_iadd hx hb dCL_law_300 ?_
  refine va_sld hx hb hX hbl hbA hS (lw_in (j := 1) hn hL ex3 rfl (by decide)) dCL_law_301 ?_
  refine lv_aload_n hx hb dCL_law_302 rfl (lv_at hl 3 rfl) ?_
  refine lv_iload_n hx hb dCL_law_303 rfl (lv_at hl 0 rfl) ?_
  refine lv_iconst (v := (2 : Int32)) hx hb dCL_law_304 (by decide) ?_
  refine lv_iadd hx hb dCL_law_305 ?_
  refine va_sld hx hb hX hbl hbA hS (lw_in (j := 2) hn hL ex3 rfl (by decide)) dCL_law_306 ?_
  refine gcall_r (wd := xW ad cA σ) (b := ad 0) (As := [.int (xs (x3 + (1 : Int32)).toNatClampNeg), .int (xs (x3 + (2 : Int32)).toNatClampNeg)]) (rest := []) ⟨hx, hb, hml, hown, hts⟩ hKx hPx (ci := 0) (q0 := 0) rfl rfl (kC0_is l dC dI ad cA σ (xs (x3 + (1 : Int32)).toNatClampNeg) (xs (x3 + (2 : Int32)).toNatClampNeg) v e1) (cwV 2 hts (gw mw_519 mw_520 mw_521 mw_168 mw_522) rfl rfl rfl hdC0_is ⟨Nat.le_of_ble_eq_true rfl, Nat.le_of_ble_eq_true rfl⟩) rfl hl.1 rfl (Nat.le_of_ble_eq_true rfl) dCL_law_307 ⟨Nat.le_refl _, Nat.le_refl _⟩ ?_
  refine lv_aload_n hx hb dCL_law_310 rfl (lv_at hl 1 rfl) ?_
  refine lv_aload_n hx hb dCL_law_311 rfl (lv_at hl 3 rfl) ?_
  refine lv_iload_n hx hb dCL_law_312 rfl (lv_at hl 0 rfl) ?_
  refine lv_iconst (v := (1 : Int32)) hx hb dCL_law_313 (by decide) ?_
  refine lv_iadd hx hb dCL_law_314 ?_
  refine va_sld hx hb hX hbl hbA hS (lw_in (j := 1) hn hL ex3 rfl (by decide)) dCL_law_315 ?_
  refine lv_aload_n hx hb dCL_law_316 rfl (lv_at hl 3 rfl) ?_
  refine lv_iload_n hx hb dCL_law_317 rfl (lv_at hl 0 rfl) ?_
  refine lv_iconst (v := (2 : Int32)) hx hb dCL_law_318 (by decide) ?_
  refine lv_iadd hx hb dCL_law_319 ?_
  refine va_sld hx hb hX hbl hbA hS (lw_in (j := 2) hn hL ex3 rfl (by decide)) dCL_law_320 ?_
  refine gcall_r (wd := mW ad2 cA2 τ) (b := ad2 0) (As := [.int (xs (x3 + (1 : Int32)).toNatClampNeg), .int (xs (x3 + (2 : Int32)).toNatClampNeg)]) (rest := [.int v]) ⟨hx, hb, hml, hown, hts⟩ hKm hPm (ci := 5) (q0 := 0) rfl rfl (kCM_is l dC dI ad2 cA2 τ (xs (x3 + (1 : Int32)).toNatClampNeg) (xs (x3 + (2 : Int32)).toNatClampNeg) v e2) (cwV 2 hts (gw mw_523 mw_524 mw_525 mw_363 mw_526) rfl rfl rfl hdCM_is ⟨Nat.le_of_ble_eq_true rfl, Nat.le_of_ble_eq_true rfl⟩) rfl hl.1 rfl (Nat.le_of_ble_eq_true rfl) dCL_law_321 ⟨Nat.le_refl _, Nat.le_refl _⟩ ?_
  refine lv_icmp_eq (tgt := 725) hx hb dCL_law_324 (by decide) (fun _ => ?_) (fun c9 => absurd rfl c9)
  exact kk H locs ⟨hPx, hPm, hS⟩
set_option maxHeartbeats 4000000 in
set_option maxRecDepth 100000 in
theorem lw_c5 {p : Program} {l : Launch} {e : Env} {s : State} {m : MethodId} {below : List Frame} {meth : Method} {c : Code} {dC : Nat → ClassId} {dI : Nat → Nat → Nat} {ad ad2 : Nat → Nat} {cA cA2 : Nat → ClassId} {b L : Nat} {xs : Nat → Int32} (hL : L ≤ 5120) (C0 : lw_At p s m meth c b L xs) (F : lwF dC dI ad cA ad2 cA2 s) {σ τ : xSt} {v : Int32} {H : Heap} {locs : List Loc} (I : lwI dC dI ad cA ad2 cA2 s σ τ H locs) {x3 : Int32} {n : Nat} (hn : n + 10 ≤ L) (ex3 : x3 = nI n) {ls : Array Slot} (hl : lv_has ls 4 [(3, .int x3), (2, .ref (ad2 0)), (1, .ref (ad 0)), (0, .ref b)])
    (e1 : fC0_fits σ (xs (x3 + (1 : Int32)).toNatClampNeg) (xs (x3 + (2 : Int32)).toNatClampNeg) = some v) (e2 : fCM_fits τ (xs (x3 + (1 : Int32)).toNatClampNeg) (xs (x3 + (2 : Int32)).toNatClampNeg) = some v)
    (kk : ∀ (H : Heap) (locs : List Loc), lwI dC dI ad cA ad2 cA2 s σ τ H locs → W p l e room_1 s m #[Value.ref b] below meth c H locs 600000 7302250 (lw_Z below #[Value.ref b] s) (F0 m 725 ls [])) : W p l e room_1 s m #[Value.ref b] below meth c H locs 600000 7302250 (lw_Z below #[Value.ref b] s) (F0 m 329 ls []) := by
  obtain ⟨hx, hb, hr, hml, hown, hts0, hX, hbl, hlocks, hgv⟩ := id C0
  obtain ⟨hKx, hKm, hDx, hDm, hAx, hAm, hapm, hapx⟩ := id F
  obtain ⟨hPx, hPm, hS⟩ := I
  have hts : ∀ w ∈ wAll, w.before #[Value.ref b] s = true := fun w h => hts0 w (List.mem_filter.mp h).1
  have hbA : ¬ (fun q : Nat => s.heap.size ≤ q) b := Nat.not_le.mpr hbl
  refine lv_aload_n hx hb dCL_law_329 rfl (lv_at hl 2 rfl) ?_
  refine lv_aload_n hx hb dCL_law_330 rfl (lv_at hl 3 rfl) ?_
  refine lv_iload_n hx hb dCL_law_331 rfl (lv_at hl 0 rfl) ?_
  refine lv_iconst (v := (1 : Int32)) hx hb dCL_law_332 (by decide) ?_
  refine lv_iadd hx hb dCL_law_333 ?_
  refine va_sld hx hb hX hbl hbA hS (lw_in (j := 1) hn hL ex3 rfl (by decide)) dCL_law_334 ?_
  refine lv_aload_n hx hb dCL_law_335 rfl (lv_at hl 3 rfl) ?_
  refine lv_iload_n hx hb dCL_law_336 rfl (lv_at hl 0 rfl) ?_
  refine lv_iconst (v := (2 : Int32)) hx hb dCL_law_337 (by decide) ?_
  refine lv_iadd hx hb dCL_law_338 ?_
  refine va_sld hx hb hX hbl hbA hS (lw_in (j := 2) hn hL ex3 rfl (by decide)) dCL_law_339 ?_
  refine gcall_r (wd := xW ad cA σ) (b := ad 0) (As := [.int (xs (x3 + (1 : Int32)).toNatClampNeg), .int (xs (x3 + (2 : Int32)).toNatClampNeg)]) (rest := []) ⟨hx, hb, hml, hown, hts⟩ hKx hPx (ci := 0) (q0 := 0) rfl rfl (kC0_fits l dC dI ad cA σ (xs (x3 + (1 : Int32)).toNatClampNeg) (xs (x3 + (2 : Int32)).toNatClampNeg) v e1) (cwV 2 hts (gw mw_527 mw_528 mw_529 mw_168 mw_530) rfl rfl rfl hdC0_fits ⟨Nat.le_of_ble_eq_true rfl, Nat.le_of_ble_eq_true rfl⟩) rfl hl.1 rfl (Nat.le_of_ble_eq_true rfl) dCL_law_340 ⟨Nat.le_refl _, Nat.le_refl _⟩ ?_
  refine lv_aload_n hx hb dCL_law_343 rfl (lv_at hl 1 rfl) ?_
  refine lv_aload_n hx hb dCL_law_344 rfl (lv_at hl 3 rfl) ?_
  refine lv_iload_n hx hb dCL_law_345 rfl (lv_at hl 0 rfl) ?_
  refine lv_iconst (v := (1 : Int32)) hx hb dCL_law_346 (by decide) ?_
  refine lv_iadd hx hb dCL_law_347 ?_
  refine va_sld hx hb hX hbl hbA hS (lw_in (j := 1) hn hL ex3 rfl (by decide)) dCL_law_348 ?_
  refine lv_aload_n hx hb dCL_law_349 rfl (lv_at hl 3 rfl) ?_
  refine lv_iload_n hx hb dCL_law_350 rfl (lv_at hl 0 rfl) ?_
  refine lv_iconst (v := (2 : Int32)) hx hb dCL_law_351 (by decide) ?_
  refine lv_iadd hx hb dCL_law_352 ?_
  refine va_sld hx hb hX hbl hbA hS (lw_in (j := 2) hn hL ex3 rfl (by decide)) dCL_law_353 ?_
  refine gcall_r (wd := mW ad2 cA2 τ) (b := ad2 0) (As := [.int (xs (x3 + (1 : Int32)).toNatClampNeg), .int (xs (x3 + (2 : Int32)).toNatClampNeg)]) (rest := [.int v]) ⟨hx, hb, hml, hown, hts⟩ hKm hPm (ci := 5) (q0 := 0) rfl rfl (kCM_fits l dC dI ad2 cA2 τ (xs (x3 + (1 : Int32)).toNatClampNeg) (xs (x3 + (2 : Int32)).toNatClampNeg) v e2) (cwV 2 hts (gw mw_531 mw_532 mw_533 mw_363 mw_534) rfl rfl rfl hdCM_fits ⟨Nat.le_of_ble_eq_true rfl, Nat.le_of_ble_eq_true rfl⟩) rfl hl.1 rfl (Nat.le_of_ble_eq_true rfl) dCL_law_354 ⟨Nat.le_refl _, Nat.le_refl _⟩ ?_
  refine lv_icmp_eq (tgt := 725) hx hb dCL_law_357 (by decide) (fun _ => ?_) (fun c9 => absurd rfl c9)
  exact kk H locs ⟨hPx, hPm, hS⟩
set_option maxHeartbeats 4000000 in
set_option maxRecDepth 100000 in
theorem lw_c6 {p : Program} {l : Launch} {e : Env} {s : State} {m : MethodId} {below : List Frame} {meth : Method} {c : Code} {dC : Nat → ClassId} {dI : Nat → Nat → Nat} {ad ad2 : Nat → Nat} {cA cA2 : Nat → ClassId} {b L : Nat} {xs : Nat → Int32} (hL : L ≤ 5120) (C0 : lw_At p s m meth c b L xs) (F : lwF dC dI ad cA ad2 cA2 s) {σ τ σ' τ' : xSt} {v : Int32} {H : Heap} {locs : List Loc} (I : lwI dC dI ad cA ad2 cA2 s σ τ H locs) {x3 : Int32} {n : Nat} (hn : n + 10 ≤ L) (ex3 : x3 = nI n) {ls : Array Slot} (hl : lv_has ls 4 [(3, .int x3), (2, .ref (ad2 0)), (1, .ref (ad 0)), (0, .ref b)])
    (e1 : fC0_function σ (xs (x3 + (1 : Int32)).toNatClampNeg) = some (v, σ')) (e2 : fCM_function τ (xs (x3 + (1 : Int32)).toNatClampNeg) = some (v, τ'))
    (kk : ∀ (H : Heap) (locs : List Loc), lwI dC dI ad cA ad2 cA2 s σ' τ' H locs → W p l e room_1 s m #[Value.ref b] below meth c H locs 600000 7302250 (lw_Z below #[Value.ref b] s) (F0 m 725 ls [])) : W p l e room_1 s m #[Value.ref b] below meth c H locs 600000 7302250 (lw_Z below #[Value.ref b] s) (F0 m 362 ls []) := by
  obtain ⟨hx, hb, hr, hml, hown, hts0, hX, hbl, hlocks, hgv⟩ := id C0
  obtain ⟨hKx, hKm, hDx, hDm, hAx, hAm, hapm, hapx⟩ := id F
  obtain ⟨hPx, hPm, hS⟩ := I
  have hts : ∀ w ∈ wAll, w.before #[Value.ref b] s = true := fun w h => hts0 w (List.mem_filter.mp h).1
  have hbA : ¬ (fun q : Nat => s.heap.size ≤ q) b := Nat.not_le.mpr hbl
  refine lv_aload_n hx hb dCL_law_362 rfl (lv_at hl 2 rfl) ?_
  refine lv_aload_n hx hb dCL_law_363 rfl (lv_at hl 3 rfl) ?_
  refine lv_iload_n hx hb dCL_law_364 rfl (lv_at hl 0 rfl) ?_
  refine lv_iconst (v := (1 : Int32)) hx hb dCL_law_365 (by decide) ?_
  refine lv_iadd hx hb dCL_law_366 ?_
  refine va_sld hx hb hX hbl hbA hS (lw_in (j := 1) hn hL ex3 rfl (by decide)) dCL_law_367 ?_
  refine lcall_i (wd := xW ad cA) (b := ad 0) (As := [.int (xs (x3 + (1 : Int32)).toNatClampNeg)]) (rest := []) ⟨hx, hb, hml, hown, hts⟩ hKx hPx (hDx _) hPm (hapm _) hS hAx (ci := 0) (q0 := 0) rfl rfl (kC0_function l dC dI ad cA σ (xs (x3 + (1 : Int32)).toNatClampNeg) (v, σ') e1) (cwV 1 hts (gw mw_535 mw_536 mw_537 mw_168 mw_538) rfl rfl rfl hdC0_function ⟨Nat.le_of_ble_eq_true rfl, Nat.le_of_ble_eq_true rfl⟩) rfl hl.1 rfl (Nat.le_of_ble_eq_true rfl) dCL_law_368 ⟨Nat.le_refl _, Nat.le_refl _⟩ (fun H locs hPx hPm hS => ?_)
  refine lv_aload_n hx hb dCL_law_371 rfl (lv_at hl 1 rfl) ?_
  refine lv_aload_n hx hb dCL_law_372 rfl (lv_at hl 3 rfl) ?_
  refine lv_iload_n hx hb dCL_law_373 rfl (lv_at hl 0 rfl) ?_
  refine lv_iconst (v := (1 : Int32)) hx hb dCL_law_374 (by decide) ?_
  refine lv_iadd hx hb dCL_law_375 ?_
  refine va_sld hx hb hX hbl hbA hS (lw_in (j := 1) hn hL ex3 rfl (by decide)) dCL_law_376 ?_
  refine lcall_i (wd := mW ad2 cA2) (b := ad2 0) (As := [.int (xs (x3 + (1 : Int32)).toNatClampNeg)]) (rest := [.int v]) ⟨hx, hb, hml, hown, hts⟩ hKm hPm (hDm _) hPx (hapx _) hS hAm (ci := 5) (q0 := 0) rfl rfl (kCM_function l dC dI ad2 cA2 τ (xs (x3 + (1 : Int32)).toNatClampNeg) (v, τ') e2) (cwV 1 hts (gw mw_539 mw_540 mw_541 mw_363 mw_542) rfl rfl rfl hdCM_function ⟨Nat.le_of_ble_eq_true rfl, Nat.le_of_ble_eq_true rfl⟩) rfl hl.1 rfl (Nat.le_of_ble_eq_true rfl) dCL_law_377 ⟨Nat.le_refl _, Nat.le_refl _⟩ (fun H locs hPm hPx hS => ?_)
  refine lv_icmp_eq (tgt := 725) hx hb dCL_law_380 (by decide) (fun _ => ?_) (fun c9 => absurd rfl c9)
  exact kk H locs ⟨hPx, hPm, hS⟩
set_option maxHeartbeats 4000000 in
set_option maxRecDepth 100000 in
theorem lw_c7 {p : Program} {l : Launch} {e : Env} {s : State} {m : MethodId} {below : List Frame} {meth : Method} {c : Code} {dC : Nat → ClassId} {dI : Nat → Nat → Nat} {ad ad2 : Nat → Nat} {cA cA2 : Nat → ClassId} {b L : Nat} {xs : Nat → Int32} (hL : L ≤ 5120) (C0 : lw_At p s m meth c b L xs) (F : lwF dC dI ad cA ad2 cA2 s) {σ τ σ' : xSt} {v : Int32} {H : Heap} {locs : List Loc} (I : lwI dC dI ad cA ad2 cA2 s σ τ H locs) {x3 : Int32} {n : Nat} (hn : n + 10 ≤ L) (ex3 : x3 = nI n) {ls : Array Slot} (hl : lv_has ls 4 [(3, .int x3), (2, .ref (ad2 0)), (1, .ref (ad 0)), (0, .ref b)])
    (e1 : fC0_seen σ (xs (x3 + (1 : Int32)).toNatClampNeg) (xs (x3 + (2 : Int32)).toNatClampNeg) (xs (x3 + (3 : Int32)).toNatClampNeg) = some (v, σ')) (e2 : fCM_seen τ (xs (x3 + (1 : Int32)).toNatClampNeg) (xs (x3 + (2 : Int32)).toNatClampNeg) (xs (x3 + (3 : Int32)).toNatClampNeg) = some v)
    (kk : ∀ (H : Heap) (locs : List Loc), lwI dC dI ad cA ad2 cA2 s σ' τ H locs → W p l e room_1 s m #[Value.ref b] below meth c H locs 600000 7302250 (lw_Z below #[Value.ref b] s) (F0 m 725 ls [])) : W p l e room_1 s m #[Value.ref b] below meth c H locs 600000 7302250 (lw_Z below #[Value.ref b] s) (F0 m 385 ls []) := by
  obtain ⟨hx, hb, hr, hml, hown, hts0, hX, hbl, hlocks, hgv⟩ := id C0
  obtain ⟨hKx, hKm, hDx, hDm, hAx, hAm, hapm, hapx⟩ := id F
  obtain ⟨hPx, hPm, hS⟩ := I
  have hts : ∀ w ∈ wAll, w.before #[Value.ref b] s = true := fun w h => hts0 w (List.mem_filter.mp h).1
  have hbA : ¬ (fun q : Nat => s.heap.size ≤ q) b := Nat.not_le.mpr hbl
  refine lv_aload_n hx hb dCL_law_385 rfl (lv_at hl 2 rfl) ?_
  refine lv_aload_n hx hb dCL_law_386 rfl (lv_at hl 3 rfl) ?_
  refine lv_iload_n hx hb dCL_law_387 rfl (lv_at hl 0 rfl) ?_
  refine lv_iconst (v := (1 : Int32)) hx hb dCL_law_388 (by decide) ?_
  refine lv_iadd hx hb dCL_law_389 ?_
  refine va_sld hx hb hX hbl hbA hS (lw_in (j := 1) hn hL ex3 rfl (by decide)) dCL_law_390 ?_
  refine lv_aload_n hx hb dCL_law_391 rfl (lv_at hl 3 rfl) ?_
  refine lv_iload_n hx hb dCL_law_392 rfl (lv_at hl 0 rfl) ?_
  refine lv_iconst (v := (2 : Int32)) hx hb dCL_law_393 (by decide) ?_
  refine lv_iadd hx hb dCL_law_394 ?_
  refine va_sld hx hb hX hbl hbA hS (lw_in (j := 2) hn hL ex3 rfl (by decide)) dCL_law_395 ?_
  refine lv_aload_n hx hb dCL_law_396 rfl (lv_at hl 3 rfl) ?_
  refine lv_iload_n hx hb dCL_law_397 rfl (lv_at hl 0 rfl) ?_
  refine lv_iconst (v := (3 : Int32)) hx hb dCL_law_398 (by decide) ?_
  refine lv_iadd hx hb dCL_law_399 ?_
  refine va_sld hx hb hX hbl hbA hS (lw_in (j := 3) hn hL ex3 rfl (by decide)) dCL_law_400 ?_
  refine lcall_i (wd := xW ad cA) (b := ad 0) (As := [.int (xs (x3 + (1 : Int32)).toNatClampNeg), .int (xs (x3 + (2 : Int32)).toNatClampNeg), .int (xs (x3 + (3 : Int32)).toNatClampNeg)]) (rest := []) ⟨hx, hb, hml, hown, hts⟩ hKx hPx (hDx _) hPm (hapm _) hS hAx (ci := 0) (q0 := 0) rfl rfl (kC0_seen l dC dI ad cA σ (xs (x3 + (1 : Int32)).toNatClampNeg) (xs (x3 + (2 : Int32)).toNatClampNeg) (xs (x3 + (3 : Int32)).toNatClampNeg) (v, σ') e1) (cwV 3 hts (gw mw_543 mw_544 mw_545 mw_168 mw_546) rfl rfl rfl hdC0_seen ⟨Nat.le_of_ble_eq_true rfl, Nat.le_of_ble_eq_true rfl⟩) rfl hl.1 rfl (Nat.le_of_ble_eq_true rfl) dCL_law_401 ⟨Nat.le_refl _, Nat.le_refl _⟩ (fun H locs hPx hPm hS => ?_)
  refine lv_aload_n hx hb dCL_law_404 rfl (lv_at hl 1 rfl) ?_
  refine lv_aload_n hx hb dCL_law_405 rfl (lv_at hl 3 rfl) ?_
  refine lv_iload_n hx hb dCL_law_406 rfl (lv_at hl 0 rfl) ?_
  refine lv_iconst (v := (1 : Int32)) hx hb dCL_law_407 (by decide) ?_
  refine lv_iadd hx hb dCL_law_408 ?_
  refine va_sld hx hb hX hbl hbA hS (lw_in (j := 1) hn hL ex3 rfl (by decide)) dCL_law_409 ?_
  refine lv_aload_n hx hb dCL_law_410 rfl (lv_at hl 3 rfl) ?_
  refine lv_iload_n hx hb dCL_law_411 rfl (lv_at hl 0 rfl) ?_
  refine lv_iconst (v := (2 : Int32)) hx hb dCL_law_412 (by decide) ?_
  refine lv_iadd hx hb dCL_law_413 ?_
  refine va_sld hx hb hX hbl hbA hS (lw_in (j := 2) hn hL ex3 rfl (by decide)) dCL_law_414 ?_
  refine lv_aload_n hx hb dCL_law_415 rfl (lv_at hl 3 rfl) ?_
  refine lv_iload_n hx hb dCL_law_416 rfl (lv_at hl 0 rfl) ?_
  refine lv_iconst (v := (3 : Int32)) hx hb dCL_law_417 (by decide) ?_
  refine lv_iadd hx hb dCL_law_418 ?_
  refine va_sld hx hb hX hbl hbA hS (lw_in (j := 3) hn hL ex3 rfl (by decide)) dCL_law_419 ?_
  refine gcall_r (wd := mW ad2 cA2 τ) (b := ad2 0) (As := [.int (xs (x3 + (1 : Int32)).toNatClampNeg), .int (xs (x3 + (2 : Int32)).toNatClampNeg), .int (xs (x3 + (3 : Int32)).toNatClampNeg)]) (rest := [.int v]) ⟨hx, hb, hml, hown, hts⟩ hKm hPm (ci := 5) (q0 := 0) rfl rfl (kCM_seen l dC dI ad2 cA2 τ (xs (x3 + (1 : Int32)).toNatClampNeg) (xs (x3 + (2 : Int32)).toNatClampNeg) (xs (x3 + (3 : Int32)).toNatClampNeg) v e2) (cwV 3 hts (gw mw_547 mw_548 mw_549 mw_363 mw_550) rfl rfl rfl hdCM_seen ⟨Nat.le_of_ble_eq_true rfl, Nat.le_of_ble_eq_true rfl⟩) rfl hl.1 rfl (Nat.le_of_ble_eq_true rfl) dCL_law_420 ⟨Nat.le_refl _, Nat.le_refl _⟩ ?_
  refine lv_icmp_eq (tgt := 725) hx hb dCL_law_423 (by decide) (fun _ => ?_) (fun c9 => absurd rfl c9)
  exact kk H locs ⟨hPx, hPm, hS⟩
set_option maxHeartbeats 4000000 in
set_option maxRecDepth 100000 in
theorem lw_c8 {p : Program} {l : Launch} {e : Env} {s : State} {m : MethodId} {below : List Frame} {meth : Method} {c : Code} {dC : Nat → ClassId} {dI : Nat → Nat → Nat} {ad ad2 : Nat → Nat} {cA cA2 : Nat → ClassId} {b L : Nat} {xs : Nat → Int32} (hL : L ≤ 5120) (C0 : lw_At p s m meth c b L xs) (F : lwF dC dI ad cA ad2 cA2 s) {σ τ σ' : xSt} {v : Int32} {H : Heap} {locs : List Loc} (I : lwI dC dI ad cA ad2 cA2 s σ τ H locs) {x3 : Int32} {n : Nat} (hn : n + 10 ≤ L) (ex3 : x3 = nI n) {ls : Array Slot} (hl : lv_has ls 4 [(3, .int x3), (2, .ref (ad2 0)), (1, .ref (ad 0)), (0, .ref b)])
    (e1 : fC0_seenAt σ (xs (x3 + (1 : Int32)).toNatClampNeg) (xs (x3 + (2 : Int32)).toNatClampNeg) (xs (x3 + (3 : Int32)).toNatClampNeg) (xs (x3 + (4 : Int32)).toNatClampNeg) = some (v, σ')) (e2 : fCM_seenAt τ (xs (x3 + (1 : Int32)).toNatClampNeg) (xs (x3 + (2 : Int32)).toNatClampNeg) (xs (x3 + (3 : Int32)).toNatClampNeg) (xs (x3 + (4 : Int32)).toNatClampNeg) = some v)
    (kk : ∀ (H : Heap) (locs : List Loc), lwI dC dI ad cA ad2 cA2 s σ' τ H locs → W p l e room_1 s m #[Value.ref b] below meth c H locs 600000 7302250 (lw_Z below #[Value.ref b] s) (F0 m 725 ls [])) : W p l e room_1 s m #[Value.ref b] below meth c H locs 600000 7302250 (lw_Z below #[Value.ref b] s) (F0 m 428 ls []) := by
  obtain ⟨hx, hb, hr, hml, hown, hts0, hX, hbl, hlocks, hgv⟩ := id C0
  obtain ⟨hKx, hKm, hDx, hDm, hAx, hAm, hapm, hapx⟩ := id F
  obtain ⟨hPx, hPm, hS⟩ := I
  have hts : ∀ w ∈ wAll, w.before #[Value.ref b] s = true := fun w h => hts0 w (List.mem_filter.mp h).1
  have hbA : ¬ (fun q : Nat => s.heap.size ≤ q) b := Nat.not_le.mpr hbl
  refine lv_aload_n hx hb dCL_law_428 rfl (lv_at hl 2 rfl) ?_
  refine lv_aload_n hx hb dCL_law_429 rfl (lv_at hl 3 rfl) ?_
  refine lv_iload_n hx hb dCL_law_430 rfl (lv_at hl 0 rfl) ?_
  refine lv_iconst (v := (1 : Int32)) hx hb dCL_law_431 (by decide) ?_
  refine lv_iadd hx hb dCL_law_432 ?_
  refine va_sld hx hb hX hbl hbA hS (lw_in (j := 1) hn hL ex3 rfl (by decide)) dCL_law_433 ?_
  refine lv_aload_n hx hb dCL_law_434 rfl (lv_at hl 3 rfl) ?_
  refine lv_iload_n hx hb dCL_law_435 rfl (lv_at hl 0 rfl) ?_
  refine lv_iconst (v := (2 : Int32)) hx hb dCL_law_436 (by decide) ?_
  refine lv_iadd hx hb dCL_law_437 ?_
  refine va_sld hx hb hX hbl hbA hS (lw_in (j := 2) hn hL ex3 rfl (by decide)) dCL_law_438 ?_
  refine lv_aload_n hx hb dCL_law_439 rfl (lv_at hl 3 rfl) ?_
  refine lv_iload_n hx hb dCL_law_440 rfl (lv_at hl 0 rfl) ?_
  refine lv_iconst (v := (3 : Int32)) hx hb dCL_law_441 (by decide) ?_
  refine lv_iadd hx hb dCL_law_442 ?_
  refine va_sld hx hb hX hbl hbA hS (lw_in (j := 3) hn hL ex3 rfl (by decide)) dCL_law_443 ?_
  refine lv_aload_n hx hb dCL_law_444 rfl (lv_at hl 3 rfl) ?_
  refine lv_iload_n hx hb dCL_law_445 rfl (lv_at hl 0 rfl) ?_
  refine lv_iconst (v := (4 : Int32)) hx hb dCL_law_446 (by decide) ?_
  refine lv_iadd hx hb dCL_law_447 ?_
  refine va_sld hx hb hX hbl hbA hS (lw_in (j := 4) hn hL ex3 rfl (by decide)) dCL_law_448 ?_
  refine lcall_i (wd := xW ad cA) (b := ad 0) (As := [.int (xs (x3 + (1 : Int32)).toNatClampNeg), .int (xs (x3 + (2 : Int32)).toNatClampNeg), .int (xs (x3 + (3 : Int32)).toNatClampNeg), .int (xs (x3 + (4 : Int32)).toNatClampNeg)]) (rest := []) ⟨hx, hb, hml, hown, hts⟩ hKx hPx (hDx _) hPm (hapm _) hS hAx (ci := 0) (q0 := 0) rfl rfl (kC0_seenAt l dC dI ad cA σ (xs (x3 + (1 : Int32)).toNatClampNeg) (xs (x3 + (2 : Int32)).toNatClampNeg) (xs (x3 + (3 : Int32)).toNatClampNeg) (xs (x3 + (4 : Int32)).toNatClampNeg) (v, σ') e1) (cwV 4 hts (gw mw_551 mw_552 mw_553 mw_168 mw_554) rfl rfl rfl hdC0_seenAt ⟨Nat.le_of_ble_eq_true rfl, Nat.le_of_ble_eq_true rfl⟩) rfl hl.1 rfl (Nat.le_of_ble_eq_true rfl) dCL_law_449 ⟨Nat.le_refl _, Nat.le_refl _⟩ (fun H locs hPx hPm hS => ?_)
  refine lv_aload_n hx hb dCL_law_452 rfl (lv_at hl 1 rfl) ?_
  refine lv_aload_n hx hb dCL_law_453 rfl (lv_at hl 3 rfl) ?_
  refine lv_iload_n hx hb dCL_law_454 rfl (lv_at hl 0 rfl) ?_
  refine lv_iconst (v := (1 : Int32)) hx hb dCL_law_455 (by decide) ?_
  refine lv_iadd hx hb dCL_law_456 ?_
  refine va_sld hx hb hX hbl hbA hS (lw_in (j := 1) hn hL ex3 rfl (by decide)) dCL_law_457 ?_
  refine lv_aload_n hx hb dCL_law_458 rfl (lv_at hl 3 rfl) ?_
  refine lv_iload_n hx hb dCL_law_459 rfl (lv_at hl 0 rfl) ?_
  refine lv_iconst (v := (2 : Int32)) hx hb dCL_law_460 (by decide) ?_
  refine lv_iadd hx hb dCL_law_461 ?_
  refine va_sld hx hb hX hbl hbA hS (lw_in (j := 2) hn hL ex3 rfl (by decide)) dCL_law_462 ?_
  refine lv_aload_n hx hb dCL_law_463 rfl (lv_at hl 3 rfl) ?_
  refine lv_iload_n hx hb dCL_law_464 rfl (lv_at hl 0 rfl) ?_
  refine lv_iconst (v := (3 : Int32)) hx hb dCL_law_465 (by decide) ?_
  refine lv_iadd hx hb dCL_law_466 ?_
  refine va_sld hx hb hX hbl hbA hS (lw_in (j := 3) hn hL ex3 rfl (by decide)) dCL_law_467 ?_
  refine lv_aload_n hx hb dCL_law_468 rfl (lv_at hl 3 rfl) ?_
  refine lv_iload_n hx hb dCL_law_469 rfl (lv_at hl 0 rfl) ?_
  refine lv_iconst (v := (4 : Int32)) hx hb dCL_law_470 (by decide) ?_
  refine lv_iadd hx hb dCL_law_471 ?_
  refine va_sld hx hb hX hbl hbA hS (lw_in (j := 4) hn hL ex3 rfl (by decide)) dCL_law_472 ?_
  refine gcall_r (wd := mW ad2 cA2 τ) (b := ad2 0) (As := [.int (xs (x3 + (1 : Int32)).toNatClampNeg), .int (xs (x3 + (2 : Int32)).toNatClampNeg), .int (xs (x3 + (3 : Int32)).toNatClampNeg), .int (xs (x3 + (4 : Int32)).toNatClampNeg)]) (rest := [.int v]) ⟨hx, hb, hml, hown, hts⟩ hKm hPm (ci := 5) (q0 := 0) rfl rfl (kCM_seenAt l dC dI ad2 cA2 τ (xs (x3 + (1 : Int32)).toNatClampNeg) (xs (x3 + (2 : Int32)).toNatClampNeg) (xs (x3 + (3 : Int32)).toNatClampNeg) (xs (x3 + (4 : Int32)).toNatClampNeg) v e2) (cwV 4 hts (gw mw_555 mw_556 mw_557 mw_363 mw_558) rfl rfl rfl hdCM_seenAt ⟨Nat.le_of_ble_eq_true rfl, Nat.le_of_ble_eq_true rfl⟩) rfl hl.1 rfl (Nat.le_of_ble_eq_true rfl) dCL_law_473 ⟨Nat.le_refl _, Nat.le_refl _⟩ ?_
  refine lv_icmp_eq (tgt := 725) hx hb dCL_law_476 (by decide) (fun _ => ?_) (fun c9 => absurd rfl c9)
  exact kk H locs ⟨hPx, hPm, hS⟩
set_option maxHeartbeats 4000000 in
set_option maxRecDepth 100000 in
theorem lw_c9 {p : Program} {l : Launch} {e : Env} {s : State} {m : MethodId} {below : List Frame} {meth : Method} {c : Code} {dC : Nat → ClassId} {dI : Nat → Nat → Nat} {ad ad2 : Nat → Nat} {cA cA2 : Nat → ClassId} {b L : Nat} {xs : Nat → Int32} (hL : L ≤ 5120) (C0 : lw_At p s m meth c b L xs) (F : lwF dC dI ad cA ad2 cA2 s) {σ τ σ' τ' : xSt} {v : Int32} {H : Heap} {locs : List Loc} (I : lwI dC dI ad cA ad2 cA2 s σ τ H locs) {x3 : Int32} {n : Nat} (hn : n + 10 ≤ L) (ex3 : x3 = nI n) {ls : Array Slot} (hl : lv_has ls 4 [(3, .int x3), (2, .ref (ad2 0)), (1, .ref (ad 0)), (0, .ref b)])
    (e1 : fC0_argument σ (xs (x3 + (1 : Int32)).toNatClampNeg) = some (v, σ')) (e2 : fCM_argument τ (xs (x3 + (1 : Int32)).toNatClampNeg) = some (v, τ'))
    (kk : ∀ (H : Heap) (locs : List Loc), lwI dC dI ad cA ad2 cA2 s σ' τ' H locs → W p l e room_1 s m #[Value.ref b] below meth c H locs 600000 7302250 (lw_Z below #[Value.ref b] s) (F0 m 725 ls [])) : W p l e room_1 s m #[Value.ref b] below meth c H locs 600000 7302250 (lw_Z below #[Value.ref b] s) (F0 m 481 ls []) := by
  obtain ⟨hx, hb, hr, hml, hown, hts0, hX, hbl, hlocks, hgv⟩ := id C0
  obtain ⟨hKx, hKm, hDx, hDm, hAx, hAm, hapm, hapx⟩ := id F
  obtain ⟨hPx, hPm, hS⟩ := I
  have hts : ∀ w ∈ wAll, w.before #[Value.ref b] s = true := fun w h => hts0 w (List.mem_filter.mp h).1
  have hbA : ¬ (fun q : Nat => s.heap.size ≤ q) b := Nat.not_le.mpr hbl
  refine lv_aload_n hx hb dCL_law_481 rfl (lv_at hl 2 rfl) ?_
  refine lv_aload_n hx hb dCL_law_482 rfl (lv_at hl 3 rfl) ?_
  refine lv_iload_n hx hb dCL_law_483 rfl (lv_at hl 0 rfl) ?_
  refine lv_iconst (v := (1 : Int32)) hx hb dCL_law_484 (by decide) ?_
  refine lv_iadd hx hb dCL_law_485 ?_
  refine va_sld hx hb hX hbl hbA hS (lw_in (j := 1) hn hL ex3 rfl (by decide)) dCL_law_486 ?_
  refine lcall_i (wd := xW ad cA) (b := ad 0) (As := [.int (xs (x3 + (1 : Int32)).toNatClampNeg)]) (rest := []) ⟨hx, hb, hml, hown, hts⟩ hKx hPx (hDx _) hPm (hapm _) hS hAx (ci := 0) (q0 := 0) rfl rfl (kC0_argument l dC dI ad cA σ (xs (x3 + (1 : Int32)).toNatClampNeg) (v, σ') e1) (cwV 1 hts (gw mw_559 mw_560 mw_561 mw_168 mw_562) rfl rfl rfl hdC0_argument ⟨Nat.le_of_ble_eq_true rfl, Nat.le_of_ble_eq_true rfl⟩) rfl hl.1 rfl (Nat.le_of_ble_eq_true rfl) dCL_law_487 ⟨Nat.le_refl _, Nat.le_refl _⟩ (fun H locs hPx hPm hS => ?_)
  refine lv_aload_n hx hb dCL_law_490 rfl (lv_at hl 1 rfl) ?_
  refine lv_aload_n hx hb dCL_law_491 rfl (lv_at hl 3 rfl) ?_
  refine lv_iload_n hx hb dCL_law_492 rfl (lv_at hl 0 rfl) ?_
  refine lv_iconst (v := (1 : Int32)) hx hb dCL_law_493 (by decide) ?_
  refine lv_iadd hx hb dCL_law_494 ?_
  refine va_sld hx hb hX hbl hbA hS (lw_in (j := 1) hn hL ex3 rfl (by decide)) dCL_law_495 ?_
  refine lcall_i (wd := mW ad2 cA2) (b := ad2 0) (As := [.int (xs (x3 + (1 : Int32)).toNatClampNeg)]) (rest := [.int v]) ⟨hx, hb, hml, hown, hts⟩ hKm hPm (hDm _) hPx (hapx _) hS hAm (ci := 5) (q0 := 0) rfl rfl (kCM_argument l dC dI ad2 cA2 τ (xs (x3 + (1 : Int32)).toNatClampNeg) (v, τ') e2) (cwV 1 hts (gw mw_563 mw_564 mw_565 mw_363 mw_566) rfl rfl rfl hdCM_argument ⟨Nat.le_of_ble_eq_true rfl, Nat.le_of_ble_eq_true rfl⟩) rfl hl.1 rfl (Nat.le_of_ble_eq_true rfl) dCL_law_496 ⟨Nat.le_refl _, Nat.le_refl _⟩ (fun H locs hPm hPx hS => ?_)
  refine lv_icmp_eq (tgt := 725) hx hb dCL_law_499 (by decide) (fun _ => ?_) (fun c9 => absurd rfl c9)
  exact kk H locs ⟨hPx, hPm, hS⟩
set_option maxHeartbeats 4000000 in
set_option maxRecDepth 100000 in
theorem lw_c10 {p : Program} {l : Launch} {e : Env} {s : State} {m : MethodId} {below : List Frame} {meth : Method} {c : Code} {dC : Nat → ClassId} {dI : Nat → Nat → Nat} {ad ad2 : Nat → Nat} {cA cA2 : Nat → ClassId} {b L : Nat} {xs : Nat → Int32} (hL : L ≤ 5120) (C0 : lw_At p s m meth c b L xs) (F : lwF dC dI ad cA ad2 cA2 s) {σ τ σ' τ' : xSt} {v : Int32} {H : Heap} {locs : List Loc} (I : lwI dC dI ad cA ad2 cA2 s σ τ H locs) {x3 : Int32} {n : Nat} (hn : n + 10 ≤ L) (ex3 : x3 = nI n) {ls : Array Slot} (hl : lv_has ls 4 [(3, .int x3), (2, .ref (ad2 0)), (1, .ref (ad 0)), (0, .ref b)])
    (e1 : fC0_lambda σ (xs (x3 + (1 : Int32)).toNatClampNeg) (xs (x3 + (2 : Int32)).toNatClampNeg) (xs (x3 + (3 : Int32)).toNatClampNeg) (xs (x3 + (4 : Int32)).toNatClampNeg) (xs (x3 + (5 : Int32)).toNatClampNeg) = some (v, σ')) (e2 : fCM_lambda τ (xs (x3 + (1 : Int32)).toNatClampNeg) (xs (x3 + (2 : Int32)).toNatClampNeg) (xs (x3 + (3 : Int32)).toNatClampNeg) (xs (x3 + (4 : Int32)).toNatClampNeg) (xs (x3 + (5 : Int32)).toNatClampNeg) = some (v, τ'))
    (kk : ∀ (H : Heap) (locs : List Loc), lwI dC dI ad cA ad2 cA2 s σ' τ' H locs → W p l e room_1 s m #[Value.ref b] below meth c H locs 600000 7302250 (lw_Z below #[Value.ref b] s) (F0 m 725 ls [])) : W p l e room_1 s m #[Value.ref b] below meth c H locs 600000 7302250 (lw_Z below #[Value.ref b] s) (F0 m 504 ls []) := by
  obtain ⟨hx, hb, hr, hml, hown, hts0, hX, hbl, hlocks, hgv⟩ := id C0
  obtain ⟨hKx, hKm, hDx, hDm, hAx, hAm, hapm, hapx⟩ := id F
  obtain ⟨hPx, hPm, hS⟩ := I
  have hts : ∀ w ∈ wAll, w.before #[Value.ref b] s = true := fun w h => hts0 w (List.mem_filter.mp h).1
  have hbA : ¬ (fun q : Nat => s.heap.size ≤ q) b := Nat.not_le.mpr hbl
  refine lv_aload_n hx hb dCL_law_504 rfl (lv_at hl 2 rfl) ?_
  refine lv_aload_n hx hb dCL_law_505 rfl (lv_at hl 3 rfl) ?_
  refine lv_iload_n hx hb dCL_law_506 rfl (lv_at hl 0 rfl) ?_
  refine lv_iconst (v := (1 : Int32)) hx hb dCL_law_507 (by decide) ?_
  refine lv_iadd hx hb dCL_law_508 ?_
  refine va_sld hx hb hX hbl hbA hS (lw_in (j := 1) hn hL ex3 rfl (by decide)) dCL_law_509 ?_
  refine lv_aload_n hx hb dCL_law_510 rfl (lv_at hl 3 rfl) ?_
  refine lv_iload_n hx hb dCL_law_511 rfl (lv_at hl 0 rfl) ?_
  refine lv_iconst (v := (2 : Int32)) hx hb dCL_law_512 (by decide) ?_
  refine lv_iadd hx hb dCL_law_513 ?_
  refine va_sld hx hb hX hbl hbA hS (lw_in (j := 2) hn hL ex3 rfl (by decide)) dCL_law_514 ?_
  refine lv_aload_n hx hb dCL_law_515 rfl (lv_at hl 3 rfl) ?_
  refine lv_iload_n hx hb dCL_law_516 rfl (lv_at hl 0 rfl) ?_
  refine lv_iconst (v := (3 : Int32)) hx hb dCL_law_517 (by decide) ?_
  refine lv_iadd hx hb dCL_law_518 ?_
  refine va_sld hx hb hX hbl hbA hS (lw_in (j := 3) hn hL ex3 rfl (by decide)) dCL_law_519 ?_
  refine lv_aload_n hx hb dCL_law_520 rfl (lv_at hl 3 rfl) ?_
  refine lv_iload_n hx hb dCL_law_521 rfl (lv_at hl 0 rfl) ?_
  refine lv_iconst (v := (4 : Int32)) hx hb dCL_law_522 (by decide) ?_
  refine lv_iadd hx hb dCL_law_523 ?_
  refine va_sld hx hb hX hbl hbA hS (lw_in (j := 4) hn hL ex3 rfl (by decide)) dCL_law_524 ?_
  refine lv_aload_n hx hb dCL_law_525 rfl (lv_at hl 3 rfl) ?_
  refine lv_iload_n hx hb dCL_law_526 rfl (lv_at hl 0 rfl) ?_
  refine lv_iconst (v := (5 : Int32)) hx hb dCL_law_527 (by decide) ?_
  refine lv_iadd hx hb dCL_law_528 ?_
  refine va_sld hx hb hX hbl hbA hS (lw_in (j := 5) hn hL ex3 rfl (by decide)) dCL_law_529 ?_
  refine lcall_i (wd := xW ad cA) (b := ad 0) (As := [.int (xs (x3 + (1 : Int32)).toNatClampNeg), .int (xs (x3 + (2 : Int32)).toNatClampNeg), .int (xs (x3 + (3 : Int32)).toNatClampNeg), .int (xs (x3 + (4 : Int32)).toNatClampNeg), .int (xs (x3 + (5 : Int32)).toNatClampNeg)]) (rest := []) ⟨hx, hb, hml, hown, hts⟩ hKx hPx (hDx _) hPm (hapm _) hS hAx (ci := 0) (q0 := 0) rfl rfl (kC0_lambda l dC dI ad cA σ (xs (x3 + (1 : Int32)).toNatClampNeg) (xs (x3 + (2 : Int32)).toNatClampNeg) (xs (x3 + (3 : Int32)).toNatClampNeg) (xs (x3 + (4 : Int32)).toNatClampNeg) (xs (x3 + (5 : Int32)).toNatClampNeg) (v, σ') e1) (cwV 5 hts (gw mw_567 mw_568 mw_569 mw_168 mw_570) rfl rfl rfl hdC0_lambda ⟨Nat.le_of_ble_eq_true rfl, Nat.le_of_ble_eq_true rfl⟩) rfl hl.1 rfl (Nat.le_of_ble_eq_true rfl) dCL_law_530 ⟨Nat.le_refl _, Nat.le_refl _⟩ (fun H locs hPx hPm hS => ?_)
  refine lv_aload_n hx hb dCL_law_533 rfl (lv_at hl 1 rfl) ?_
  refine lv_aload_n hx hb dCL_law_534 rfl (lv_at hl 3 rfl) ?_
  refine lv_iload_n hx hb dCL_law_535 rfl (lv_at hl 0 rfl) ?_
  refine lv_iconst (v := (1 : Int32)) hx hb dCL_law_536 (by decide) ?_
  refine lv_iadd hx hb dCL_law_537 ?_
  refine va_sld hx hb hX hbl hbA hS (lw_in (j := 1) hn hL ex3 rfl (by decide)) dCL_law_538 ?_
  refine lv_aload_n hx hb dCL_law_539 rfl (lv_at hl 3 rfl) ?_
  refine lv_iload_n hx hb dCL_law_540 rfl (lv_at hl 0 rfl) ?_
  refine lv_iconst (v := (2 : Int32)) hx hb dCL_law_541 (by decide) ?_
  refine lv_iadd hx hb dCL_law_542 ?_
  refine va_sld hx hb hX hbl hbA hS (lw_in (j := 2) hn hL ex3 rfl (by decide)) dCL_law_543 ?_
  refine lv_aload_n hx hb dCL_law_544 rfl (lv_at hl 3 rfl) ?_
  refine lv_iload_n hx hb dCL_law_545 rfl (lv_at hl 0 rfl) ?_
  refine lv_iconst (v := (3 : Int32)) hx hb dCL_law_546 (by decide) ?_
  refine lv_iadd hx hb dCL_law_547 ?_
  refine va_sld hx hb hX hbl hbA hS (lw_in (j := 3) hn hL ex3 rfl (by decide)) dCL_law_548 ?_
  refine lv_aload_n hx hb dCL_law_549 rfl (lv_at hl 3 rfl) ?_
  refine lv_iload_n hx hb dCL_law_550 rfl (lv_at hl 0 rfl) ?_
  refine lv_iconst (v := (4 : Int32)) hx hb dCL_law_551 (by decide) ?_
  refine lv_iadd hx hb dCL_law_552 ?_
  refine va_sld hx hb hX hbl hbA hS (lw_in (j := 4) hn hL ex3 rfl (by decide)) dCL_law_553 ?_
  refine lv_aload_n hx hb dCL_law_554 rfl (lv_at hl 3 rfl) ?_
  refine lv_iload_n hx hb dCL_law_555 rfl (lv_at hl 0 rfl) ?_
  refine lv_iconst (v := (5 : Int32)) hx hb dCL_law_556 (by decide) ?_
  refine lv_iadd hx hb dCL_law_557 ?_
  refine va_sld hx hb hX hbl hbA hS (lw_in (j := 5) hn hL ex3 rfl (by decide)) dCL_law_558 ?_
  refine lcall_i (wd := mW ad2 cA2) (b := ad2 0) (As := [.int (xs (x3 + (1 : Int32)).toNatClampNeg), .int (xs (x3 + (2 : Int32)).toNatClampNeg), .int (xs (x3 + (3 : Int32)).toNatClampNeg), .int (xs (x3 + (4 : Int32)).toNatClampNeg), .int (xs (x3 + (5 : Int32)).toNatClampNeg)]) (rest := [.int v]) ⟨hx, hb, hml, hown, hts⟩ hKm hPm (hDm _) hPx (hapx _) hS hAm (ci := 5) (q0 := 0) rfl rfl (kCM_lambda l dC dI ad2 cA2 τ (xs (x3 + (1 : Int32)).toNatClampNeg) (xs (x3 + (2 : Int32)).toNatClampNeg) (xs (x3 + (3 : Int32)).toNatClampNeg) (xs (x3 + (4 : Int32)).toNatClampNeg) (xs (x3 + (5 : Int32)).toNatClampNeg) (v, τ') e2) (cwV 5 hts (gw mw_571 mw_572 mw_573 mw_363 mw_574) rfl rfl rfl hdCM_lambda ⟨Nat.le_of_ble_eq_true rfl, Nat.le_of_ble_eq_true rfl⟩) rfl hl.1 rfl (Nat.le_of_ble_eq_true rfl) dCL_law_559 ⟨Nat.le_refl _, Nat.le_refl _⟩ (fun H locs hPm hPx hS => ?_)
  refine lv_icmp_eq (tgt := 725) hx hb dCL_law_562 (by decide) (fun _ => ?_) (fun c9 => absurd rfl c9)
  exact kk H locs ⟨hPx, hPm, hS⟩
set_option maxHeartbeats 4000000 in
set_option maxRecDepth 100000 in
theorem lw_c11 {p : Program} {l : Launch} {e : Env} {s : State} {m : MethodId} {below : List Frame} {meth : Method} {c : Code} {dC : Nat → ClassId} {dI : Nat → Nat → Nat} {ad ad2 : Nat → Nat} {cA cA2 : Nat → ClassId} {b L : Nat} {xs : Nat → Int32} (hL : L ≤ 5120) (C0 : lw_At p s m meth c b L xs) (F : lwF dC dI ad cA ad2 cA2 s) {σ τ σ' τ' : xSt} {v : Int32} {H : Heap} {locs : List Loc} (I : lwI dC dI ad cA ad2 cA2 s σ τ H locs) {x3 : Int32} {n : Nat} (hn : n + 10 ≤ L) (ex3 : x3 = nI n) {ls : Array Slot} (hl : lv_has ls 4 [(3, .int x3), (2, .ref (ad2 0)), (1, .ref (ad 0)), (0, .ref b)])
    (e1 : fC0_wipe σ = some (v, σ')) (e2 : fCM_wipe τ = some (v, τ'))
    (kk : ∀ (H : Heap) (locs : List Loc), lwI dC dI ad cA ad2 cA2 s σ' τ' H locs → W p l e room_1 s m #[Value.ref b] below meth c H locs 600000 7302250 (lw_Z below #[Value.ref b] s) (F0 m 725 ls [])) : W p l e room_1 s m #[Value.ref b] below meth c H locs 600000 7302250 (lw_Z below #[Value.ref b] s) (F0 m 567 ls []) := by
  obtain ⟨hx, hb, hr, hml, hown, hts0, hX, hbl, hlocks, hgv⟩ := id C0
  obtain ⟨hKx, hKm, hDx, hDm, hAx, hAm, hapm, hapx⟩ := id F
  obtain ⟨hPx, hPm, hS⟩ := I
  have hts : ∀ w ∈ wAll, w.before #[Value.ref b] s = true := fun w h => hts0 w (List.mem_filter.mp h).1
  have hbA : ¬ (fun q : Nat => s.heap.size ≤ q) b := Nat.not_le.mpr hbl
  refine lv_aload_n hx hb dCL_law_567 rfl (lv_at hl 2 rfl) ?_
  refine lcall_i (wd := xW ad cA) (b := ad 0) (As := []) (rest := []) ⟨hx, hb, hml, hown, hts⟩ hKx hPx (hDx _) hPm (hapm _) hS hAx (ci := 0) (q0 := 0) rfl rfl (kC0_wipe l dC dI ad cA σ (v, σ') e1) (cwV 0 hts (gw mw_575 mw_576 mw_577 mw_168 mw_578) rfl rfl rfl hdC0_wipe ⟨Nat.le_of_ble_eq_true rfl, Nat.le_of_ble_eq_true rfl⟩) rfl hl.1 rfl (Nat.le_of_ble_eq_true rfl) dCL_law_568 ⟨Nat.le_refl _, Nat.le_refl _⟩ (fun H locs hPx hPm hS => ?_)
  refine lv_aload_n hx hb dCL_law_571 rfl (lv_at hl 1 rfl) ?_
  refine lcall_i (wd := mW ad2 cA2) (b := ad2 0) (As := []) (rest := [.int v]) ⟨hx, hb, hml, hown, hts⟩ hKm hPm (hDm _) hPx (hapx _) hS hAm (ci := 5) (q0 := 0) rfl rfl (kCM_wipe l dC dI ad2 cA2 τ (v, τ') e2) (cwV 0 hts (gw mw_579 mw_580 mw_581 mw_363 mw_582) rfl rfl rfl hdCM_wipe ⟨Nat.le_of_ble_eq_true rfl, Nat.le_of_ble_eq_true rfl⟩) rfl hl.1 rfl (Nat.le_of_ble_eq_true rfl) dCL_law_572 ⟨Nat.le_refl _, Nat.le_refl _⟩ (fun H locs hPm hPx hS => ?_)
  refine lv_icmp_eq (tgt := 725) hx hb dCL_law_575 (by decide) (fun _ => ?_) (fun c9 => absurd rfl c9)
  exact kk H locs ⟨hPx, hPm, hS⟩
set_option maxHeartbeats 4000000 in
set_option maxRecDepth 100000 in
theorem lw_c12 {p : Program} {l : Launch} {e : Env} {s : State} {m : MethodId} {below : List Frame} {meth : Method} {c : Code} {dC : Nat → ClassId} {dI : Nat → Nat → Nat} {ad ad2 : Nat → Nat} {cA cA2 : Nat → ClassId} {b L : Nat} {xs : Nat → Int32} (hL : L ≤ 5120) (C0 : lw_At p s m meth c b L xs) (F : lwF dC dI ad cA ad2 cA2 s) {σ τ σ' τ' : xSt} {v : Int32} {H : Heap} {locs : List Loc} (I : lwI dC dI ad cA ad2 cA2 s σ τ H locs) {x3 : Int32} {n : Nat} (hn : n + 10 ≤ L) (ex3 : x3 = nI n) {ls : Array Slot} (hl : lv_has ls 4 [(3, .int x3), (2, .ref (ad2 0)), (1, .ref (ad 0)), (0, .ref b)])
    (e1 : fC0_choose σ (xs (x3 + (1 : Int32)).toNatClampNeg) (xs (x3 + (2 : Int32)).toNatClampNeg) (xs (x3 + (3 : Int32)).toNatClampNeg) (xs (x3 + (4 : Int32)).toNatClampNeg) = some (v, σ')) (e2 : fCM_choose τ (xs (x3 + (1 : Int32)).toNatClampNeg) (xs (x3 + (2 : Int32)).toNatClampNeg) (xs (x3 + (3 : Int32)).toNatClampNeg) (xs (x3 + (4 : Int32)).toNatClampNeg) = some (v, τ'))
    (kk : ∀ (H : Heap) (locs : List Loc), lwI dC dI ad cA ad2 cA2 s σ' τ' H locs → W p l e room_1 s m #[Value.ref b] below meth c H locs 600000 7302250 (lw_Z below #[Value.ref b] s) (F0 m 725 ls [])) : W p l e room_1 s m #[Value.ref b] below meth c H locs 600000 7302250 (lw_Z below #[Value.ref b] s) (F0 m 580 ls []) := by
  obtain ⟨hx, hb, hr, hml, hown, hts0, hX, hbl, hlocks, hgv⟩ := id C0
  obtain ⟨hKx, hKm, hDx, hDm, hAx, hAm, hapm, hapx⟩ := id F
  obtain ⟨hPx, hPm, hS⟩ := I
  have hts : ∀ w ∈ wAll, w.before #[Value.ref b] s = true := fun w h => hts0 w (List.mem_filter.mp h).1
  have hbA : ¬ (fun q : Nat => s.heap.size ≤ q) b := Nat.not_le.mpr hbl
  refine lv_aload_n hx hb dCL_law_580 rfl (lv_at hl 2 rfl) ?_
  refine lv_aload_n hx hb dCL_law_581 rfl (lv_at hl 3 rfl) ?_
  refine lv_iload_n hx hb dCL_law_582 rfl (lv_at hl 0 rfl) ?_
  refine lv_iconst (v := (1 : Int32)) hx hb dCL_law_583 (by decide) ?_
  refine lv_iadd hx hb dCL_law_584 ?_
  refine va_sld hx hb hX hbl hbA hS (lw_in (j := 1) hn hL ex3 rfl (by decide)) dCL_law_585 ?_
  refine lv_aload_n hx hb dCL_law_586 rfl (lv_at hl 3 rfl) ?_
  refine lv_iload_n hx hb dCL_law_587 rfl (lv_at hl 0 rfl) ?_
  refine lv_iconst (v := (2 : Int32)) hx hb dCL_law_588 (by decide) ?_
  refine lv_iadd hx hb dCL_law_589 ?_
  refine va_sld hx hb hX hbl hbA hS (lw_in (j := 2) hn hL ex3 rfl (by decide)) dCL_law_590 ?_
  refine lv_aload_n hx hb dCL_law_591 rfl (lv_at hl 3 rfl) ?_
  refine lv_iload_n hx hb dCL_law_592 rfl (lv_at hl 0 rfl) ?_
  refine lv_iconst (v := (3 : Int32)) hx hb dCL_law_593 (by decide) ?_
  refine lv_iadd hx hb dCL_law_594 ?_
  refine va_sld hx hb hX hbl hbA hS (lw_in (j := 3) hn hL ex3 rfl (by decide)) dCL_law_595 ?_
  refine lv_aload_n hx hb dCL_law_596 rfl (lv_at hl 3 rfl) ?_
  refine lv_iload_n hx hb dCL_law_597 rfl (lv_at hl 0 rfl) ?_
  refine lv_iconst (v := (4 : Int32)) hx hb dCL_law_598 (by decide) ?_
  refine lv_iadd hx hb dCL_law_599 ?_
  refine va_sld hx hb hX hbl hbA hS (lw_in (j := 4) hn hL ex3 rfl (by decide)) dCL_law_600 ?_
  refine lcall_i (wd := xW ad cA) (b := ad 0) (As := [.int (xs (x3 + (1 : Int32)).toNatClampNeg), .int (xs (x3 + (2 : Int32)).toNatClampNeg), .int (xs (x3 + (3 : Int32)).toNatClampNeg), .int (xs (x3 + (4 : Int32)).toNatClampNeg)]) (rest := []) ⟨hx, hb, hml, hown, hts⟩ hKx hPx (hDx _) hPm (hapm _) hS hAx (ci := 0) (q0 := 0) rfl rfl (kC0_choose l dC dI ad cA σ (xs (x3 + (1 : Int32)).toNatClampNeg) (xs (x3 + (2 : Int32)).toNatClampNeg) (xs (x3 + (3 : Int32)).toNatClampNeg) (xs (x3 + (4 : Int32)).toNatClampNeg) (v, σ') e1) (cwV 4 hts (gw mw_583 mw_584 mw_585 mw_168 mw_586) rfl rfl rfl hdC0_choose ⟨Nat.le_of_ble_eq_true rfl, Nat.le_of_ble_eq_true rfl⟩) rfl hl.1 rfl (Nat.le_of_ble_eq_true rfl) dCL_law_601 ⟨Nat.le_refl _, Nat.le_refl _⟩ (fun H locs hPx hPm hS => ?_)
  refine lv_aload_n hx hb dCL_law_604 rfl (lv_at hl 1 rfl) ?_
  refine lv_aload_n hx hb dCL_law_605 rfl (lv_at hl 3 rfl) ?_
  refine lv_iload_n hx hb dCL_law_606 rfl (lv_at hl 0 rfl) ?_
  refine lv_iconst (v := (1 : Int32)) hx hb dCL_law_607 (by decide) ?_
  refine lv_iadd hx hb dCL_law_608 ?_
  refine va_sld hx hb hX hbl hbA hS (lw_in (j := 1) hn hL ex3 rfl (by decide)) dCL_law_609 ?_
  refine lv_aload_n hx hb dCL_law_610 rfl (lv_at hl 3 rfl) ?_
  refine lv_iload_n hx hb dCL_law_611 rfl (lv_at hl 0 rfl) ?_
  refine lv_iconst (v := (2 : Int32)) hx hb dCL_law_612 (by decide) ?_
  refine lv_iadd hx hb dCL_law_613 ?_
  refine va_sld hx hb hX hbl hbA hS (lw_in (j := 2) hn hL ex3 rfl (by decide)) dCL_law_614 ?_
  refine lv_aload_n hx hb dCL_law_615 rfl (lv_at hl 3 rfl) ?_
  refine lv_iload_n hx hb dCL_law_616 rfl (lv_at hl 0 rfl) ?_
  refine lv_iconst (v := (3 : Int32)) hx hb dCL_law_617 (by decide) ?_
  refine lv_iadd hx hb dCL_law_618 ?_
  refine va_sld hx hb hX hbl hbA hS (lw_in (j := 3) hn hL ex3 rfl (by decide)) dCL_law_619 ?_
  refine lv_aload_n hx hb dCL_law_620 rfl (lv_at hl 3 rfl) ?_
  refine lv_iload_n hx hb dCL_law_621 rfl (lv_at hl 0 rfl) ?_
  refine lv_iconst (v := (4 : Int32)) hx hb dCL_law_622 (by decide) ?_
  refine lv_iadd hx hb dCL_law_623 ?_
  refine va_sld hx hb hX hbl hbA hS (lw_in (j := 4) hn hL ex3 rfl (by decide)) dCL_law_624 ?_
  refine lcall_i (wd := mW ad2 cA2) (b := ad2 0) (As := [.int (xs (x3 + (1 : Int32)).toNatClampNeg), .int (xs (x3 + (2 : Int32)).toNatClampNeg), .int (xs (x3 + (3 : Int32)).toNatClampNeg), .int (xs (x3 + (4 : Int32)).toNatClampNeg)]) (rest := [.int v]) ⟨hx, hb, hml, hown, hts⟩ hKm hPm (hDm _) hPx (hapx _) hS hAm (ci := 5) (q0 := 0) rfl rfl (kCM_choose l dC dI ad2 cA2 τ (xs (x3 + (1 : Int32)).toNatClampNeg) (xs (x3 + (2 : Int32)).toNatClampNeg) (xs (x3 + (3 : Int32)).toNatClampNeg) (xs (x3 + (4 : Int32)).toNatClampNeg) (v, τ') e2) (cwV 4 hts (gw mw_587 mw_588 mw_589 mw_363 mw_590) rfl rfl rfl hdCM_choose ⟨Nat.le_of_ble_eq_true rfl, Nat.le_of_ble_eq_true rfl⟩) rfl hl.1 rfl (Nat.le_of_ble_eq_true rfl) dCL_law_625 ⟨Nat.le_refl _, Nat.le_refl _⟩ (fun H locs hPm hPx hS => ?_)
  refine lv_icmp_eq (tgt := 725) hx hb dCL_law_628 (by decide) (fun _ => ?_) (fun c9 => absurd rfl c9)
  exact kk H locs ⟨hPx, hPm, hS⟩
set_option maxHeartbeats 4000000 in
set_option maxRecDepth 100000 in
theorem lw_c13 {p : Program} {l : Launch} {e : Env} {s : State} {m : MethodId} {below : List Frame} {meth : Method} {c : Code} {dC : Nat → ClassId} {dI : Nat → Nat → Nat} {ad ad2 : Nat → Nat} {cA cA2 : Nat → ClassId} {b L : Nat} {xs : Nat → Int32} (hL : L ≤ 5120) (C0 : lw_At p s m meth c b L xs) (F : lwF dC dI ad cA ad2 cA2 s) {σ τ : xSt} {v : Int32} {H : Heap} {locs : List Loc} (I : lwI dC dI ad cA ad2 cA2 s σ τ H locs) {x3 : Int32} {n : Nat} (hn : n + 10 ≤ L) (ex3 : x3 = nI n) {ls : Array Slot} (hl : lv_has ls 4 [(3, .int x3), (2, .ref (ad2 0)), (1, .ref (ad 0)), (0, .ref b)])
    (e1 : fC0_phase σ = some v) (e2 : fCM_phase τ = some v)
    (kk : ∀ (H : Heap) (locs : List Loc), lwI dC dI ad cA ad2 cA2 s σ τ H locs → W p l e room_1 s m #[Value.ref b] below meth c H locs 600000 7302250 (lw_Z below #[Value.ref b] s) (F0 m 725 ls [])) : W p l e room_1 s m #[Value.ref b] below meth c H locs 600000 7302250 (lw_Z below #[Value.ref b] s) (F0 m 633 ls []) := by
  obtain ⟨hx, hb, hr, hml, hown, hts0, hX, hbl, hlocks, hgv⟩ := id C0
  obtain ⟨hKx, hKm, hDx, hDm, hAx, hAm, hapm, hapx⟩ := id F
  obtain ⟨hPx, hPm, hS⟩ := I
  have hts : ∀ w ∈ wAll, w.before #[Value.ref b] s = true := fun w h => hts0 w (List.mem_filter.mp h).1
  have hbA : ¬ (fun q : Nat => s.heap.size ≤ q) b := Nat.not_le.mpr hbl
  refine lv_aload_n hx hb dCL_law_633 rfl (lv_at hl 2 rfl) ?_
  refine gcall_r (wd := xW ad cA σ) (b := ad 0) (As := []) (rest := []) ⟨hx, hb, hml, hown, hts⟩ hKx hPx (ci := 0) (q0 := 0) rfl rfl (kC0_phase l dC dI ad cA σ v e1) (cwV 0 hts (gw mw_591 mw_592 mw_593 mw_168 mw_594) rfl rfl rfl hdC0_phase ⟨Nat.le_of_ble_eq_true rfl, Nat.le_of_ble_eq_true rfl⟩) rfl hl.1 rfl (Nat.le_of_ble_eq_true rfl) dCL_law_634 ⟨Nat.le_refl _, Nat.le_refl _⟩ ?_
  refine lv_aload_n hx hb dCL_law_637 rfl (lv_at hl 1 rfl) ?_
  refine gcall_r (wd := mW ad2 cA2 τ) (b := ad2 0) (As := []) (rest := [.int v]) ⟨hx, hb, hml, hown, hts⟩ hKm hPm (ci := 5) (q0 := 0) rfl rfl (kCM_phase l dC dI ad2 cA2 τ v e2) (cwV 0 hts (gw mw_595 mw_596 mw_597 mw_363 mw_598) rfl rfl rfl hdCM_phase ⟨Nat.le_of_ble_eq_true rfl, Nat.le_of_ble_eq_true rfl⟩) rfl hl.1 rfl (Nat.le_of_ble_eq_true rfl) dCL_law_638 ⟨Nat.le_refl _, Nat.le_refl _⟩ ?_
  refine lv_icmp_eq (tgt := 725) hx hb dCL_law_641 (by decide) (fun _ => ?_) (fun c9 => absurd rfl c9)
  exact kk H locs ⟨hPx, hPm, hS⟩
set_option maxHeartbeats 4000000 in
set_option maxRecDepth 100000 in
theorem lw_c14 {p : Program} {l : Launch} {e : Env} {s : State} {m : MethodId} {below : List Frame} {meth : Method} {c : Code} {dC : Nat → ClassId} {dI : Nat → Nat → Nat} {ad ad2 : Nat → Nat} {cA cA2 : Nat → ClassId} {b L : Nat} {xs : Nat → Int32} (hL : L ≤ 5120) (C0 : lw_At p s m meth c b L xs) (F : lwF dC dI ad cA ad2 cA2 s) {σ τ : xSt} {v : Int32} {H : Heap} {locs : List Loc} (I : lwI dC dI ad cA ad2 cA2 s σ τ H locs) {x3 : Int32} {n : Nat} (hn : n + 10 ≤ L) (ex3 : x3 = nI n) {ls : Array Slot} (hl : lv_has ls 4 [(3, .int x3), (2, .ref (ad2 0)), (1, .ref (ad 0)), (0, .ref b)])
    (e1 : fC0_applied σ (xs (x3 + (1 : Int32)).toNatClampNeg) = some v) (e2 : fCM_applied τ (xs (x3 + (1 : Int32)).toNatClampNeg) = some v)
    (kk : ∀ (H : Heap) (locs : List Loc), lwI dC dI ad cA ad2 cA2 s σ τ H locs → W p l e room_1 s m #[Value.ref b] below meth c H locs 600000 7302250 (lw_Z below #[Value.ref b] s) (F0 m 725 ls [])) : W p l e room_1 s m #[Value.ref b] below meth c H locs 600000 7302250 (lw_Z below #[Value.ref b] s) (F0 m 646 ls []) := by
  obtain ⟨hx, hb, hr, hml, hown, hts0, hX, hbl, hlocks, hgv⟩ := id C0
  obtain ⟨hKx, hKm, hDx, hDm, hAx, hAm, hapm, hapx⟩ := id F
  obtain ⟨hPx, hPm, hS⟩ := I
  have hts : ∀ w ∈ wAll, w.before #[Value.ref b] s = true := fun w h => hts0 w (List.mem_filter.mp h).1
  have hbA : ¬ (fun q : Nat => s.heap.size ≤ q) b := Nat.not_le.mpr hbl
  refine lv_aload_n hx hb dCL_law_646 rfl (lv_at hl 2 rfl) ?_
  refine lv_aload_n hx hb dCL_law_647 rfl (lv_at hl 3 rfl) ?_
  refine lv_iload_n hx hb dCL_law_648 rfl (lv_at hl 0 rfl) ?_
  refine lv_iconst (v := (1 : Int32)) hx hb dCL_law_649 (by decide) ?_
  refine lv_iadd hx hb dCL_law_650 ?_
  refine va_sld hx hb hX hbl hbA hS (lw_in (j := 1) hn hL ex3 rfl (by decide)) dCL_law_651 ?_
  refine gcall_r (wd := xW ad cA σ) (b := ad 0) (As := [.int (xs (x3 + (1 : Int32)).toNatClampNeg)]) (rest := []) ⟨hx, hb, hml, hown, hts⟩ hKx hPx (ci := 0) (q0 := 0) rfl rfl (kC0_applied l dC dI ad cA σ (xs (x3 + (1 : Int32)).toNatClampNeg) v e1) (cwV 1 hts (gw mw_599 mw_600 mw_601 mw_168 mw_602) rfl rfl rfl hdC0_applied ⟨Nat.le_of_ble_eq_true rfl, Nat.le_of_ble_eq_true rfl⟩) rfl hl.1 rfl (Nat.le_of_ble_eq_true rfl) dCL_law_652 ⟨Nat.le_refl _, Nat.le_refl _⟩ ?_
  refine lv_aload_n hx hb dCL_law_655 rfl (lv_at hl 1 rfl) ?_
  refine lv_aload_n hx hb dCL_law_656 rfl (lv_at hl 3 rfl) ?_
  refine lv_iload_n hx hb dCL_law_657 rfl (lv_at hl 0 rfl) ?_
  refine lv_iconst (v := (1 : Int32)) hx hb dCL_law_658 (by decide) ?_
  refine lv_iadd hx hb dCL_law_659 ?_
  refine va_sld hx hb hX hbl hbA hS (lw_in (j := 1) hn hL ex3 rfl (by decide)) dCL_law_660 ?_
  refine gcall_r (wd := mW ad2 cA2 τ) (b := ad2 0) (As := [.int (xs (x3 + (1 : Int32)).toNatClampNeg)]) (rest := [.int v]) ⟨hx, hb, hml, hown, hts⟩ hKm hPm (ci := 5) (q0 := 0) rfl rfl (kCM_applied l dC dI ad2 cA2 τ (xs (x3 + (1 : Int32)).toNatClampNeg) v e2) (cwV 1 hts (gw mw_603 mw_604 mw_605 mw_363 mw_606) rfl rfl rfl hdCM_applied ⟨Nat.le_of_ble_eq_true rfl, Nat.le_of_ble_eq_true rfl⟩) rfl hl.1 rfl (Nat.le_of_ble_eq_true rfl) dCL_law_661 ⟨Nat.le_refl _, Nat.le_refl _⟩ ?_
  refine lv_icmp_eq (tgt := 725) hx hb dCL_law_664 (by decide) (fun _ => ?_) (fun c9 => absurd rfl c9)
  exact kk H locs ⟨hPx, hPm, hS⟩
set_option maxHeartbeats 4000000 in
set_option maxRecDepth 100000 in
theorem lw_c15 {p : Program} {l : Launch} {e : Env} {s : State} {m : MethodId} {below : List Frame} {meth : Method} {c : Code} {dC : Nat → ClassId} {dI : Nat → Nat → Nat} {ad ad2 : Nat → Nat} {cA cA2 : Nat → ClassId} {b L : Nat} {xs : Nat → Int32} (hL : L ≤ 5120) (C0 : lw_At p s m meth c b L xs) (F : lwF dC dI ad cA ad2 cA2 s) {σ τ : xSt} {v : Int32} {H : Heap} {locs : List Loc} (I : lwI dC dI ad cA ad2 cA2 s σ τ H locs) {x3 : Int32} {n : Nat} (hn : n + 10 ≤ L) (ex3 : x3 = nI n) {ls : Array Slot} (hl : lv_has ls 4 [(3, .int x3), (2, .ref (ad2 0)), (1, .ref (ad 0)), (0, .ref b)])
    (e1 : fC0_special σ (xs (x3 + (1 : Int32)).toNatClampNeg) (xs (x3 + (2 : Int32)).toNatClampNeg) = some v) (e2 : fCM_special τ (xs (x3 + (1 : Int32)).toNatClampNeg) (xs (x3 + (2 : Int32)).toNatClampNeg) = some v)
    (kk : ∀ (H : Heap) (locs : List Loc), lwI dC dI ad cA ad2 cA2 s σ τ H locs → W p l e room_1 s m #[Value.ref b] below meth c H locs 600000 7302250 (lw_Z below #[Value.ref b] s) (F0 m 725 ls [])) : W p l e room_1 s m #[Value.ref b] below meth c H locs 600000 7302250 (lw_Z below #[Value.ref b] s) (F0 m 669 ls []) := by
  obtain ⟨hx, hb, hr, hml, hown, hts0, hX, hbl, hlocks, hgv⟩ := id C0
  obtain ⟨hKx, hKm, hDx, hDm, hAx, hAm, hapm, hapx⟩ := id F
  obtain ⟨hPx, hPm, hS⟩ := I
  have hts : ∀ w ∈ wAll, w.before #[Value.ref b] s = true := fun w h => hts0 w (List.mem_filter.mp h).1
  have hbA : ¬ (fun q : Nat => s.heap.size ≤ q) b := Nat.not_le.mpr hbl
  refine lv_aload_n hx hb dCL_law_669 rfl (lv_at hl 2 rfl) ?_
  refine lv_aload_n hx hb dCL_law_670 rfl (lv_at hl 3 rfl) ?_
  refine lv_iload_n hx hb dCL_law_671 rfl (lv_at hl 0 rfl) ?_
  refine lv_iconst (v := (1 : Int32)) hx hb dCL_law_672 (by decide) ?_
  refine lv_iadd hx hb dCL_law_673 ?_
  refine va_sld hx hb hX hbl hbA hS (lw_in (j := 1) hn hL ex3 rfl (by decide)) dCL_law_674 ?_
  refine lv_aload_n hx hb dCL_law_675 rfl (lv_at hl 3 rfl) ?_
  refine lv_iload_n hx hb dCL_law_676 rfl (lv_at hl 0 rfl) ?_
  refine lv_iconst (v := (2 : Int32)) hx hb dCL_law_677 (by decide) ?_
  refine lv_iadd hx hb dCL_law_678 ?_
  refine va_sld hx hb hX hbl hbA hS (lw_in (j := 2) hn hL ex3 rfl (by decide)) dCL_law_679 ?_
  refine gcall_r (wd := xW ad cA σ) (b := ad 0) (As := [.int (xs (x3 + (1 : Int32)).toNatClampNeg), .int (xs (x3 + (2 : Int32)).toNatClampNeg)]) (rest := []) ⟨hx, hb, hml, hown, hts⟩ hKx hPx (ci := 0) (q0 := 0) rfl rfl (kC0_special l dC dI ad cA σ (xs (x3 + (1 : Int32)).toNatClampNeg) (xs (x3 + (2 : Int32)).toNatClampNeg) v e1) (cwV 2 hts (gw mw_607 mw_608 mw_609 mw_168 mw_610) rfl rfl rfl hdC0_special ⟨Nat.le_of_ble_eq_true rfl, Nat.le_of_ble_eq_true rfl⟩) rfl hl.1 rfl (Nat.le_of_ble_eq_true rfl) dCL_law_680 ⟨Nat.le_refl _, Nat.le_refl _⟩ ?_
  refine lv_aload_n hx hb dCL_law_683 rfl (lv_at hl 1 rfl) ?_
  refine lv_aload_n hx hb dCL_law_684 rfl (lv_at hl 3 rfl) ?_
  refine lv_iload_n hx hb dCL_law_685 rfl (lv_at hl 0 rfl) ?_
  refine lv_iconst (v := (1 : Int32)) hx hb dCL_law_686 (by decide) ?_
  refine lv_iadd hx hb dCL_law_687 ?_
  refine va_sld hx hb hX hbl hbA hS (lw_in (j := 1) hn hL ex3 rfl (by decide)) dCL_law_688 ?_
  refine lv_aload_n hx hb dCL_law_689 rfl (lv_at hl 3 rfl) ?_
  refine lv_iload_n hx hb dCL_law_690 rfl (lv_at hl 0 rfl) ?_
  refine lv_iconst (v := (2 : Int32)) hx hb dCL_law_691 (by decide) ?_
  refine lv_iadd hx hb dCL_law_692 ?_
  refine va_sld hx hb hX hbl hbA hS (lw_in (j := 2) hn hL ex3 rfl (by decide)) dCL_law_693 ?_
  refine gcall_r (wd := mW ad2 cA2 τ) (b := ad2 0) (As := [.int (xs (x3 + (1 : Int32)).toNatClampNeg), .int (xs (x3 + (2 : Int32)).toNatClampNeg)]) (rest := [.int v]) ⟨hx, hb, hml, hown, hts⟩ hKm hPm (ci := 5) (q0 := 0) rfl rfl (kCM_special l dC dI ad2 cA2 τ (xs (x3 + (1 : Int32)).toNatClampNeg) (xs (x3 + (2 : Int32)).toNatClampNeg) v e2) (cwV 2 hts (gw mw_611 mw_612 mw_613 mw_363 mw_614) rfl rfl rfl hdCM_special ⟨Nat.le_of_ble_eq_true rfl, Nat.le_of_ble_eq_true rfl⟩) rfl hl.1 rfl (Nat.le_of_ble_eq_true rfl) dCL_law_694 ⟨Nat.le_refl _, Nat.le_refl _⟩ ?_
  refine lv_icmp_eq (tgt := 725) hx hb dCL_law_697 (by decide) (fun _ => ?_) (fun c9 => absurd rfl c9)
  exact kk H locs ⟨hPx, hPm, hS⟩
set_option maxHeartbeats 4000000 in
set_option maxRecDepth 100000 in
theorem lw_c16 {p : Program} {l : Launch} {e : Env} {s : State} {m : MethodId} {below : List Frame} {meth : Method} {c : Code} {dC : Nat → ClassId} {dI : Nat → Nat → Nat} {ad ad2 : Nat → Nat} {cA cA2 : Nat → ClassId} {b L : Nat} {xs : Nat → Int32} (hL : L ≤ 5120) (C0 : lw_At p s m meth c b L xs) (F : lwF dC dI ad cA ad2 cA2 s) {σ τ : xSt} {v : Int32} {H : Heap} {locs : List Loc} (I : lwI dC dI ad cA ad2 cA2 s σ τ H locs) {x3 : Int32} {n : Nat} (hn : n + 10 ≤ L) (ex3 : x3 = nI n) {ls : Array Slot} (hl : lv_has ls 4 [(3, .int x3), (2, .ref (ad2 0)), (1, .ref (ad 0)), (0, .ref b)])
    (e1 : fC0_count σ (xs (x3 + (1 : Int32)).toNatClampNeg) = some v) (e2 : fCM_count τ (xs (x3 + (1 : Int32)).toNatClampNeg) = some v)
    (kk : ∀ (H : Heap) (locs : List Loc), lwI dC dI ad cA ad2 cA2 s σ τ H locs → W p l e room_1 s m #[Value.ref b] below meth c H locs 600000 7302250 (lw_Z below #[Value.ref b] s) (F0 m 725 ls [])) : W p l e room_1 s m #[Value.ref b] below meth c H locs 600000 7302250 (lw_Z below #[Value.ref b] s) (F0 m 702 ls []) := by
  obtain ⟨hx, hb, hr, hml, hown, hts0, hX, hbl, hlocks, hgv⟩ := id C0
  obtain ⟨hKx, hKm, hDx, hDm, hAx, hAm, hapm, hapx⟩ := id F
  obtain ⟨hPx, hPm, hS⟩ := I
  have hts : ∀ w ∈ wAll, w.before #[Value.ref b] s = true := fun w h => hts0 w (List.mem_filter.mp h).1
  have hbA : ¬ (fun q : Nat => s.heap.size ≤ q) b := Nat.not_le.mpr hbl
  refine lv_aload_n hx hb dCL_law_702 rfl (lv_at hl 2 rfl) ?_
  refine lv_aload_n hx hb dCL_law_703 rfl (lv_at hl 3 rfl) ?_
  refine lv_iload_n hx hb dCL_law_704 rfl (lv_at hl 0 rfl) ?_
  refine lv_iconst (v := (1 : Int32)) hx hb dCL_law_705 (by decide) ?_
  refine lv_iadd hx hb dCL_law_706 ?_
  refine va_sld hx hb hX hbl hbA hS (lw_in (j := 1) hn hL ex3 rfl (by decide)) dCL_law_707 ?_
  refine gcall_r (wd := xW ad cA σ) (b := ad 0) (As := [.int (xs (x3 + (1 : Int32)).toNatClampNeg)]) (rest := []) ⟨hx, hb, hml, hown, hts⟩ hKx hPx (ci := 0) (q0 := 0) rfl rfl (kC0_count l dC dI ad cA σ (xs (x3 + (1 : Int32)).toNatClampNeg) v e1) (cwV 1 hts (gw mw_615 mw_616 mw_617 mw_168 mw_618) rfl rfl rfl hdC0_count ⟨Nat.le_of_ble_eq_true rfl, Nat.le_of_ble_eq_true rfl⟩) rfl hl.1 rfl (Nat.le_of_ble_eq_true rfl) dCL_law_708 ⟨Nat.le_refl _, Nat.le_refl _⟩ ?_
  refine lv_aload_n hx hb dCL_law_711 rfl (lv_at hl 1 rfl) ?_
  refine lv_aload_n hx hb dCL_law_712 rfl (lv_at hl 3 rfl) ?_
  refine lv_iload_n hx hb dCL_law_713 rfl (lv_at hl 0 rfl) ?_
  refine lv_iconst (v := (1 : Int32)) hx hb dCL_law_714 (by decide) ?_
  refine lv_iadd hx hb dCL_law_715 ?_
  refine va_sld hx hb hX hbl hbA hS (lw_in (j := 1) hn hL ex3 rfl (by decide)) dCL_law_716 ?_
  refine gcall_r (wd := mW ad2 cA2 τ) (b := ad2 0) (As := [.int (xs (x3 + (1 : Int32)).toNatClampNeg)]) (rest := [.int v]) ⟨hx, hb, hml, hown, hts⟩ hKm hPm (ci := 5) (q0 := 0) rfl rfl (kCM_count l dC dI ad2 cA2 τ (xs (x3 + (1 : Int32)).toNatClampNeg) v e2) (cwV 1 hts (gw mw_619 mw_620 mw_621 mw_363 mw_622) rfl rfl rfl hdCM_count ⟨Nat.le_of_ble_eq_true rfl, Nat.le_of_ble_eq_true rfl⟩) rfl hl.1 rfl (Nat.le_of_ble_eq_true rfl) dCL_law_717 ⟨Nat.le_refl _, Nat.le_refl _⟩ ?_
  refine lv_icmp_eq (tgt := 725) hx hb dCL_law_720 (by decide) (fun _ => ?_) (fun c9 => absurd rfl c9)
  exact kk H locs ⟨hPx, hPm, hS⟩
