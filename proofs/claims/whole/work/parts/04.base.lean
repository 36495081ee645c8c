-- the pure side's words
abbrev xSt : Type := (Nat → Nat → Int32) × (Nat → Nat → Int64)
def sI (σ : xSt) (k j : Nat) (v : Int32) : xSt := (fun a => if a = k then upd (σ.1 k) j v else σ.1 a, σ.2)
def sL (σ : xSt) (k j : Nat) (v : Int64) : xSt := (σ.1, fun a => if a = k then vp_updL (σ.2 k) j v else σ.2 a)
def jlushr (x : Int64) (y : Int32) : Int64 := (x.toUInt64 >>> (y.toInt64.toUInt64 &&& Int64.toUInt64 63)).toInt64
def jlshl (x : Int64) (y : Int32) : Int64 := x <<< (y.toInt64 &&& 63)
def jiushr (x y : Int32) : Int32 := (x.toUInt32 >>> (y.toUInt32 &&& Int32.toUInt32 31)).toInt32
def gF : Nat := 4000
def nm {α β : Type} (e : α) (f : α → Option β) : Option β := f e
theorem nm_at {α β : Type} {e y : α} {f : α → Option β} {r : β} (hy : y = e) (h : nm e f = some r) : f y = some r := by rw [hy]; exact h
def gx_b2 {α β γ : Type} (o : Option (α × β)) (f : α → β → Option γ) : Option γ := o.bind fun z => f z.1 z.2
theorem gx_b2_at {α β γ : Type} {o : Option (α × β)} {f : α → β → Option γ} {r : γ} (h : gx_b2 o f = some r) : ∃ v u, o = some (v, u) ∧ f v u = some r := by
  obtain ⟨z, e, h⟩ := Option.bind_eq_some_iff.mp h
  exact ⟨z.1, z.2, e, h⟩
theorem gx_nb {c : Prop} {d : Decidable c} {α : Type} {E : Option α} {r : α} (h : (@ite _ c d none E) = some r) : ¬ c ∧ E = some r := by
  by_cases q : c
  · rw [if_pos q] at h; cases h
  · rw [if_neg q] at h; exact ⟨q, h⟩
theorem gx_gd {c : Prop} {d : Decidable c} {α : Type} {E : Option α} {r : α} (h : (@ite _ c d E none) = some r) : c ∧ E = some r := by
  by_cases q : c
  · rw [if_pos q] at h; exact ⟨q, h⟩
  · rw [if_neg q] at h; cases h
theorem gx_nar {v : Int32} (h : v &&& 1 = v) : narrow .boolean (.int v) = .int v := by
  show Value.int (v &&& 1) = .int v
  rw [h]
theorem gx_keys {A : Nat → Prop} {ws ws' : va_W} (hk : ws.map Prod.fst = ws'.map Prod.fst) (h : va_D A ws) : va_D A ws' := by
  have key : ∀ (i : Nat) (q : Nat × va_E), ws'[i]? = some q → ∃ q0 : Nat × va_E, ws[i]? = some q0 ∧ q0.1 = q.1 := by
    intro i q hq
    have e : (ws.map Prod.fst)[i]? = some q.1 := by rw [hk, List.getElem?_map, hq]; rfl
    rw [List.getElem?_map] at e
    cases hw : ws[i]? with
    | none => rw [hw] at e; cases e
    | some q0 => rw [hw] at e; exact ⟨q0, rfl, Option.some.inj e⟩
  refine ⟨fun i j p q hp hq hpq => ?_, fun k q hq => ?_⟩
  · obtain ⟨p0, hp0, ep⟩ := key i p hp
    obtain ⟨q0, hq0, eq⟩ := key j q hq
    exact h.1 i j p0 q0 hp0 hq0 (by rw [ep, eq, hpq])
  · obtain ⟨q0, hq0, eq⟩ := key k q hq
    rw [← eq]
    exact h.2 k q0 hq0
section GCALL
variable {p : Program} {l : Launch} {e : Env} {R : Room} {s : State} {m : MethodId} {args : Array Value} {below : List Frame} {meth : Method} {c : Code} {H : Heap} {locs : List Loc} {cells slots : Nat} {Q : State → Prop}
variable {cc bytes : ByteArray} {nL maxL n index pc : Nat} {Ts ws : List Cond} {own : String} {y : MethodName} {ret : Option FieldType} {rm : Room} {b : Nat} {As rest st0 : List Value} {ls : Array Slot}
variable {D : va_G} {cl : List vw_C} {tys : List (ClassId × FieldType)}
/-- a call of a method that leaves the heap as it is -/
theorem gcall_r {wd : va_W} {v : Int32} (S : CallFix p m c cc nL s args Ts own) (hK : va_K D cl tys s) (hP : va_P D cl wd H) {ci q0 : Nat} {q : vw_C} {fs : List Value} (hc : cl[ci]? = some q) (he : wd[q0]? = some (b, .inr (ci, fs)))
    (hM : Met l y ws rm (va_Pc (.ref b :: As) (fun U => va_P D cl wd U.heap ∧ va_K D cl tys U)) (vp_Si (fun w => w = v)) 0 0 (fun _ => False))
    (cw : CallW R s args own q.1 index y bytes maxL ret ws rm 0 0 n) (hn : As.length = n) (hsize : ls.size = nL) (hstack : st0 = As.reverse ++ .ref b :: rest) (hroom : (rest.map fun v => v.category).sum ≤ 8) (hdg : decode cc pc = .ok (.invokevirtual index, 3))
    (hf : cells ≤ R.cells ∧ slots ≤ R.slots)
    (k : W p l e R s m args below meth c H locs cells slots Q (F0 m (pc + 3) ls (.int v :: rest))) : W p l e R s m args below meth c H locs cells slots Q (F0 m pc ls st0) := by
  refine vp_callSi (va_runV (As := As) (rest := rest) (b := b) S hM cw ⟨fun a U g mk q => ?_, va_recv hK hP hc he, fun U hU hW => ⟨rfl, by rw [hU]; exact hP, va_K.moved hW.alike hK⟩⟩ rfl hn hsize hstack (lv_room hroom) hdg hf).run (fun r er => ?_)
  · obtain ⟨q0, qP, qK⟩ := q
    exact ⟨q0, qP, va_K.moved (u := U) (U := U.calling g mk a) (Vm.Alike.refl U.vm) qK⟩
  · rw [er]
    exact k
/-- a call of a writer with an int answer -/
theorem gcall_i {wd : xSt → va_W} {A : Nat → Prop} {H0 : Heap} {σ u : xSt} {v : Int32} (hkeys : ∀ σ σ' : xSt, (wd σ).map Prod.fst = (wd σ').map Prod.fst) (S : CallFix p m c cc nL s args Ts own) (hK : va_K D cl tys s) (hP : va_P D cl (wd σ) H) (hD : va_D A (wd σ)) (hS : va_S A H0 H locs) {ci q0 : Nat} {q : vw_C} {fs : List Value} (hc : cl[ci]? = some q) (he : (wd σ)[q0]? = some (b, .inr (ci, fs)))
    (hM : Met l y ws rm (va_Pc (.ref b :: As) (fun U => va_P D cl (wd σ) U.heap ∧ va_K D cl tys U ∧ va_D A (wd σ))) (va_Qi (fun (w : Int32) (z : xSt) => (w, z) = (v, u)) (fun z t => va_P D cl (wd z) t.heap) A) 0 0 A)
    (cw : CallW R s args own q.1 index y bytes maxL ret ws rm 0 0 n) (hn : As.length = n) (hsize : ls.size = nL) (hstack : st0 = As.reverse ++ .ref b :: rest) (hroom : (rest.map fun v => v.category).sum ≤ 8) (hdg : decode cc pc = .ok (.invokevirtual index, 3))
    (hf : cells ≤ R.cells ∧ slots ≤ R.slots)
    (k : ∀ (H : Heap) (locs : List Loc), va_P D cl (wd u) H → va_D A (wd u) → va_S A H0 H locs → W p l e R s m args below meth c H locs cells slots Q (F0 m (pc + 3) ls (.int v :: rest))) : W p l e R s m args below meth c H locs cells slots Q (F0 m pc ls st0) := by
  refine va_calli (va_runV (As := As) (rest := rest) (b := b) S hM cw ⟨fun a U g mk q => ?_, va_recv hK hP hc he, fun U hU hW => ⟨rfl, by rw [hU]; exact hP, va_K.moved hW.alike hK, hD⟩⟩ rfl hn hsize hstack (lv_room hroom) hdg hf) hS (fun _ _ h => h) (fun _ h => h) (fun r z t H1 locs1 ht hvm hw hB hz1 hk1 hS => ?_)
  · obtain ⟨q0, qP, qK, qD⟩ := q
    exact ⟨q0, qP, va_K.moved (u := U) (U := U.calling g mk a) (Vm.Alike.refl U.vm) qK, qD⟩
  · cases hw
    rw [ht] at hB
    exact k H1 locs1 hB (gx_keys (hkeys _ _) hD) hS
theorem gcall_v {wd : xSt → va_W} {A : Nat → Prop} {H0 : Heap} {σ u : xSt} (hkeys : ∀ σ σ' : xSt, (wd σ).map Prod.fst = (wd σ').map Prod.fst) (S : CallFix p m c cc nL s args Ts own) (hK : va_K D cl tys s) (hP : va_P D cl (wd σ) H) (hD : va_D A (wd σ)) (hS : va_S A H0 H locs) {ci q0 : Nat} {q : vw_C} {fs : List Value} (hc : cl[ci]? = some q) (he : (wd σ)[q0]? = some (b, .inr (ci, fs)))
    (hM : Met l y ws rm (va_Pc (.ref b :: As) (fun U => va_P D cl (wd σ) U.heap ∧ va_K D cl tys U ∧ va_D A (wd σ))) (va_Qv (fun (z : xSt) => z = u) (fun z t => va_P D cl (wd z) t.heap) A) 0 0 A)
    (cw : CallW R s args own q.1 index y bytes maxL ret ws rm 0 0 n) (hn : As.length = n) (hsize : ls.size = nL) (hstack : st0 = As.reverse ++ .ref b :: rest) (hroom : (rest.map fun v => v.category).sum ≤ 8) (hdg : decode cc pc = .ok (.invokevirtual index, 3))
    (hf : cells ≤ R.cells ∧ slots ≤ R.slots)
    (k : ∀ (H : Heap) (locs : List Loc), va_P D cl (wd u) H → va_D A (wd u) → va_S A H0 H locs → W p l e R s m args below meth c H locs cells slots Q (F0 m (pc + 3) ls rest)) : W p l e R s m args below meth c H locs cells slots Q (F0 m pc ls st0) := by
  refine va_callv (va_runV (As := As) (rest := rest) (b := b) S hM cw ⟨fun a U g mk q => ?_, va_recv hK hP hc he, fun U hU hW => ⟨rfl, by rw [hU]; exact hP, va_K.moved hW.alike hK, hD⟩⟩ rfl hn hsize hstack (lv_room hroom) hdg hf) hS (fun _ _ h => h) (fun _ h => h) (fun z t H1 locs1 ht hvm hw hB hz1 hk1 hS => ?_)
  · obtain ⟨q0, qP, qK, qD⟩ := q
    exact ⟨q0, qP, va_K.moved (u := U) (U := U.calling g mk a) (Vm.Alike.refl U.vm) qK, qD⟩
  · cases hw
    rw [ht] at hB
    exact k H1 locs1 hB (gx_keys (hkeys _ _) hD) hS
theorem gcall_s {wd : va_W} {v : Int32} (S : CallFix p m c cc nL s args Ts own) (hK : va_K D cl tys s) (hP : va_P D cl wd H)
    (hM : Met l y ws rm (va_Pc As (fun U => va_P D cl wd U.heap ∧ va_K D cl tys U)) (vp_Si (fun w => w = v)) 0 0 (fun _ => False))
    (cw : CallB R s args own index y bytes maxL ret ws rm 0 0 n ∧ (Cond.static y).before args s = true) (hn : As.length = n) (hsize : ls.size = nL) (hstack : st0 = As.reverse ++ rest) (hroom : (rest.map fun v => v.category).sum ≤ 8) (hdg : decode cc pc = .ok (.invokestatic index, 3))
    (hf : cells ≤ R.cells ∧ slots ≤ R.slots)
    (k : W p l e R s m args below meth c H locs cells slots Q (F0 m (pc + 3) ls (.int v :: rest))) : W p l e R s m args below meth c H locs cells slots Q (F0 m pc ls st0) := by
  refine vp_callSi (va_runS (As := As) (rest := rest) S hM cw ⟨fun a U g mk q => ?_, fun U hU hW => ⟨rfl, by rw [hU]; exact hP, va_K.moved hW.alike hK⟩⟩ rfl hn hsize hstack (lv_room hroom) hdg hf).run (fun r er => ?_)
  · obtain ⟨q0, qP, qK⟩ := q
    exact ⟨q0, qP, va_K.moved (u := U) (U := U.calling g mk a) (Vm.Alike.refl U.vm) qK⟩
  · rw [er]
    exact k
end GCALL
theorem gx_out2 {x : Int32} (h0 : ¬ x = 0) (h1 : ¬ x = 1) (h2 : ¬ x = 2) : x.toInt < 0 ∨ 2 < x.toInt := by
  rcases Int.lt_or_le x.toInt 0 with q | q
  · exact Or.inl q
  · rcases Int.lt_or_le 2 x.toInt with z | z
    · exact Or.inr z
    · exfalso
      have e : x.toInt = 0 ∨ x.toInt = 1 ∨ x.toInt = 2 := by omega
      rcases e with e | e | e
      · exact h0 (Int32.toInt_inj.mp e)
      · exact h1 (Int32.toInt_inj.mp e)
      · exact h2 (Int32.toInt_inj.mp e)
theorem goodIn_all {ws : List Cond} (h : ∀ w ∈ ws, w ∈ wAll) : GoodIn wAll ws := fun w hw => ⟨h w hw, good_of_word (List.mem_filter.mp (h w hw)).2⟩
theorem gw {own C : String} {idx n : Nat} {y : MethodName} {bytes : ByteArray} {ret : Option FieldType} (h1 : Cond.methodLink own idx y ∈ wAll) (h2 : Cond.instanceMethod y ∈ wAll) (h3 : Cond.selects C y y ∈ wAll) (h4 : Cond.initialized C ∈ wAll) (h5 : Cond.code y bytes n ret ∈ wAll) : GoodIn wAll (wsV own idx C y (.code y bytes n ret :: wAll)) := by
  refine goodIn_all (fun w hw => ?_)
  unfold wsV at hw
  simp only [List.cons_append, List.nil_append, List.mem_cons] at hw
  rcases hw with rfl | rfl | rfl | rfl | rfl | hw <;> assumption
theorem gws {own : String} {idx n : Nat} {y : MethodName} {bytes : ByteArray} {ret : Option FieldType} (h1 : Cond.methodLink own idx y ∈ wAll) (h2 : Cond.static y ∈ wAll) (h4 : Cond.initialized y.cls ∈ wAll) (h5 : Cond.code y bytes n ret ∈ wAll) : GoodIn wAll (va_wsS own idx y (.code y bytes n ret :: wAll)) := by
  refine goodIn_all (fun w hw => ?_)
  unfold va_wsS at hw
  simp only [List.cons_append, List.nil_append, List.mem_cons] at hw
  rcases hw with rfl | rfl | rfl | rfl | hw <;> assumption
