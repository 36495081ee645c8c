def aW (ad : Nat → Nat) (cA : Nat → ClassId) (σ : xSt) : va_W := [
  (ad 0, .inl (cA 0, 24, .inl (σ.1 0)))]
def aT (cA : Nat → ClassId) : List (ClassId × FieldType) := [(cA 0, .int)]
def aA (ad : Nat → Nat) : Nat → Prop := fun q => ∃ k : Nat, k < 1 ∧ q = ad k
theorem akeys {ad : Nat → Nat} {cA : Nat → ClassId} : ∀ σ σ2 : xSt, (aW ad cA σ).map Prod.fst = (aW ad cA σ2).map Prod.fst := fun _ _ => rfl
abbrev rm_JA_fill_0 : Room := { frames := 0, cells := 0, slots := 0, locals := 0 }
def fJA_fill_0_b5 : Nat → xSt → Int32 → Int32 → Int32 → Option xSt
  | 0, _, _, _, _ => none
  | n + 1, σ, x1, x2, x3 =>
    if x3 ≤ x2 then
      some σ
    else
      if x2 < 0 ∨ 24 ≤ x2.toNatClampNeg then none else
      nm (sI σ 0 x2.toNatClampNeg x1) fun σ2 =>
      fJA_fill_0_b5 n σ2 x1 (x2 + (1 : Int32)) x3
set_option maxHeartbeats 4000000 in
set_option maxRecDepth 100000 in
theorem wJA_fill_0_b5 {p : Program} {l : Launch} {e : Env} {s : State} {m : MethodId} {args : Array Value} {below : List Frame} {meth : Method} {c : Code} {Q : State → Prop} {dC : Nat → ClassId} {dI : Nat → Nat → Nat} {ad : Nat → Nat} {cA : Nat → ClassId} {r : xSt} (C : CallFix p m c cJA_fill 4 s args wAll RJA) (hK : va_K (dC, dI) vwC (aT cA) s) (hend : ∀ (σ : xSt) (H : Heap) (locs : List Loc) (pc : Nat) (ls : Array Slot), σ = r → va_P (dC, dI) vwC (aW ad cA σ) H → va_S (aA ad) s.heap H locs → decode cJA_fill pc = .ok (.return_, 1) → W p l e rm_JA_fill_0 s m args below meth c H locs 0 0 Q (F0 m pc ls [])) :
    ∀ (n : Nat) (σ : xSt) (H : Heap) (locs : List Loc) (x1 : Int32) (x2 : Int32) (x3 : Int32) (ls : Array Slot), va_P (dC, dI) vwC (aW ad cA σ) H → va_D (aA ad) (aW ad cA σ) → va_S (aA ad) s.heap H locs → lv_has ls 4 [(0, .ref (ad 0)), (1, .int (x1)), (2, .int (x2)), (3, .int (x3))] → fJA_fill_0_b5 n σ x1 x2 x3 = some r → W p l e rm_JA_fill_0 s m args below meth c H locs 0 0 Q (F0 m 5 ls []) := by
  obtain ⟨hx, hb, hml, hown, hts⟩ := id C
  intro n
  induction n with
  | zero =>
    intro σ H locs x1 x2 x3 ls hP hD hS hl h
    rw [fJA_fill_0_b5] at h
    cases h
  | succ n ih =>
    intro σ H locs x1 x2 x3 ls hP hD hS hl h
    rw [fJA_fill_0_b5] at h
    refine lv_iload_n hx hb dJA_fill_5 rfl (lv_at hl 2 rfl) ?_
    refine lv_iload_n hx hb dJA_fill_6 rfl (lv_at hl 3 rfl) ?_
    refine lv_icmp_ge (tgt := 20) hx hb dJA_fill_7 (by decide) (fun c3 => ?_) (fun c3 => ?_)
    · have h := (if_pos c3).symm.trans h
      exact hend _ _ _ _ _ (Option.some.inj h) hP hS dJA_fill_20
    · have h := (if_neg c3).symm.trans h
      refine lv_aload_n hx hb dJA_fill_10 rfl (lv_at hl 0 rfl) ?_
      refine lv_iload_n hx hb dJA_fill_11 rfl (lv_at hl 2 rfl) ?_
      refine lv_iload_n hx hb dJA_fill_12 rfl (lv_at hl 1 rfl) ?_
      obtain ⟨b1, h⟩ := gx_nb h
      refine va_iast hx hb hK hP hD hS 0 0 rfl rfl b1 dJA_fill_13 (fun H locs hP hD hS => ?_)
      obtain ⟨σ2, eσ2⟩ : ∃ z, z = sI σ 0 x2.toNatClampNeg x1 := ⟨_, rfl⟩
      have hP : va_P (dC, dI) vwC (aW ad cA σ2) H := by rw [eσ2]; exact hP
      have hD : va_D (aA ad) (aW ad cA σ2) := by rw [eσ2]; exact hD
      have h := nm_at eσ2 h
      refine lv_iinc (v := x2 + (1 : Int32)) (lv' := [(2, .int (x2 + (1 : Int32))), (0, .ref (ad 0)), (1, .int (x1)), (3, .int (x3))]) hx hb dJA_fill_14 hl (k := 2) rfl rfl (by decide) rfl (fun ls hl => ?_)
      refine lv_goto (tgt := 5) hx hb dJA_fill_17 (by decide) ?_
      exact ih _ _ _ _ _ _ _ hP hD hS (lv_sub hl [1, 2, 0, 3] rfl) h
def fJA_fill_0 (σ : xSt) (x1 : Int32) : Option xSt :=
  fJA_fill_0_b5 gF σ x1 (0 : Int32) (24 : Int32)
set_option maxHeartbeats 4000000 in
set_option maxRecDepth 100000 in
theorem wJA_fill_0 {p : Program} {l : Launch} {e : Env} {s : State} {m : MethodId} {args : Array Value} {below : List Frame} {meth : Method} {c : Code} {Q : State → Prop} {dC : Nat → ClassId} {dI : Nat → Nat → Nat} {ad : Nat → Nat} {cA : Nat → ClassId} {r : xSt} (C : CallFix p m c cJA_fill 4 s args wAll RJA) (hK : va_K (dC, dI) vwC (aT cA) s) (hend : ∀ (σ : xSt) (H : Heap) (locs : List Loc) (pc : Nat) (ls : Array Slot), σ = r → va_P (dC, dI) vwC (aW ad cA σ) H → va_S (aA ad) s.heap H locs → decode cJA_fill pc = .ok (.return_, 1) → W p l e rm_JA_fill_0 s m args below meth c H locs 0 0 Q (F0 m pc ls [])) {H : Heap} {locs : List Loc} {σ : xSt} (hP : va_P (dC, dI) vwC (aW ad cA σ) H) (hD : va_D (aA ad) (aW ad cA σ)) (hS : va_S (aA ad) s.heap H locs) {x1 : Int32} (ls : Array Slot) (hl : lv_has ls 4 [(0, .ref (ad 0)), (1, .int (x1))]) (h : fJA_fill_0 σ x1 = some r) : W p l e rm_JA_fill_0 s m args below meth c H locs 0 0 Q (F0 m 0 ls []) := by
  obtain ⟨hx, hb, hml, hown, hts⟩ := id C
  unfold fJA_fill_0 at h
  refine lv_iconst (v := (0 : Int32)) hx hb dJA_fill_0 (by decide) ?_
  refine lv_istore_n (lv' := [(2, .int ((0 : Int32))), (0, .ref (ad 0)), (1, .int (x1))]) hx hb dJA_fill_1 rfl hl (by decide) rfl (fun ls hl => ?_)
  refine lv_aload_n hx hb dJA_fill_2 rfl (lv_at hl 1 rfl) ?_
  refine va_alen (v := (24 : Int32)) hx hb hK hP 0 0 rfl rfl rfl dJA_fill_3 ?_
  refine lv_istore_n (lv' := [(3, .int ((24 : Int32))), (2, .int ((0 : Int32))), (0, .ref (ad 0)), (1, .int (x1))]) hx hb dJA_fill_4 rfl hl (by decide) rfl (fun ls hl => ?_)
  exact wJA_fill_0_b5 C hK hend _ _ _ _ _ _ _ _ hP hD hS (lv_sub hl [2, 3, 1, 0] rfl) h
set_option maxHeartbeats 4000000 in
set_option maxRecDepth 100000 in
theorem kJA_fill_0 (l : Launch) (dC : Nat → ClassId) (dI : Nat → Nat → Nat) (ad : Nat → Nat) (cA : Nat → ClassId) (σ : xSt) (x1 : Int32) (r : xSt) (h : fJA_fill_0 σ x1 = some r) : Met l yJA_fill wsJA_fill rm_JA_fill_0 (va_Pc [.ref (ad 0), .int (x1)] (fun U => va_P (dC, dI) vwC (aW ad cA σ) U.heap ∧ va_K (dC, dI) vwC (aT cA) U ∧ va_D (aA ad) (aW ad cA σ))) (va_Qv (fun u : xSt => u = r) (fun u t => va_P (dC, dI) vwC (aW ad cA u) t.heap) (aA ad)) 0 0 (aA ad) := by
  refine Met.ofW (cc := cJA_fill) (maxL := 4) (ret := none) (by decide) rfl ?_
  intro p e s m args below meth c s₁ B hml hv
  obtain ⟨rfl, hP, hK, hD⟩ := hv
  have hr := B.returns
  have hlocks := B.notSynchronized
  have hl := lv_entry ([.ref (ad 0), .int (x1)]) (n := 4) (Nat.le_of_ble_eq_true rfl)
  rw [lg_entry_eq]
  exact wJA_fill_0 ⟨B.exec, B.bytes, hml, findClass_of_methodNamed B.named, fun w h => atoms_spec (ws := wsJA_fill) B.pre w (List.mem_cons_of_mem _ h)⟩ hK (fun σ H locs pc ls hv hP hS hd => W.vret B.exec B.bytes hr (fun t ht hW => ⟨⟨σ, rfl, hv, by show va_P _ _ _ t.heap; rw [ht]; exact hP⟩, hS.F ht⟩) hS.2.2 hd) hP hD va_S.rf _ hl h
def tabF : Nat → Int64 := fun j => match j with
  | 0 => 1
  | 1 => 14
  | 2 => 12
  | 3 => 8
  | 4 => 272
  | 5 => 800
  | 6 => 832
  | 7 => 896
  | 8 => 256
  | 9 => 768
  | 10 => 1099511564272
  | _ => 0
theorem tabF_big {k : Nat} (h : 11 ≤ k) : tabF k = 0 := by
  unfold tabF
  match k, h with
  | k + 11, _ => rfl
theorem tabF_cpy : va_cpy tabF (fun _ => (0 : Int64)) 0 0 11 = tabF := by
  funext k
  unfold va_cpy
  by_cases h : 0 ≤ k ∧ k < 0 + 11
  · rw [if_pos h]
    congr 1
    omega
  · rw [if_neg h, tabF_big (by omega)]
def fill0 : xSt := (fun _ _ => 0, fun _ _ => 0)
def fillN : Nat → xSt
  | 0 => fill0
  | n + 1 => sI (fillN n) 0 n (-1)
def fill1 : xSt := fillN 24
theorem fill_loop : ∀ (d i n : Nat), i + d = 24 → d < n → fJA_fill_0_b5 n (fillN i) (-1) (nI i) (24 : Int32) = some fill1 := by
  intro d
  induction d with
  | zero =>
    intro i n hi hn
    obtain ⟨n, rfl⟩ : ∃ z, n = z + 1 := ⟨n - 1, by omega⟩
    have e : i = 24 := by omega
    subst e
    rw [fJA_fill_0_b5]
    rfl
  | succ d ih =>
    intro i n hi hn
    obtain ⟨n, rfl⟩ : ∃ z, n = z + 1 := ⟨n - 1, by omega⟩
    rw [fJA_fill_0_b5]
    have c1 : ¬ (24 : Int32) ≤ nI i := nI_ge (a := i) (b := 24) (by omega) (by omega)
    rw [if_neg c1, if_neg (vp_in_nI (n := i) (N := 24) (by omega) (by omega))]
    have e : (nI i).toNatClampNeg = i := nI_clamp (by omega)
    rw [e]
    have h := ih (i + 1) n (by omega) (by omega)
    rw [nI_succ] at h
    exact h
theorem fill_ok : fJA_fill_0 fill0 (-1) = some fill1 := fill_loop 24 0 gF (by omega) (by unfold gF; omega)
theorem gx_pick {A : Nat → Prop} {ws ws' : va_W} (_hD : va_D A ws) (is : List Nat) (hs : is.map (fun i => ws[i]?) = ws'.map some) : ∀ (k : Nat) (q : Nat × va_E), ws'[k]? = some q → ∃ j, ws[j]? = some q ∧ j ∈ is := by
  intro k q hq
  have e : (ws'.map some)[k]? = some (some q) := by rw [List.getElem?_map, hq]; rfl
  rw [← hs, List.getElem?_map] at e
  cases hi : is[k]? with
  | none => rw [hi] at e; cases e
  | some j =>
    rw [hi] at e
    exact ⟨j, Option.some.inj e, List.mem_of_getElem? hi⟩
section COPYT
variable {p : Program} {l : Launch} {e : Env} {R : Room} {s : State} {m : MethodId} {args : Array Value} {below : List Frame} {meth : Method} {c : Code} {H : Heap} {locs : List Loc} {cells slots : Nat} {Q : State → Prop}
variable {cc : ByteArray} {pc : Nat} {ls : Array Slot} {rest : List Value} {D : va_G} {cl : List vw_C} {A : Nat → Prop} {a : Nat} {tys : List (ClassId × FieldType)} {ws : va_W}
/-- a stretch of a static table of longs, copied into an array of ours -/
theorem gx_copyt (hexec : p.tables.exec = Jvm.exec) (hb : c.code = cc) (hml : c.maxLocals = ls.size) {own : String} {index : Nat} (hown : s.vm.findClass own = some m.cls) (hlink : (Cond.methodLink own index arraycopyName).before args s = true) (hnat : (Cond.native arraycopyName).before args s = true) (hstat : (Cond.static arraycopyName).before args s = true) (hini : (Cond.initialized "java/lang/System").before args s = true)
    (hK : va_K D cl tys s) (hP : va_P D cl ws H) (hD : va_D A ws) (hS : va_S A s.heap H locs) {t0 n0 : Nat} {f : Nat → Int64} (hT : va_T .long t0 n0 (fun j => .long (f j)) A s s.heap) (q1 t1 : Nat) {c1 : ClassId} {n1 : Nat} {g : Nat → Int64} (ha1 : ws[q1]? = some (a, .inl (c1, n1, .inr (.inl g)))) (ht1 : tys[t1]? = some (c1, .long))
    {n : Int32} {N : Nat} (hN : n.toInt = (N : Int)) (hNc : n.toNatClampNeg = N) (h4 : N ≤ n0) (h5 : N ≤ n1) (hframes : 1 ≤ R.frames) (hlocals : (rest.map fun v => v.category).sum + (nativeFrameWords "java/lang/System" "arraycopy" 5 + 11) ≤ R.locals) (hdg : decode cc pc = .ok (.invokestatic index, 3))
    (kk : ∀ (H1 : Heap) (locs1 : List Loc), va_P D cl (ws.set q1 (a, .inl (c1, n1, .inr (.inl (va_cpy f g 0 0 N))))) H1 → va_D A (ws.set q1 (a, .inl (c1, n1, .inr (.inl (va_cpy f g 0 0 N))))) → va_S A s.heap H1 locs1 → W p l e R s m args below meth c H1 locs1 cells slots Q (F0 m (pc + 3) ls rest)) : W p l e R s m args below meth c H locs cells slots Q (F0 m pc ls (.int n :: .int 0 :: .ref a :: .int 0 :: .ref t0 :: rest)) := by
  intro T hTT X
  obtain ⟨cs, hs1, ⟨hs6, k0, hk0, cm0, hkk0⟩, hs3, hs4, -, hs5, hs7⟩ := hT
  have hc0 : H[t0]? = some cs := by rw [hS.2.1 t0 (Array.getElem?_eq_some_iff.mp hs1).1 hs7]; exact hs1
  have hc1 : H[a]? = some (vp_cell c1 (n1, .inr (.inl g))) := hP q1 _ ha1
  obtain ⟨-, k1, hk1, cm1, hkk1⟩ := (hK.2 t1 _ ht1).1 n1 (fun j => .long (g j))
  have h0 : ¬ (0 : Int32) < 0 := by decide
  have hn0 : ¬ n < 0 := by
    intro h
    have h2 := Int32.lt_iff_toInt_lt.mp h
    have h3 : (0 : Int32).toInt = 0 := by decide
    omega
  have z0 : (0 : Int32).toInt = 0 := by decide
  have zc : (0 : Int32).toNatClampNeg = 0 := by decide
  obtain ⟨vm', X', step⟩ := X.arraycopy hexec hown hlink hnat hstat hini (src := t0) (dst := a) (cs := cs) (cd := vp_cell c1 (n1, .inr (.inl g))) (srcPos := 0) (destPos := 0) (n := n) (by rw [hTT]; exact hc0) (by rw [hTT]; exact hc1)
    hs6 (fun _ h => by cases h) hs3 (fun h => by cases h) hk0 hk1 hkk0 hkk1 (by simp [refKind]) h0 h0 hn0
    (by rw [z0, hN]; omega)
    (by rw [z0, hN]; show ¬ _ > ((arrV c1 n1 (fun j => .long (g j))).slots.size : Int); rw [arrV_size]; omega)
    (fun vm₁ _ i hi => by
      have ev : cs.slots.getD ((0 : Int32).toNatClampNeg + i) .null = .long (f ((0 : Int32).toNatClampNeg + i)) := by
        rw [Array.getD_eq_getD_getElem?, hs5 _ (by rw [zc]; omega)]
        rfl
      refine ⟨?_, ?_⟩
      · rw [ev]
        rfl
      · rw [ev]
        exact trivial)
    (g := F0 m pc ls (.int n :: .int 0 :: .ref a :: .int 0 :: .ref t0 :: rest)) rfl (by rw [hml]) (rest := rest) rfl (by rw [hb]; exact hdg) hframes (by show 2 * 0 + _ + _ ≤ _; omega)
  have e1 : copied cs (vp_cell c1 (n1, .inr (.inl g))) 0 0 n = vp_cell c1 (n1, .inr (.inl (va_cpy f g 0 0 N))) := by
    have := va_copiedX (fun z => Value.long z) cs c1 (n1 := n1) (sp := 0) (dp := 0) (n := N) f g hs5 (by omega)
    rw [← hNc] at this ⊢
    exact this
  rw [e1] at X' step
  generalize vp_cell c1 (n1, .inr (.inl (va_cpy f g 0 0 N))) = nc at X' step e1
  subst e1
  have hl : a < H.size := (Array.getElem?_eq_some_iff.mp hc1).1
  have e2 : copied cs (vp_cell c1 (n1, .inr (.inl g))) 0 0 n = vp_cell c1 (n1, .inr (.inl (va_cpy f g 0 0 N))) := by
    have := va_copiedX (fun z => Value.long z) cs c1 (n1 := n1) (sp := 0) (dp := 0) (n := N) f g hs5 (by omega)
    rw [← hNc] at this ⊢
    exact this
  have oq : ∀ q : Nat, q ≠ a → (H.setIfInBounds a (copied cs (vp_cell c1 (n1, .inr (.inl g))) 0 0 n))[q]? = H[q]? := fun q hq => by simp [Array.getElem?_setIfInBounds, Ne.symm hq]
  obtain ⟨t, a1, b1⟩ := kk (H.setIfInBounds a (copied cs (vp_cell c1 (n1, .inr (.inl g))) 0 0 n)) _ (hP.set hD ha1 (show (H.setIfInBounds a _)[a]? = some _ by rw [e2]; simp [Array.getElem?_setIfInBounds, hl]) oq) (hD.set ha1) ⟨by simp; exact hS.1, fun q g1 g2 => by
      rw [oq q (fun e => g2 (by rw [e]; exact hD.2 q1 _ ha1))]
      exact hS.2.1 q g1 g2, fun q hq => by
      rcases List.mem_append.mp hq with h | h
      · exact hS.2.2 q h
      · obtain ⟨z, -, hz⟩ := List.mem_map.mp h
        rw [← hz]
        exact hD.2 q1 _ ha1⟩ _ (by rw [← hTT]; rfl) X'
  exact ⟨t, step t a1, b1⟩
end COPYT
set_option maxHeartbeats 4000000 in
set_option maxRecDepth 100000 in
theorem kJA_copyOf (l : Launch) (dC : Nat → ClassId) (dI : Nat → Nat → Nat) (t0 sz : Nat) : Met l yJA_copyOf wsJA_copyOf ({ frames := 1, cells := 1, slots := 40, locals := 80 }) (va_Pc [.ref t0, .int 40] (fun U => U.heap.size = sz ∧ va_K (dC, dI) vwC [] U ∧ va_T .long t0 11 (fun j => .long (tabF j)) (fun q => sz ≤ q) U U.heap)) (va_Qr (fun (_ : Unit) => True) (fun (_ : Unit) a t => ∃ c1 : ClassId, va_P (dC, dI) vwC [(a, .inl (c1, 40, .inr (.inl tabF)))] t.heap ∧ va_K (dC, dI) vwC [(c1, .long)] t ∧ va_D (fun q => sz ≤ q) [(a, .inl (c1, 40, .inr (.inl tabF)))]) (fun q => sz ≤ q)) 1 40 (fun q => sz ≤ q) := by
  refine Met.ofW (cc := cJA_copyOf) (maxL := 3) (ret := some (.array .long)) (by decide) rfl ?_
  intro p e s m args below meth c s₁ B hml hv
  obtain ⟨rfl, hsz, hK, hT⟩ := hv
  have hx := B.exec
  have hb := B.bytes
  have hr := B.returns
  have hts : ∀ w ∈ wAll, w.before _ s = true := fun w h => atoms_spec (ws := wsJA_copyOf) B.pre w (List.mem_cons_of_mem _ h)
  have hown : s.vm.findClass RJA = some m.cls := findClass_of_methodNamed B.named
  have hlocks := B.notSynchronized
  subst hsz
  have hA : ∀ q : Nat, s.heap.size ≤ q → (fun q : Nat => s.heap.size ≤ q) q := fun _ h => h
  have hS : va_S (fun q : Nat => s.heap.size ≤ q) s.heap s.heap [] := va_S.rf
  have hP : va_P (dC, dI) vwC [] s.heap := fun k q h => by simp at h
  have hD : va_D (fun q : Nat => s.heap.size ≤ q) [] := ⟨fun i j p q h => by simp at h, fun k q h => by simp at h⟩
  have hl := lv_entry ([.ref t0, .int 40]) (n := 3) (Nat.le_of_ble_eq_true rfl)
  rw [lg_entry_eq]
  generalize (lg_sl ([.ref t0, .int 40]) ++ List.replicate (3 - (lg_sl ([.ref t0, .int 40])).length) Slot.unset).toArray = ls at hl ⊢
  have hl : lv_has ls 3 [(0, .ref t0), (1, .int 40)] := hl
  refine lv_iload_n hx hb dJA_copyOf_0 rfl (lv_at hl 1 rfl) ?_
  refine lv_aload_n hx hb dJA_copyOf_1 rfl (lv_at hl 0 rfl) ?_
  refine va_tlen (v := (11 : Int32)) hx hb hT hS rfl dJA_copyOf_2 ?_
  refine lv_icmp_ne (tgt := 14) hx hb dJA_copyOf_3 (by decide) (fun _ => ?_) (fun c9 => absurd c9 (by decide))
  refine lv_iload_n hx hb dJA_copyOf_14 rfl (lv_at hl 1 rfl) ?_
  refine va_newa (atype := .long) (N' := 40) (a0 := (40, .inr (.inl (fun _ => (0 : Int64))))) hx hb (hts _ mw_632) rfl hK hP hD hS hA (fun cA => rfl) (by decide) (by decide) (by decide) (Nat.le_of_ble_eq_true rfl) (Nat.le_of_ble_eq_true rfl) dJA_copyOf_15 (fun q1 c1 H hK hP hD hS => ?_)
  have hP : va_P (dC, dI) vwC [(q1, .inl (c1, 40, .inr (.inl (fun _ => (0 : Int64)))))] H := hP
  have hD : va_D (fun q : Nat => s.heap.size ≤ q) [(q1, .inl (c1, 40, .inr (.inl (fun _ => (0 : Int64)))))] := hD
  have hK : va_K (dC, dI) vwC [(c1, .long)] s := hK
  refine W.widen (k := 1) (n := 40) (Nat.le_of_ble_eq_true rfl) (Nat.le_of_ble_eq_true rfl) ?_
  refine lv_astore_n (lv' := [(2, .ref q1), (0, .ref t0), (1, .int 40)]) hx hb dJA_copyOf_17 rfl hl (by decide) rfl (fun ls hl => ?_)
  refine lv_aload_n hx hb dJA_copyOf_18 rfl (lv_at hl 1 rfl) ?_
  refine lv_iconst (v := (0 : Int32)) hx hb dJA_copyOf_19 (by decide) ?_
  refine lv_aload_n hx hb dJA_copyOf_20 rfl (lv_at hl 0 rfl) ?_
  refine lv_iconst (v := (0 : Int32)) hx hb dJA_copyOf_21 (by decide) ?_
  refine lv_aload_n hx hb dJA_copyOf_22 rfl (lv_at hl 1 rfl) ?_
  refine va_tlen (v := (11 : Int32)) hx hb hT hS rfl dJA_copyOf_23 ?_
  refine lv_iload_n hx hb dJA_copyOf_24 rfl (lv_at hl 2 rfl) ?_
  refine va_mmin hx hb (by rw [hml]; exact hl.1.symm) hown (hts _ mw_624) (hts _ mw_625) (hts _ mw_626) (hts _ mw_627) (Nat.le_of_ble_eq_true rfl) (Nat.le_of_ble_eq_true rfl) (Nat.le_of_ble_eq_true rfl) (Nat.le_of_ble_eq_true rfl) dJA_copyOf_25 ?_
  rw [if_neg (show ¬ (40 : Int32) < 11 by decide)]
  refine gx_copyt hx hb (by rw [hml]; exact hl.1.symm) hown (hts _ mw_628) (hts _ mw_629) (hts _ mw_630) (hts _ mw_631) hK hP hD hS hT 0 0 rfl rfl (N := 11) (by decide) (by decide) (by decide) (by decide) (Nat.le_of_ble_eq_true rfl) (Nat.le_of_ble_eq_true rfl) dJA_copyOf_28 (fun H locs hP hD hS => ?_)
  rw [tabF_cpy] at hP hD
  have hP : va_P (dC, dI) vwC [(q1, .inl (c1, 40, .inr (.inl tabF)))] H := hP
  have hD : va_D (fun q : Nat => s.heap.size ≤ q) [(q1, .inl (c1, 40, .inr (.inl tabF)))] := hD
  refine lv_aload_n hx hb dJA_copyOf_31 rfl (lv_at hl 0 rfl) ?_
  exact W.aret (v := .ref q1) hx hb hr (Or.inr ⟨_, rfl⟩) (Or.inr ⟨_, rfl⟩) (fun t ht hW => ⟨⟨(), q1, rfl, trivial, c1, by rw [ht]; exact hP, va_K.moved hW.alike hK, hD⟩, hS.F ht⟩) hS.2.2 dJA_copyOf_32
