theorem jl1 : ∀ m, m < 64 → (jlshl (1 : Int64) (nI m)).toBitVec = BitVec.twoPow 64 m := by decide
theorem b64_or (w v : Int64) (u : Nat) : b64 (w ||| v) u = (b64 w u || b64 v u) := by
  unfold b64
  rw [Int64.toBitVec_or, BitVec.getLsbD_or]
theorem b64_bit {m : Nat} (hm : m < 64) (u : Nat) : b64 (jlshl (1 : Int64) (nI m)) u = decide (u = m) := by
  unfold b64
  rw [jl1 m hm, BitVec.getLsbD_twoPow]
  by_cases h : u = m
  · subst h; simp [hm]
  · have : ¬ m = u := fun z => h z.symm
    simp [h, this]
theorem b64_0 (u : Nat) : b64 (0 : Int64) u = false := by
  unfold b64
  exact BitVec.getLsbD_zero
theorem b64_big (w : Int64) {u : Nat} (h : 64 ≤ u) : b64 w u = false := by
  unfold b64
  exact BitVec.getLsbD_of_ge _ _ h
theorem b64_ext {w v : Int64} (h : ∀ u, u < 64 → b64 w u = b64 v u) : w = v := by
  apply Int64.toBitVec_inj.mp
  apply BitVec.eq_of_getLsbD_eq
  intro i hi
  exact h i hi
/-- the class's state but for what the choice itself writes -/
def KX (σ σ' : xSt) : Prop := (∀ c, c ≠ 4 → c ≠ 21 → c ≠ 22 → σ'.1 c = σ.1 c) ∧ (∀ c, c ≠ 4 → c ≠ 23 → σ'.2 c = σ.2 c)
theorem KX_rf (σ : xSt) : KX σ σ := ⟨fun _ _ _ _ => rfl, fun _ _ _ => rfl⟩
theorem KX_tr {a b c : xSt} (h1 : KX a b) (h2 : KX b c) : KX a c := ⟨fun q g1 g2 g3 => (h2.1 q g1 g2 g3).trans (h1.1 q g1 g2 g3), fun q g1 g2 => (h2.2 q g1 g2).trans (h1.2 q g1 g2)⟩
theorem KX_I {σ : xSt} {k j : Nat} {v : Int32} (h : k = 4 ∨ k = 21 ∨ k = 22) : KX σ (sI σ k j v) := ⟨fun c g1 g2 g3 => sI_off (by omega), fun _ _ _ => rfl⟩
theorem KX_L {σ : xSt} {k j : Nat} {v : Int64} (h : k = 4 ∨ k = 23) : KX σ (sL σ k j v) := ⟨fun _ _ _ _ => rfl, fun c g1 g2 => sL_off (by omega)⟩
theorem AX_of {σ σ' : xSt} {a : Nat} {e : AD} (h2 : σ'.1 3 5 = σ.1 3 5) (hc : ∀ c, 16 ≤ c → c ≤ 20 → σ'.1 c = σ.1 c) (h : AX σ a e) : AX σ' a e := by
  unfold AX at *
  rw [h2, hc 16 (by decide) (by decide), hc 17 (by decide) (by decide), hc 18 (by decide) (by decide), hc 19 (by decide) (by decide), hc 20 (by decide) (by decide)]
  exact h
section CHX
variable {T n a : Nat} {d : MD} {fc : Nat → Prop} {R : Nat → Nat → Prop} {e : AD}
theorem KX_CX {σ σ' : xSt} (h : KX σ σ') (C : CX σ T n a d fc R e) : CX σ' T n a d fc R e := by
  obtain ⟨hW, hM, hT, hA, hWA, hF⟩ := C
  refine ⟨hW, MX_of (by rw [h.1 2 (by decide) (by decide) (by decide)]) (fun c g1 g2 => h.1 c (by omega) (by omega) (by omega)) hM, TX_of (by rw [h.1 1 (by decide) (by decide) (by decide)]) (h.1 8 (by decide) (by decide) (by decide)) (h.2 6 (by decide) (by decide)) hT, AX_of (by rw [h.1 3 (by decide) (by decide) (by decide)]) (fun c g1 g2 => h.1 c (by omega) (by omega) (by omega)) hA, hWA, ?_⟩
  intro k hk
  rw [h.1 15 (by decide) (by decide) (by decide)]
  exact hF k hk
theorem cnt_sub {P Q : Nat → Prop} (h : ∀ k, Q k → P k) : ∀ m, cntP Q m ≤ cntP P m := by
  intro m
  induction m with
  | zero => exact Nat.le_refl 0
  | succ m ih =>
    by_cases hq : Q m
    · rw [cnt_y hq, cnt_y (h m hq)]; omega
    · rw [cnt_n hq]
      by_cases hp : P m
      · rw [cnt_y hp]; omega
      · rw [cnt_n hp]; exact ih
theorem x_keep_loop {P : Nat → Prop} : ∀ (r m f : Nat) (σ : xSt), m + r = n → r < f → CX σ T n a d fc R e → σ.1 4 6 = nI (cntP P n) → (∀ k, m ≤ k → k < n → P k → σ.1 21 (cntP P k) = nI k) → (∀ k, k < m → (P k ∧ ME d R T n a fc e k) → σ.1 21 (cntP (fun k => P k ∧ ME d R T n a fc e k) k) = nI k) → ∃ σ', fC4_keepMeant_b4 f σ (nI (cntP (fun k => P k ∧ ME d R T n a fc e k) m)) (nI (cntP P m)) = some σ' ∧ KX σ σ' ∧ σ'.1 4 6 = nI (cntP (fun k => P k ∧ ME d R T n a fc e k) n) ∧ (∀ k, k < n → (P k ∧ ME d R T n a fc e k) → σ'.1 21 (cntP (fun k => P k ∧ ME d R T n a fc e k) k) = nI k) ∧ (∀ j, j ≠ 6 → σ'.1 4 j = σ.1 4 j) ∧ σ'.2 = σ.2 := by
  have z1 : ¬ (1 : Int32) = 0 := by decide
  generalize hQ : (fun k => P k ∧ ME d R T n a fc e k) = Q
  have hQi : ∀ k, Q k ↔ (P k ∧ ME d R T n a fc e k) := fun k => by rw [← hQ]
  intro r
  induction r with
  | zero =>
    intro m f σ hm hf C hc h1 h2
    have hn := C.2.1.2.1
    obtain ⟨f, rfl⟩ : ∃ z, f = z + 1 := ⟨f - 1, by omega⟩
    have e : m = n := by omega
    subst e
    have := cnt_le (P := P) m
    rw [fC4_keepMeant_b4, hc, if_pos (by rw [leN (by omega) (by omega)]; omega)]
    refine ⟨sI σ 4 6 (nI (cntP Q m)), rfl, KX_I (Or.inl rfl), sI_on, fun k hk hq => ?_, fun j hj => sI_ne (fun z => hj z.2), rfl⟩
    rw [sI_off (by decide)]
    exact h2 k hk ((hQi k).mp ((hQi k).mpr hq))
  | succ r ih =>
    intro m f σ hm hf C hc h1 h2
    have hn := C.2.1.2.1
    have c1 := cnt_le (P := P) m
    have c2 := cnt_sub (P := P) (Q := Q) (fun k hk => ((hQi k).mp hk).1) m
    by_cases hp : P m
    · obtain ⟨f, rfl⟩ : ∃ z, f = z + 1 := ⟨f - 1, by omega⟩
      have hlt := cnt_lt hp (show m < n by omega)
      have c3 := cnt_le (P := P) n
      rw [fC4_keepMeant_b4, hc, if_neg (by rw [leN (by omega) (by omega)]; omega), ifin (by omega) (by omega), clN (by omega), h1 m (Nat.le_refl m) (by omega) hp]
      unfold fC4_keepMeant_b40
      rw [sc1]
      rcases x_meant C (m := m) (by omega) with ⟨g, e1⟩ | ⟨g, e1⟩
      · have hq : Q m := (hQi m).mpr ⟨hp, g⟩
        rw [e1, Option.bind_some, if_neg z1, ifin2 (by omega) (by omega), ifin (by omega) (by omega), nmE, clN (by omega), sc1]
        have h := ih (m + 1) f (sI σ 21 (cntP Q m) (nI m)) (by omega) (by omega) (KX_CX (KX_I (Or.inr (Or.inl rfl))) C) (by rw [sI_off (by decide)]; exact hc) (fun k g1 g2 g3 => by
          have := cnt_lt hp (show m < k by omega)
          rw [sI_ne (fun z => by omega)]
          exact h1 k (by omega) g2 g3) (fun k g1 g2 => by
          by_cases q : k = m
          · subst q; rw [sI_on]
          · have hk : Q k := (hQi k).mpr g2
            rw [sI_ne (fun z => q (cnt_inj hk hq z.2))]
            exact h2 k (by omega) g2)
        rw [cnt_y hp, cnt_y hq] at h
        obtain ⟨σ', k1, k2, k3, k4, k5, k6⟩ := h
        exact ⟨σ', k1, KX_tr (KX_I (Or.inr (Or.inl rfl))) k2, k3, k4, fun j hj => by rw [k5 j hj, sI_off (by decide)], k6⟩
      · have hq : ¬ Q m := fun z => g ((hQi m).mp z).2
        rw [e1, Option.bind_some, if_pos rfl]
        have h := ih (m + 1) f σ (by omega) (by omega) C hc (fun k g1 g2 g3 => h1 k (by omega) g2 g3) (fun k g1 g2 => by
          by_cases q : k = m
          · subst q; exact absurd ((hQi k).mpr g2) hq
          · exact h2 k (by omega) g2)
        rw [cnt_y hp, cnt_n hq] at h
        exact h
    · have hq : ¬ Q m := fun z => hp ((hQi m).mp z).1
      have h := ih (m + 1) f σ (by omega) (by omega) C hc (fun k g1 g2 g3 => h1 k (by omega) g2 g3) (fun k g1 g2 => by
        by_cases q : k = m
        · subst q; exact absurd ((hQi k).mpr g2) hq
        · exact h2 k (by omega) g2)
      rw [cnt_n hp, cnt_n hq] at h
      exact h
theorem x_find_app_loop {Q : Nat → Prop} {ph : Nat} (hp : 1 ≤ ph ∧ ph ≤ 3) (hQ : ∀ k, Q k → cn d k = a ∨ (VA d k ∧ cn d k ≤ a + 1)) : ∀ (r m f : Nat) (σ : xSt), m + r = n → r < f → CX σ T n a d fc R e → σ.1 4 6 = nI (cntP Q n) → (∀ k, k < n → Q k → σ.1 21 (cntP Q k) = nI k) → σ.1 4 7 = nI (cntP (fun k => Q k ∧ AP d R T n a fc e k ph) m) → (∀ k, k < m → (Q k ∧ AP d R T n a fc e k ph) → σ.1 22 (cntP (fun k => Q k ∧ AP d R T n a fc e k ph) k) = nI k) → (∀ u, u < 64 → (b64 (σ.2 4 8) u = true ↔ (u < m ∧ (Q u ∧ AP d R T n a fc e u ph)))) → ((σ.1 4 9 = nI ph ∧ 0 < cntP (fun k => Q k ∧ AP d R T n a fc e k ph) m) ∨ (σ.1 4 9 = 0 ∧ cntP (fun k => Q k ∧ AP d R T n a fc e k ph) m = 0)) → ∃ σ', fC4_findApplying_b2 f σ (nI ph) (nI (cntP Q m)) = some σ' ∧ KX σ σ' ∧ σ'.1 4 6 = nI (cntP Q n) ∧ σ'.1 21 = σ.1 21 ∧ σ'.1 4 7 = nI (cntP (fun k => Q k ∧ AP d R T n a fc e k ph) n) ∧ (∀ k, k < n → (Q k ∧ AP d R T n a fc e k ph) → σ'.1 22 (cntP (fun k => Q k ∧ AP d R T n a fc e k ph) k) = nI k) ∧ (∀ u, u < 64 → (b64 (σ'.2 4 8) u = true ↔ (u < n ∧ (Q u ∧ AP d R T n a fc e u ph)))) ∧ ((σ'.1 4 9 = nI ph ∧ 0 < cntP (fun k => Q k ∧ AP d R T n a fc e k ph) n) ∨ (σ'.1 4 9 = 0 ∧ cntP (fun k => Q k ∧ AP d R T n a fc e k ph) n = 0)) ∧ σ'.2 23 = σ.2 23 := by
  have z1 : ¬ (1 : Int32) = 0 := by decide
  generalize hA : (fun k => Q k ∧ AP d R T n a fc e k ph) = A
  have hAi : ∀ k, (Q k ∧ AP d R T n a fc e k ph) ↔ A k := fun k => by rw [← hA]
  simp only [hAi]
  intro r
  induction r with
  | zero =>
    intro m f σ hm hf C hc h1 h2 h3 h4 h5
    have hn := C.2.1.2.1
    obtain ⟨f, rfl⟩ : ∃ z, f = z + 1 := ⟨f - 1, by omega⟩
    have e : m = n := by omega
    subst e
    have := cnt_le (P := Q) m
    rw [fC4_findApplying_b2, hc, if_pos (by rw [leN (by omega) (by omega)]; omega)]
    exact ⟨σ, rfl, KX_rf σ, hc, rfl, h2, h3, h4, h5, rfl⟩
  | succ r ih =>
    intro m f σ hm hf C hc h1 h2 h3 h4 h5
    have hn := C.2.1.2.1
    have c1 := cnt_le (P := Q) m
    have c2 := cnt_sub (P := Q) (Q := A) (fun k hk => ((hAi k).mpr hk).1) m
    by_cases hq : Q m
    · obtain ⟨f, rfl⟩ : ∃ z, f = z + 1 := ⟨f - 1, by omega⟩
      have hlt := cnt_lt hq (show m < n by omega)
      have c3 := cnt_le (P := Q) n
      rw [fC4_findApplying_b2, hc, if_neg (by rw [leN (by omega) (by omega)]; omega), ifin (by omega) (by omega), nmE, clN (by omega), h1 m (by omega) hq]
      unfold fC4_findApplying_b63
      rw [sc1]
      rcases x_applies C (m := m) (by omega) hp (hQ m hq) with ⟨g, e1⟩ | ⟨g, e1⟩
      · have ha : A m := (hAi m).mp ⟨hq, g⟩
        rw [e1, Option.bind_some, if_neg z1, nmE]
        have v1 : (sI σ 4 9 (nI ph)).1 4 7 = nI (cntP A m) := by rw [sI_ne (by decide)]; exact h2
        rw [v1, ifin (by omega) (by omega), nmE, clN (by omega), nmE, nmE]
        generalize hs : sI (sL (sI (sI σ 4 9 (nI ph)) 22 (cntP A m) (nI m)) 4 8 ((sI (sI σ 4 9 (nI ph)) 22 (cntP A m) (nI m)).2 4 8 ||| jlshl 1 (nI m))) 4 7 ((sL (sI (sI σ 4 9 (nI ph)) 22 (cntP A m) (nI m)) 4 8 ((sI (sI σ 4 9 (nI ph)) 22 (cntP A m) (nI m)).2 4 8 ||| jlshl 1 (nI m))).1 4 7 + 1) = σ2
        have K2 : KX σ σ2 := by
          rw [← hs]
          exact KX_tr (KX_tr (KX_tr (KX_I (Or.inl rfl)) (KX_I (Or.inr (Or.inr rfl)))) (KX_L (Or.inl rfl))) (KX_I (Or.inl rfl))
        have u6 : σ2.1 4 6 = σ.1 4 6 := by rw [← hs, sI_ne (by decide)]; show (sI (sI σ 4 9 (nI ph)) 22 (cntP A m) (nI m)).1 4 6 = _; rw [sI_off (by decide), sI_ne (by decide)]
        have u21 : σ2.1 21 = σ.1 21 := by rw [← hs, sI_off (by decide)]; show (sI (sI σ 4 9 (nI ph)) 22 (cntP A m) (nI m)).1 21 = _; rw [sI_off (by decide), sI_off (by decide)]
        have u7 : σ2.1 4 7 = nI (cntP A m + 1) := by
          rw [← hs, sI_on]
          show (sI (sI σ 4 9 (nI ph)) 22 (cntP A m) (nI m)).1 4 7 + 1 = _
          rw [sI_off (by decide), v1, sc1]
        have u22 : σ2.1 22 = (sI σ 22 (cntP A m) (nI m)).1 22 := by rw [← hs, sI_off (by decide)]; rfl
        have u9 : σ2.1 4 9 = nI ph := by rw [← hs, sI_ne (by decide)]; show (sI (sI σ 4 9 (nI ph)) 22 (cntP A m) (nI m)).1 4 9 = _; rw [sI_off (by decide), sI_on]
        have u8 : σ2.2 4 8 = σ.2 4 8 ||| jlshl 1 (nI m) := by rw [← hs]; show vp_updL (σ.2 4) 8 (σ.2 4 8 ||| jlshl 1 (nI m)) 8 = _; exact pk_uLs
        have u23 : σ2.2 23 = σ.2 23 := by rw [← hs]; rfl
        have h := ih (m + 1) f σ2 (by omega) (by omega) (KX_CX K2 C) (by rw [u6]; exact hc) (fun k g1 g2 => by rw [u21]; exact h1 k g1 g2) (by rw [u7, cnt_y ha]) (fun k g1 g2 => by
          rw [u22]
          by_cases q : k = m
          · subst q; rw [sI_on]
          · rw [sI_ne (fun z => q (cnt_inj g2 ha z.2))]; exact h3 k (by omega) g2) (fun u hu => by
          rw [u8, b64_or, b64_bit (by omega)]
          by_cases q : u = m
          · subst q; simp [ha]
          · simp only [decide_eq_false q, Bool.or_false]
            rw [h4 u hu]
            constructor
            · intro z; exact ⟨by omega, z.2⟩
            · intro z; exact ⟨by omega, z.2⟩) (Or.inl ⟨u9, by rw [cnt_y ha]; omega⟩)
        rw [cnt_y hq] at h
        obtain ⟨σ', k1, k2, k3, k4, k5, k6, k7, k8, k9⟩ := h
        exact ⟨σ', k1, KX_tr K2 k2, k3, by rw [k4, u21], k5, k6, k7, k8, by rw [k9, u23]⟩
      · have ha : ¬ A m := fun z => g ((hAi m).mpr z).2
        rw [e1, Option.bind_some, if_pos rfl]
        have h := ih (m + 1) f σ (by omega) (by omega) C hc h1 (by rw [cnt_n ha]; exact h2) (fun k g1 g2 => by
          by_cases q : k = m
          · subst q; exact absurd g2 ha
          · exact h3 k (by omega) g2) (fun u hu => by
          rw [h4 u hu]
          constructor
          · intro z; exact ⟨by omega, z.2⟩
          · intro z; exact ⟨by have : u ≠ m := fun q => ha (q ▸ z.2); omega, z.2⟩) (by rw [cnt_n ha]; exact h5)
        rw [cnt_y hq] at h
        exact h
    · have ha : ¬ A m := fun z => hq ((hAi m).mpr z).1
      have h := ih (m + 1) f σ (by omega) (by omega) C hc h1 (by rw [cnt_n ha]; exact h2) (fun k g1 g2 => by
        by_cases q : k = m
        · subst q; exact absurd g2 ha
        · exact h3 k (by omega) g2) (fun u hu => by
        rw [h4 u hu]
        constructor
        · intro z; exact ⟨by omega, z.2⟩
        · intro z; exact ⟨by have : u ≠ m := fun q => ha (q ▸ z.2); omega, z.2⟩) (by rw [cnt_n ha]; exact h5)
      rw [cnt_n hq] at h
      exact h
end CHX
