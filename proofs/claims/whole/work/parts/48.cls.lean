section CLS
variable {σ τ : xSt} {T n a : Nat} {d : MD} {fc : Nat → Prop} {R : Nat → Nat → Prop} {e : AD} {p : Nat → Int} {c : Nat → Nat} {g : Nat → Nat → Nat} {ph : Nat} {A : Nat → Prop} {S : Nat → Nat → Prop}
theorem add_core (hB : RB σ τ T n a d fc R e p c g) (hX : LX σ ph A S) (hM : LM τ ph A S) (hT : T < 24) {fcv : Prop} {v : Int32} (hv : fl v fcv) {xr : Nat} {y : Int32} (hx : (xr = 8 ∧ y.toInt < 16) ∨ ∃ q, q < T ∧ xr = 16 + q ∧ y = nI (16 + q)) (hface : fcv → y.toInt < 16) : ∃ τ', fCM_closeTypes (sI (sI (sI (sI τ 2 T y) 1 T v) 3 T 0) 0 0 (nI (T + 1))) = some τ' ∧ τ'.1 0 0 = nI (T + 1) ∧ Rel (sI (sI (sL σ 6 (16 + T) ((σ.2 6 xr) ||| (jlshl (1 : Int64) (nI (16 + T))))) 8 T v) 1 3 (nI (T + 1))) τ' := by
  obtain ⟨⟨hW, hMX, hTX, hAX, hWA⟩, ⟨hMM, hTM, hAM⟩, hs, hj, hF, hEM, hEX, hC⟩ := id hB
  generalize hτ : sI (sI (sI (sI τ 2 T y) 1 T v) 3 T 0) 0 0 (nI (T + 1)) = τ1
  generalize hσ : sI (sI (sL σ 6 (16 + T) ((σ.2 6 xr) ||| (jlshl (1 : Int64) (nI (16 + T))))) 8 T v) 1 3 (nI (T + 1)) = σ'
  have rm : ∀ c i, ¬ (c = 0 ∧ i = 0) → ¬ (c = 3 ∧ i = T) → ¬ (c = 1 ∧ i = T) → ¬ (c = 2 ∧ i = T) → τ1.1 c i = τ.1 c i := fun c i g1 g2 g3 g4 => by rw [← hτ, sI_ne g1, sI_ne g2, sI_ne g3, sI_ne g4]
  have rx : ∀ c i, ¬ (c = 1 ∧ i = 3) → ¬ (c = 8 ∧ i = T) → σ'.1 c i = σ.1 c i := fun c i g1 g2 => by rw [← hσ, sI_ne g1, sI_ne g2]; rfl
  have rx1 : ∀ c, c ≠ 1 → c ≠ 8 → σ'.1 c = σ.1 c := fun c g1 g2 => by funext i; exact rx c i (by omega) (by omega)
  have rm1 : ∀ c, c ≠ 0 → c ≠ 1 → c ≠ 2 → c ≠ 3 → τ1.1 c = τ.1 c := fun c g1 g2 g3 g4 => by funext i; exact rm c i (by omega) (by omega) (by omega) (by omega)
  have x6 : ∀ s, σ'.2 6 s = if s = 16 + T then (σ.2 6 xr) ||| (jlshl (1 : Int64) (nI (16 + T))) else σ.2 6 s := fun s => by
    rw [← hσ]
    show (sL σ 6 (16 + T) ((σ.2 6 xr) ||| (jlshl (1 : Int64) (nI (16 + T))))).2 6 s = _
    rw [sL_2]
    by_cases q : s = 16 + T
    · rw [if_pos ⟨rfl, q⟩, if_pos q]
    · rw [if_neg (fun z => q z.2), if_neg q]
  have x2 : ∀ c, c ≠ 6 → σ'.2 c = σ.2 c := fun c hc => by
    rw [← hσ]
    show (sL σ 6 (16 + T) ((σ.2 6 xr) ||| (jlshl (1 : Int64) (nI (16 + T))))).2 c = _
    exact sL_off hc
  have u0 : τ1.1 0 0 = nI (T + 1) := by rw [← hτ, sI_on]
  have u3 : τ1.1 3 T = 0 := by rw [← hτ, sI_off (by decide), sI_on]
  have u1 : τ1.1 1 T = v := by rw [← hτ, sI_off (by decide), sI_off (by decide), sI_on]
  have u2 : τ1.1 2 T = y := by rw [← hτ, sI_off (by decide), sI_off (by decide), sI_off (by decide), sI_on]
  have hy : y.toInt < 16 + T := by
    rcases hx with ⟨_, h⟩ | ⟨q, h1, _, h2⟩
    · omega
    · rw [h2, nIt (by omega)]; omega
  have hE1 : EM τ1 (T + 1) (fun k => if k = T then y.toInt else p k) (fun k => if k = T then 0 else c k) g := by
    intro k hk
    by_cases q : k = T
    · subst q
      simp only [if_true]
      exact ⟨by rw [u2], by omega, by rw [u3]; rfl, by omega, fun i hi => by omega⟩
    · simp only [if_neg q]
      obtain ⟨a1, a2, a3, a4, a5⟩ := hEM k (by omega)
      exact ⟨by rw [rm 2 k (by omega) (by omega) (by omega) (by omega)]; exact a1, by omega, by rw [rm 3 k (by omega) (by omega) (by omega) (by omega)]; exact a3, a4, fun i hi => ⟨by rw [rm1 4 (by decide) (by decide) (by decide) (by decide)]; exact (a5 i hi).1, by have := (a5 i hi).2; omega⟩⟩
  obtain ⟨τ', k1, k2, k3, k4⟩ := m_close (by omega) u0 hE1
  have hQ : CL (T + 1) (ED (fun k => if k = T then y.toInt else p k) (fun k => if k = T then 0 else c k) g) (QA T R y.toInt) := by
    refine CL_add hC (fun k j hk hj' => ?_) (fun k hk z => ?_) (fun j hj' => ?_)
    · unfold ED
      have e1 : (fun k => if k = T then y.toInt else p k) k = p k := if_neg (by omega)
      have e2 : (fun k => if k = T then 0 else c k) k = c k := if_neg (by omega)
      rw [e1, e2]
    · unfold ED at z
      have e1 : (fun k => if k = T then y.toInt else p k) k = p k := if_neg (by omega)
      have e2 : (fun k => if k = T then 0 else c k) k = c k := if_neg (by omega)
      rw [e1, e2] at z
      obtain ⟨a1, a2, a3, a4, a5⟩ := hEM k hk
      rcases z with z | ⟨i, z1, z2⟩
      · omega
      · have := (a5 i z1).2
        omega
    · unfold ED
      have e1 : (fun k => if k = T then y.toInt else p k) T = y.toInt := if_pos rfl
      have e2 : (fun k => if k = T then 0 else c k) T = 0 := if_pos rfl
      rw [e1, e2]
      exact ⟨fun z => z.elim id (fun ⟨i, hi, _⟩ => by omega), Or.inl⟩
  have hR : ∀ k j, k < T + 1 → j < T + 1 → (Rm τ' k j ↔ QA T R y.toInt k j) := CL_uniq k4 hQ
  have hpv : (xr = 8 ∧ ∀ q, q < T → y.toInt ≠ ((16 + q : Nat) : Int)) ∨ ∃ q, q < T ∧ xr = 16 + q ∧ y.toInt = ((16 + q : Nat) : Int) := by
    rcases hx with ⟨h1, h2⟩ | ⟨q, h1, h2, h3⟩
    · exact Or.inl ⟨h1, fun q _ => by omega⟩
    · exact Or.inr ⟨q, h1, h2, by rw [h3, nIt (by omega)]⟩
  have hXB : XB σ' (T + 1) (Rm τ') := XB_add hT hTX.2.2.2 hR hC.1 hpv (fun s hs => by rw [x6, if_neg hs]) (by rw [x6, if_pos rfl])
  have hI : ∀ i j, i < T → j < T → (isI R T ((16 + i : Nat) : Int) ((16 + j : Nat) : Int) ↔ isI (Rm τ') (T + 1) ((16 + i : Nat) : Int) ((16 + j : Nat) : Int)) := by
    intro i j hi hj'
    rw [isI_told (by omega) hi hj', isI_told (by omega) (by omega) (by omega), hR i j (by omega) (by omega)]
    constructor
    · rintro (z | z)
      · exact Or.inl z
      · exact Or.inr (Or.inl ⟨hi, hj', z⟩)
    · rintro (z | ⟨_, _, z⟩ | ⟨z, _⟩)
      · exact Or.inl z
      · exact Or.inr z
      · omega
  have r0 : ∀ j, τ'.1 0 j = τ1.1 0 j := fun j => by rw [k2 0 (by decide) (by decide)]
  have t00 : τ'.1 0 0 = nI (T + 1) := by rw [r0]; exact u0
  have t0j : ∀ j, j ≠ 0 → τ'.1 0 j = τ.1 0 j := fun j hj' => by rw [r0]; exact rm 0 j (by omega) (by omega) (by omega) (by omega)
  have tc : ∀ c, 5 < c → c ≠ 19 → τ'.1 c = τ.1 c := fun c g1 g2 => by rw [k2 c (by omega) g2, rm1 c (by omega) (by omega) (by omega) (by omega)]
  refine ⟨τ', k1, t00, T + 1, n, a, d, fun k => (k = T ∧ fcv) ∨ (k ≠ T ∧ fc k), Rm τ', e, fun k => if k = T then y.toInt else p k, fun k => if k = T then 0 else c k, g, ph, A, S, ⟨⟨WD_up hW, MX_of (by rw [rx1 2 (by decide) (by decide)]) (fun c g1 g2 => rx1 c (by omega) (by omega)) hMX, ⟨?_, by omega, fun k hk => ?_, hXB⟩, AX_of (by rw [rx1 3 (by decide) (by decide)]) (fun c g1 g2 => rx1 c (by omega) (by omega)) hAX, WA_up hWA⟩, ⟨MM_of (t0j 6 (by decide)) (fun c g1 g2 => tc c (by omega) (by omega)) hMM, ⟨t00, by omega, fun k hk => ?_, rfl⟩, AM_of (t0j 13 (by decide)) (fun c g1 g2 => tc c (by omega) (by omega)) hAM⟩, ?_, fun j g1 g2 => ?_, fun k hk => Or.inl (k3 k (by omega)), EM_of (k2 2 (by decide) (by decide)) (k2 3 (by decide) (by decide)) (k2 4 (by decide) (by decide)) hE1, fun k hk => ?_, k4⟩, ?_, LM_of (t0j 19 (by decide)) (tc 17 (by decide) (by decide)) (tc 18 (by decide) (by decide)) hM⟩
  · rw [← hσ, sI_on]
  · by_cases q : k = T
    · have e8 : σ'.1 8 k = v := by rw [q, ← hσ, sI_off (by decide), sI_on]
      rw [e8]
      rcases hv with ⟨h1, h2⟩ | ⟨h1, h2⟩
      · exact Or.inl ⟨Or.inl ⟨q, h2⟩, h1⟩
      · exact Or.inr ⟨fun z => z.elim (fun w => h2 w.2) (fun w => w.1 q), h1⟩
    · rw [rx 8 k (by omega) (by omega)]
      rcases hTX.2.2.1 k (by omega) with ⟨h1, h2⟩ | ⟨h1, h2⟩
      · exact Or.inl ⟨Or.inr ⟨q, h1⟩, h2⟩
      · exact Or.inr ⟨fun z => z.elim (fun w => q w.1) (fun w => h1 w.2), h2⟩
  · rw [k2 1 (by decide) (by decide)]
    by_cases q : k = T
    · rw [q, u1]
      rcases hv with ⟨h1, h2⟩ | ⟨h1, h2⟩
      · exact Or.inl ⟨Or.inl ⟨rfl, h2⟩, h1⟩
      · exact Or.inr ⟨fun z => z.elim (fun w => h2 w.2) (fun w => w.1 rfl), h1⟩
    · rw [rm 1 k (by omega) (by omega) (by omega) (by omega)]
      rcases hTM.2.2.1 k (by omega) with ⟨h1, h2⟩ | ⟨h1, h2⟩
      · exact Or.inl ⟨Or.inr ⟨q, h1⟩, h2⟩
      · exact Or.inr ⟨fun z => z.elim (fun w => q w.1) (fun w => h1 w.2), h2⟩
  · rw [rx1 2 (by decide) (by decide)]
    rcases hs with ⟨h1, h2⟩ | h1
    · refine Or.inl ⟨h1, fun k hk => ?_⟩
      rw [rx1 15 (by decide) (by decide)]
      by_cases q : k = T
      · rw [q, (hj T (Nat.le_refl T) hT).1, tI_m1, FN_new hW (by omega)]
        rintro (⟨_, hf⟩ | ⟨hf, _⟩) j hj' z
        · rcases (hR T j (by omega) (by omega)).mp z with ⟨w, _⟩ | ⟨_, w | ⟨_, q', w1, w2, _⟩⟩
          · omega
          · omega
          · have := hface hf
            omega
        · exact absurd rfl hf
      · rw [h2 k (by omega)]
        exact FN_congr (by omega) hW hI (by omega) ⟨fun z => Or.inr ⟨q, z⟩, fun z => z.elim (fun w => absurd w.1 q) (fun w => w.2)⟩
    · exact Or.inr h1
  · rw [rx1 15 (by decide) (by decide), rx1 7 (by decide) (by decide)]
    exact hj j (by omega) g2
  · rw [rx1 7 (by decide) (by decide)]
    by_cases q : k = T
    · subst q
      simp only [if_true]
      rw [(hj k (Nat.le_refl k) hT).2]
      refine ⟨fun u hu => ⟨fun z => ?_, fun ⟨i, hi, _⟩ => by omega⟩, (cnt_none 24).mpr (fun k _ ⟨i, hi, _⟩ => by omega)⟩
      have : b32 0 u = false := by unfold b32; simp
      rw [this] at z; cases z
    · simp only [if_neg q]
      exact hEX k (by omega)
  · unfold LX
    rw [rx1 4 (by decide) (by decide), rx1 22 (by decide) (by decide), x2 4 (by decide), x2 23 (by decide)]
    exact hX
end CLS
theorem x_add {σ : xSt} {T : Nat} {xr : Nat} {v : Int32} (h3 : σ.1 1 3 = nI T) (hT : T < 24) (hx : xr < 40) (hv : v = 0 ∨ v = 1) : fC1_add σ (nI xr) v = some (nI (16 + T), sI (sI (sL σ 6 (16 + T) ((σ.2 6 xr) ||| (jlshl (1 : Int64) (nI (16 + T))))) 8 T v) 1 3 (nI (T + 1))) := by
  unfold fC1_add
  rw [h3, if_neg (by rw [i32le, tI_24, nIt (by omega)]; omega), if_neg (nI_pos (by omega)), if_pos (by rw [i32lt, tI_40, nIt (by omega)]; omega), nmE, ifin (by omega) (by omega), add16N, ifin (by omega) (by omega), nmE, clN (by omega), clN (by omega)]
  have e1 : (sL σ 6 (16 + T) ((σ.2 6 xr) ||| (jlshl (1 : Int64) (nI (16 + T))))).1 1 3 = nI T := h3
  rw [e1, ifin (by omega) (by omega), nmE, clN (by omega), nar_b hv]
  rw [sI_off (show (1 : Nat) ≠ 8 by decide), e1, nmE, sc1]
theorem x_add_full {σ : xSt} {x v : Int32} (h3 : σ.1 1 3 = nI 24) : fC1_add σ x v = some (-2, σ) := by
  unfold fC1_add
  rw [h3, if_pos (by decide)]
theorem m_add {τ : xSt} {T : Nat} {y : Int32} (h0 : τ.1 0 0 = nI T) (hT : T < 24) {τ' : xSt} (hc : fCM_closeTypes (sI (sI (sI (sI τ 2 T y) 1 T 0) 3 T 0) 0 0 (nI (T + 1))) = some τ') (h1 : τ'.1 0 0 = nI (T + 1)) : fCM_cls_b26 τ y = some (nI (16 + T), τ') := by
  unfold fCM_cls_b26
  rw [h0, if_neg (by rw [i32eq, tI_24, nIt (by omega)]; omega), ifin (by omega) (by omega), nmE, clN (by omega)]
  rw [sI_off (show (0 : Nat) ≠ 2 by decide), h0, ifin (by omega) (by omega), nmE, clN (by omega), nb0]
  rw [sI_off (show (0 : Nat) ≠ 1 by decide), sI_off (show (0 : Nat) ≠ 2 by decide), h0, ifin (by omega) (by omega), nmE, clN (by omega)]
  rw [sI_off (show (0 : Nat) ≠ 3 by decide), sI_off (show (0 : Nat) ≠ 1 by decide), sI_off (show (0 : Nat) ≠ 2 by decide), h0, nmE, sc1, hc, Option.bind_some, h1, add16N, predN (16 + (T + 1)) (by omega)]
  rfl
theorem m_addf {τ : xSt} {T : Nat} (h0 : τ.1 0 0 = nI T) (hT : T < 24) {τ' : xSt} (hc : fCM_closeTypes (sI (sI (sI (sI τ 2 T (-1)) 1 T 1) 3 T 0) 0 0 (nI (T + 1))) = some τ') (h1 : τ'.1 0 0 = nI (T + 1)) : fCM_face τ = some (nI (16 + T), τ') := by
  unfold fCM_face
  rw [h0, if_neg (by rw [i32eq, tI_24, nIt (by omega)]; omega), ifin (by omega) (by omega), nmE, clN (by omega)]
  rw [sI_off (show (0 : Nat) ≠ 2 by decide), h0, ifin (by omega) (by omega), nmE, clN (by omega), nb1]
  rw [sI_off (show (0 : Nat) ≠ 1 by decide), sI_off (show (0 : Nat) ≠ 2 by decide), h0, ifin (by omega) (by omega), nmE, clN (by omega)]
  rw [sI_off (show (0 : Nat) ≠ 3 by decide), sI_off (show (0 : Nat) ≠ 1 by decide), sI_off (show (0 : Nat) ≠ 2 by decide), h0, nmE, sc1, hc, Option.bind_some, h1, add16N, predN (16 + (T + 1)) (by omega)]
  rfl
theorem rel_face : rl_face Rel := by
  intro σ τ ⟨T, n, a, d, fc, R, e, p, c, g, ph, A, S, hB, hX, hM⟩
  obtain ⟨⟨hW, hMX, hTX, hAX, hWA⟩, ⟨hMM, hTM, hAM⟩, _⟩ := id hB
  unfold fC0_face
  have hT2 := hTX.2.1
  by_cases hT : T = 24
  · subst hT
    rw [x_add_full hTX.1, b2S]
    unfold fCM_face
    rw [hTM.1, if_pos (by decide)]
    exact ⟨-2, σ, τ, rfl, rfl, 24, n, a, d, fc, R, e, p, c, g, ph, A, S, hB, hX, hM⟩
  · obtain ⟨τ', k1, k2, k3⟩ := add_core hB hX hM (by omega) (fcv := True) (v := 1) (Or.inl ⟨rfl, trivial⟩) (xr := 8) (y := -1) (Or.inl ⟨rfl, by decide⟩) (fun _ => by decide)
    have e1 : fC1_add σ 8 1 = _ := x_add (xr := 8) (v := 1) hTX.1 (by omega) (by omega) (Or.inr rfl)
    rw [e1, b2S, m_addf hTM.1 (by omega) k1 k2]
    exact ⟨_, _, τ', rfl, rfl, k3⟩
theorem rel_cls : rl_cls Rel := by
  intro σ τ x ⟨T, n, a, d, fc, R, e, p, c, g, ph, A, S, hB, hX, hM⟩
  obtain ⟨⟨hW, hMX, hTX, hAX, hWA⟩, ⟨hMM, hTM, hAM⟩, _⟩ := id hB
  have hT2 := hTX.2.1
  have bad : ∃ (v : Int32) (σ' : xSt) (τ' : xSt), some ((-2 : Int32), σ) = some (v, σ') ∧ some ((-2 : Int32), τ) = some (v, τ') ∧ Rel σ' τ' := ⟨-2, σ, τ, rfl, rfl, T, n, a, d, fc, R, e, p, c, g, ph, A, S, hB, hX, hM⟩
  have go : ∀ xr : Nat, xr < 40 → ((xr = 8 ∧ (nI xr).toInt < 16) ∨ ∃ q, q < T ∧ xr = 16 + q ∧ nI xr = nI (16 + q)) → ∃ (v : Int32) (σ' : xSt) (τ' : xSt), fC0_cls_b28 σ (nI xr) = some (v, σ') ∧ fCM_cls_b26 τ (nI xr) = some (v, τ') ∧ Rel σ' τ' := by
    intro xr hxr hx
    unfold fC0_cls_b28 fC0_cls_b33
    rw [if_neg z10]
    by_cases hT : T = 24
    · subst hT
      rw [x_add_full hTX.1, b2S]
      unfold fCM_cls_b26
      rw [hTM.1, if_pos (by decide)]
      exact bad
    · obtain ⟨τ', k1, k2, k3⟩ := add_core hB hX hM (by omega) (fcv := False) (v := 0) (Or.inr ⟨rfl, id⟩) (xr := xr) (y := nI xr) hx (fun h => h.elim)
      rw [x_add (xr := xr) (v := 0) hTX.1 (by omega) hxr (Or.inl rfl), b2S, m_add hTM.1 (by omega) k1 k2]
      exact ⟨_, _, τ', rfl, rfl, k3⟩
  unfold fC0_cls fCM_cls
  by_cases h8 : x = 8
  · rw [if_pos h8, if_pos h8, h8]
    exact go 8 (by omega) (Or.inl ⟨rfl, by decide⟩)
  · rw [if_neg h8, if_neg h8]
    have hb32 : fC0_cls_b32 σ x = some (-2, σ) := by
      unfold fC0_cls_b32 fC0_cls_b33
      rw [if_pos rfl]
    rcases isB2 (x_isTold hTX.1 hTX.2.1 x) (m_isTold hTM.1 hTM.2.1 x) with ⟨h1, e1, e2⟩ | ⟨h1, e1, e2⟩
    · rw [e1, e2, Option.bind_some, Option.bind_some, if_neg z10, if_neg z10]
      obtain ⟨q, hq, rfl⟩ := to_ix h1
      have eq : ((nI (16 + q)).toInt - 16).toNat = q := by rw [nIt (by omega)]; omega
      rw [sub16N, ifin (by omega) (by omega), clN (by omega)]
      have hf := x_isInterface hTX (nI (16 + q))
      rw [eq] at hf
      rcases hf with ⟨h2, e3⟩ | ⟨h2, e3⟩
      · rw [e3, Option.bind_some, if_neg z10, hb32]
        rcases hTM.2.2.1 q hq with ⟨f1, f2⟩ | ⟨f1, f2⟩
        · rw [if_neg (by rw [f2]; exact z10)]; exact bad
        · exact absurd h2.2 f1
      · rw [e3, Option.bind_some, if_pos rfl]
        rcases hTM.2.2.1 q hq with ⟨f1, f2⟩ | ⟨f1, f2⟩
        · exact absurd ⟨h1, f1⟩ h2
        · rw [if_pos f2]
          exact go (16 + q) (by omega) (Or.inr ⟨q, hq, rfl, rfl⟩)
    · rw [e1, e2, Option.bind_some, Option.bind_some, if_pos rfl, if_pos rfl, hb32]
      exact bad
