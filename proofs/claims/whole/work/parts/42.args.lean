theorem nar_b {v : Int32} (h : v = 0 ∨ v = 1) : vp_nar .boolean v = v := by
  rcases h with rfl | rfl
  · exact nb0
  · exact nb1
/-- one more argument -/
def AE (e : AD) (a : Nat) (l : Nat) (v : Int) (w : Nat) (q : Nat → Int) : AD := (fun i => if i = a then l else la e i, fun i => if i = a then v else va e i, fun i => if i = a then w else wi e i, fun i k => if i = a then q k else ap e i k)
section ARGS
variable {σ τ : xSt} {T n a : Nat} {d : MD} {fc : Nat → Prop} {R : Nat → Nat → Prop} {e : AD} {p : Nat → Int} {c : Nat → Nat} {g : Nat → Nat → Nat}
theorem AE_on {l w : Nat} {v : Int} {q : Nat → Int} : la (AE e a l v w q) a = l ∧ va (AE e a l v w q) a = v ∧ wi (AE e a l v w q) a = w ∧ ∀ k, ap (AE e a l v w q) a k = q k := ⟨if_pos rfl, if_pos rfl, if_pos rfl, fun _ => if_pos rfl⟩
theorem AE_off {l w : Nat} {v : Int} {q : Nat → Int} {i : Nat} (h : i ≠ a) : la (AE e a l v w q) i = la e i ∧ va (AE e a l v w q) i = va e i ∧ wi (AE e a l v w q) i = wi e i ∧ ∀ k, ap (AE e a l v w q) i k = ap e i k := ⟨if_neg h, if_neg h, if_neg h, fun _ => if_neg h⟩
theorem AX_ext {σ' : xSt} {l w : Nat} {v : Int} {q : Nat → Int} (ha : a < 5) (hWA : WA T a e) (hA : AX σ a e) (h5 : σ'.1 3 5 = nI (a + 1)) (hc : ∀ c i, 16 ≤ c → c ≤ 19 → i ≠ a → σ'.1 c i = σ.1 c i) (h20 : ∀ i, i < 2 * a → σ'.1 20 i = σ.1 20 i) (h16 : (l = 0 ∧ σ'.1 16 a = 0) ∨ (l = 1 ∧ σ'.1 16 a = 1 ∧ σ'.1 17 a = 0) ∨ (l = 2 ∧ σ'.1 16 a = 1 ∧ σ'.1 17 a = 1)) (h18 : (σ'.1 18 a).toInt = v) (h19 : l ≠ 0 → σ'.1 19 a = nI w ∧ ∀ k, k < w → (σ'.1 20 (2 * a + k)).toInt = q k) : AX σ' (a + 1) (AE e a l v w q) := by
  refine ⟨h5, by omega, fun i hi => ?_⟩
  by_cases hia : i = a
  · subst hia
    obtain ⟨e1, e2, e3, e4⟩ := AE_on (e := e) (a := i) (l := l) (w := w) (v := v) (q := q)
    rw [e1, e2, e3]
    exact ⟨h16, h18, fun z => ⟨(h19 z).1, fun k hk => by rw [e4]; exact (h19 z).2 k hk⟩⟩
  · obtain ⟨e1, e2, e3, e4⟩ := AE_off (e := e) (a := a) (l := l) (w := w) (v := v) (q := q) hia
    obtain ⟨k1, k2, k3⟩ := hA.2.2 i (by omega)
    rw [e1, e2, e3, hc 16 i (by omega) (by omega) hia, hc 17 i (by omega) (by omega) hia, hc 18 i (by omega) (by omega) hia, hc 19 i (by omega) (by omega) hia]
    refine ⟨k1, k2, fun z => ⟨(k3 z).1, fun k hk => ?_⟩⟩
    have hw := ((hWA i (by omega)).2.2 z).2
    rw [e4, h20 _ (by omega)]
    exact (k3 z).2 k hk
theorem AM_ext {τ' : xSt} {l w : Nat} {v : Int} {q : Nat → Int} (ha : a < 5) (hWA : WA T a e) (hA : AM τ a e) (h5 : τ'.1 0 13 = nI (a + 1)) (hc : ∀ c i, (c = 12 ∨ c = 13 ∨ c = 14 ∨ c = 16) → i ≠ a → τ'.1 c i = τ.1 c i) (h15 : ∀ i, i < 2 * a → τ'.1 15 i = τ.1 15 i) (h13 : τ'.1 13 a = nI l) (h12 : l = 0 → (τ'.1 12 a).toInt = v) (h19 : l ≠ 0 → (τ'.1 16 a).toInt = v ∧ τ'.1 14 a = nI w ∧ ∀ k, k < w → (τ'.1 15 (2 * a + k)).toInt = q k) : AM τ' (a + 1) (AE e a l v w q) := by
  refine ⟨h5, by omega, fun i hi => ?_⟩
  by_cases hia : i = a
  · subst hia
    obtain ⟨e1, e2, e3, e4⟩ := AE_on (e := e) (a := i) (l := l) (w := w) (v := v) (q := q)
    rw [e1, e2, e3]
    exact ⟨h13, h12, fun z => ⟨(h19 z).1, (h19 z).2.1, fun k hk => by rw [e4]; exact (h19 z).2.2 k hk⟩⟩
  · obtain ⟨e1, e2, e3, e4⟩ := AE_off (e := e) (a := a) (l := l) (w := w) (v := v) (q := q) hia
    obtain ⟨k1, k2, k3⟩ := hA.2.2 i (by omega)
    rw [e1, e2, e3, hc 12 i (by omega) hia, hc 13 i (by omega) hia, hc 14 i (by omega) hia, hc 16 i (by omega) hia]
    refine ⟨k1, k2, fun z => ⟨(k3 z).1, (k3 z).2.1, fun k hk => ?_⟩⟩
    have hw := ((hWA i (by omega)).2.2 z).2
    rw [e4, h15 _ (by omega)]
    exact (k3 z).2.2 k hk
theorem WA_ext {l w : Nat} {v : Int} {q : Nat → Int} (hWA : WA T a e) (hl : l ≤ 2) (h0 : l = 0 → tyI T v) (h1 : l ≠ 0 → (v = -1 ∨ vaI T v) ∧ w ≤ 2) : WA T (a + 1) (AE e a l v w q) := by
  intro i hi
  by_cases hia : i = a
  · subst hia
    obtain ⟨e1, e2, e3, e4⟩ := AE_on (e := e) (a := i) (l := l) (w := w) (v := v) (q := q)
    rw [e1, e2, e3]
    exact ⟨hl, h0, h1⟩
  · obtain ⟨e1, e2, e3, e4⟩ := AE_off (e := e) (a := a) (l := l) (w := w) (v := v) (q := q) hia
    rw [e1, e2, e3]
    exact hWA i (by omega)
/-- RB for new arguments -/
theorem RB_A {σ' τ' : xSt} {a' : Nat} {e' : AD} (hx : ∀ c, c ≠ 3 → (c < 16 ∨ 20 < c) → σ'.1 c = σ.1 c) (hx2 : σ'.2 = σ.2) (hm : ∀ c, c ≠ 0 → (c < 12 ∨ 16 < c) → τ'.1 c = τ.1 c) (hm0 : ∀ j, j ≠ 13 → τ'.1 0 j = τ.1 0 j) (hA : AX σ' a' e') (hA2 : AM τ' a' e') (hWA' : WA T a' e') (hB : RB σ τ T n a d fc R e p c g) : RB σ' τ' T n a' d fc R e' p c g := by
  obtain ⟨⟨hW, hMX, hTX, hAX, hWA⟩, ⟨hMM, hTM, hAM⟩, hs, hj, hF, hEM, hEX, hC⟩ := hB
  have q2 := hx 2 (by decide) (by decide)
  have q15 := hx 15 (by decide) (by decide)
  have q7 := hx 7 (by decide) (by decide)
  refine ⟨⟨hW, MX_of (by rw [q2]) (fun c g1 g2 => hx c (by omega) (by omega)) hMX, TX_of (by rw [hx 1 (by decide) (by decide)]) (hx 8 (by decide) (by decide)) (by rw [hx2]) hTX, hA, hWA'⟩, ⟨MM_of (hm0 6 (by decide)) (fun c g1 g2 => hm c (by omega) (by omega)) hMM, TM_of (hm0 0 (by decide)) (hm 1 (by decide) (by decide)) (hm 5 (by decide) (by decide)) hTM, hA2⟩, ?_, ?_, FM_of (hm 19 (by decide) (by decide)) hF, EM_of (hm 2 (by decide) (by decide)) (hm 3 (by decide) (by decide)) (hm 4 (by decide) (by decide)) hEM, EX_of q7 hEX, hC⟩
  · unfold FS
    rw [q2, q15]; exact hs
  · rw [q15, q7]; exact hj
end ARGS
theorem rel_wipe : rl_wipe Rel := by
  intro σ τ ⟨T, n, a, d, fc, R, e, p, c, g, ph, A, S, hB, hX, hM⟩
  obtain ⟨⟨hW, hMX, hTX, hAX, hWA⟩, ⟨hMM, hTM, hAM⟩, _⟩ := id hB
  refine ⟨nI a, sI σ 3 5 0, sI τ 0 13 0, ?_, ?_, T, n, 0, d, fc, R, e, p, c, g, ph, A, S, RB_A (fun c h1 h2 => sI_off h1) rfl (fun c h1 h2 => sI_off h1) (fun j hj => sI_ne (fun z => hj z.2)) ⟨sI_on, by omega, fun i hi => by omega⟩ ⟨sI_on, by omega, fun i hi => by omega⟩ (fun i hi => by omega) hB, LX_of (sI_off (by decide)) (sI_off (by decide)) rfl hX, LM_of (sI_ne (by decide)) (sI_off (by decide)) (sI_off (by decide)) hM⟩
  · unfold fC0_wipe fC3_clear
    rw [nmE, nmE, b2S, hAX.1]
  · unfold fCM_wipe
    rw [nmE, nmE, hAM.1]
theorem x_addType {σ : xSt} {a : Nat} {x : Int32} (h5 : σ.1 3 5 = nI a) (ha : a < 5) : fC3_addType σ x = some (nI (a + 1), sI (sI (sI (sI (sI σ 16 a 0) 17 a 0) 18 a x) 19 a 0) 3 5 (nI (a + 1))) := by
  unfold fC3_addType
  rw [h5, if_pos (by rw [i32lt, tI_5, nIt (by omega)]; omega), ifin (by omega) (by omega), nmE, clN (by omega), nb0]
  rw [sI_off (show (3 : Nat) ≠ 16 by decide), h5, ifin (by omega) (by omega), nmE, clN (by omega)]
  rw [sI_off (show (3 : Nat) ≠ 17 by decide), sI_off (show (3 : Nat) ≠ 16 by decide), h5, ifin (by omega) (by omega), nmE, clN (by omega)]
  rw [sI_off (show (3 : Nat) ≠ 18 by decide), sI_off (show (3 : Nat) ≠ 17 by decide), sI_off (show (3 : Nat) ≠ 16 by decide), h5, ifin (by omega) (by omega), nmE, clN (by omega)]
  rw [sI_off (show (3 : Nat) ≠ 19 by decide), sI_off (show (3 : Nat) ≠ 18 by decide), sI_off (show (3 : Nat) ≠ 17 by decide), sI_off (show (3 : Nat) ≠ 16 by decide), h5, nmE, sc1, sI_on]
theorem m_addType {τ : xSt} {T a : Nat} {x : Int32} (h1 : fCM_isType τ x = some 1) (h5 : τ.1 0 13 = nI a) (ha : a < 5) : fCM_argument τ x = some (nI (a + 1), sI (sI (sI τ 12 a x) 13 a 0) 0 13 (nI (a + 1))) := by
  unfold fCM_argument
  rw [h1, Option.bind_some, if_neg z10, h5, if_neg (by rw [i32eq, tI_5, nIt (by omega)]; omega), ifin (by omega) (by omega), nmE, clN (by omega)]
  rw [sI_off (show (0 : Nat) ≠ 12 by decide), h5, ifin (by omega) (by omega), nmE, clN (by omega)]
  rw [sI_off (show (0 : Nat) ≠ 13 by decide), sI_off (show (0 : Nat) ≠ 12 by decide), h5, nmE, sc1, sI_on]
theorem x_addLam {σ : xSt} {a : Nat} {x1 x2 x3 x4 x5 : Int32} (h5 : σ.1 3 5 = nI a) (ha : a < 5) (h2 : x2 = 0 ∨ x2 = 1) : fC3_addLambda σ x1 x2 x3 x4 x5 = some (nI (a + 1), sI (sI (sI (sI (sI (sI (sI σ 16 a 1) 17 a x2) 18 a x5) 19 a x1) 20 (2 * a) x3) 20 (2 * a + 1) x4) 3 5 (nI (a + 1))) := by
  have m2 : nI a * (2 : Int32) = nI (2 * a) := by
    show nI a * nI 2 = _
    rw [pk_mul, Nat.mul_comm]
  unfold fC3_addLambda
  rw [h5, if_pos (by rw [i32lt, tI_5, nIt (by omega)]; omega), ifin (by omega) (by omega), nmE, clN (by omega), nb1]
  rw [sI_off (show (3 : Nat) ≠ 16 by decide), h5, ifin (by omega) (by omega), nmE, clN (by omega), nar_b h2]
  rw [sI_off (show (3 : Nat) ≠ 17 by decide), sI_off (show (3 : Nat) ≠ 16 by decide), h5, ifin (by omega) (by omega), nmE, clN (by omega)]
  rw [sI_off (show (3 : Nat) ≠ 18 by decide), sI_off (show (3 : Nat) ≠ 17 by decide), sI_off (show (3 : Nat) ≠ 16 by decide), h5, ifin (by omega) (by omega), nmE, clN (by omega)]
  rw [sI_off (show (3 : Nat) ≠ 19 by decide), sI_off (show (3 : Nat) ≠ 18 by decide), sI_off (show (3 : Nat) ≠ 17 by decide), sI_off (show (3 : Nat) ≠ 16 by decide), h5, m2, ifin (by omega) (by omega), nmE, clN (by omega)]
  rw [sI_off (show (3 : Nat) ≠ 20 by decide), sI_off (show (3 : Nat) ≠ 19 by decide), sI_off (show (3 : Nat) ≠ 18 by decide), sI_off (show (3 : Nat) ≠ 17 by decide), sI_off (show (3 : Nat) ≠ 16 by decide), h5, m2, sc1, ifin (by omega) (by omega), nmE, clN (by omega)]
  rw [sI_off (show (3 : Nat) ≠ 20 by decide), sI_off (show (3 : Nat) ≠ 20 by decide), sI_off (show (3 : Nat) ≠ 19 by decide), sI_off (show (3 : Nat) ≠ 18 by decide), sI_off (show (3 : Nat) ≠ 17 by decide), sI_off (show (3 : Nat) ≠ 16 by decide), h5, nmE, sc1, sI_on]
theorem m_addLam {τ : xSt} {a : Nat} {x1 x2 x3 x4 x5 : Int32} (h5 : τ.1 0 13 = nI a) (ha : a < 5) : fCM_lambda_b78 τ x1 x2 x3 x4 x5 = some (nI (a + 1), sI (sI (sI (sI (sI (sI τ 13 a (x2 + 1)) 14 a x1) 15 (2 * a) x3) 15 (2 * a + 1) x4) 16 a x5) 0 13 (nI (a + 1))) := by
  have m2 : (2 : Int32) * nI a = nI (2 * a) := by
    show nI 2 * nI a = _
    rw [pk_mul]
  unfold fCM_lambda_b78
  rw [h5, ifin (by omega) (by omega), nmE, clN (by omega)]
  rw [sI_off (show (0 : Nat) ≠ 13 by decide), h5, ifin (by omega) (by omega), nmE, clN (by omega)]
  rw [sI_off (show (0 : Nat) ≠ 14 by decide), sI_off (show (0 : Nat) ≠ 13 by decide), h5, m2, ifin (by omega) (by omega), nmE, clN (by omega)]
  rw [sI_off (show (0 : Nat) ≠ 15 by decide), sI_off (show (0 : Nat) ≠ 14 by decide), sI_off (show (0 : Nat) ≠ 13 by decide), h5, m2, sc1, ifin (by omega) (by omega), nmE, clN (by omega)]
  rw [sI_off (show (0 : Nat) ≠ 15 by decide), sI_off (show (0 : Nat) ≠ 15 by decide), sI_off (show (0 : Nat) ≠ 14 by decide), sI_off (show (0 : Nat) ≠ 13 by decide), h5, ifin (by omega) (by omega), nmE, clN (by omega)]
  rw [sI_off (show (0 : Nat) ≠ 16 by decide), sI_off (show (0 : Nat) ≠ 15 by decide), sI_off (show (0 : Nat) ≠ 15 by decide), sI_off (show (0 : Nat) ≠ 14 by decide), sI_off (show (0 : Nat) ≠ 13 by decide), h5, nmE, sc1, sI_on]
theorem rel_argument : rl_argument Rel := by
  intro σ τ x ⟨T, n, a, d, fc, R, e, p, c, g, ph, A, S, hB, hX, hM⟩
  obtain ⟨⟨hW, hMX, hTX, hAX, hWA⟩, ⟨hMM, hTM, hAM⟩, _⟩ := id hB
  have bad : ∃ (v : Int32) (σ' : xSt) (τ' : xSt), some ((-2 : Int32), σ) = some (v, σ') ∧ some ((-2 : Int32), τ) = some (v, τ') ∧ Rel σ' τ' := ⟨-2, σ, τ, rfl, rfl, T, n, a, d, fc, R, e, p, c, g, ph, A, S, hB, hX, hM⟩
  have ha5 := hAX.2.1
  unfold fC0_argument
  rcases isB2 (x_isType hTX.1 hTX.2.1 x) (m_isType hTM.1 hTM.2.1 x) with ⟨h1, e1, e2⟩ | ⟨h1, e1, e2⟩
  · rw [e1, Option.bind_some, if_neg z10]
    by_cases h5 : a = 5
    · unfold fCM_argument fC3_addType
      rw [hAX.1, hAM.1, e2, Option.bind_some, if_neg z10]
      subst h5
      rw [if_neg (by decide), if_pos (show nI 5 = 5 from rfl), b2S]
      exact bad
    · rw [x_addType hAX.1 (by omega), b2S, m_addType (T := T) e2 hAM.1 (by omega)]
      generalize hσ : sI (sI (sI (sI (sI σ 16 a 0) 17 a 0) 18 a x) 19 a 0) 3 5 (nI (a + 1)) = σ'
      generalize hτ : sI (sI (sI τ 12 a x) 13 a 0) 0 13 (nI (a + 1)) = τ'
      have rx : ∀ c i, ¬ (c = 3 ∧ i = 5) → ¬ (c = 19 ∧ i = a) → ¬ (c = 18 ∧ i = a) → ¬ (c = 17 ∧ i = a) → ¬ (c = 16 ∧ i = a) → σ'.1 c i = σ.1 c i := fun c i g1 g2 g3 g4 g5 => by rw [← hσ, sI_ne g1, sI_ne g2, sI_ne g3, sI_ne g4, sI_ne g5]
      have rm : ∀ c i, ¬ (c = 0 ∧ i = 13) → ¬ (c = 13 ∧ i = a) → ¬ (c = 12 ∧ i = a) → τ'.1 c i = τ.1 c i := fun c i g1 g2 g3 => by rw [← hτ, sI_ne g1, sI_ne g2, sI_ne g3]
      have x2 : σ'.2 = σ.2 := by rw [← hσ]; rfl
      refine ⟨nI (a + 1), σ', τ', rfl, rfl, T, n, a + 1, d, fc, R, AE e a 0 x.toInt 0 (fun _ => 0), p, c, g, ph, A, S, RB_A (fun c h1 h2 => ?_) x2 (fun c h1 h2 => ?_) (fun j hj => ?_) (AX_ext (by omega) hWA hAX ?_ (fun c i h1 h2 h3 => ?_) (fun i hi => ?_) (Or.inl ⟨rfl, ?_⟩) ?_ (fun q => absurd rfl q)) (AM_ext (by omega) hWA hAM ?_ (fun c i h1 h2 => ?_) (fun i hi => ?_) ?_ (fun _ => ?_) (fun q => absurd rfl q)) (WA_ext hWA (by omega) (fun _ => h1) (fun q => absurd rfl q)) hB, LX_of ?_ ?_ x2 hX, LM_of ?_ ?_ ?_ hM⟩
      · funext i; exact rx c i (by omega) (by omega) (by omega) (by omega) (by omega)
      · funext i; exact rm c i (by omega) (by omega) (by omega)
      · exact rm 0 j (by omega) (by omega) (by omega)
      · rw [← hσ, sI_on]
      · exact rx c i (by omega) (by omega) (by omega) (by omega) (by omega)
      · exact rx 20 i (by omega) (by omega) (by omega) (by omega) (by omega)
      · rw [← hσ, sI_off (by decide), sI_off (by decide), sI_off (by decide), sI_off (by decide), sI_on]
      · rw [← hσ, sI_off (by decide), sI_off (by decide), sI_on]
      · rw [← hτ, sI_on]
      · exact rm c i (by omega) (by omega) (by omega)
      · exact rm 15 i (by omega) (by omega) (by omega)
      · rw [← hτ, sI_off (by decide), sI_on]; rfl
      · rw [← hτ, sI_off (by decide), sI_off (by decide), sI_on]
      · funext i; exact rx 4 i (by omega) (by omega) (by omega) (by omega) (by omega)
      · funext i; exact rx 22 i (by omega) (by omega) (by omega) (by omega) (by omega)
      · exact rm 0 19 (by omega) (by omega) (by omega)
      · funext i; exact rm 17 i (by omega) (by omega) (by omega)
      · funext i; exact rm 18 i (by omega) (by omega) (by omega)
  · unfold fCM_argument
    rw [e1, e2]; exact bad
/-- a lambda that is good -/
def LG (T : Nat) (x1 x2 x3 x4 x5 : Int) : Prop := (0 ≤ x1 ∧ x1 ≤ 2) ∧ (x2 = 0 ∨ x2 = 1) ∧ (x5 = -1 ∨ vaI T x5) ∧ (x2 = 1 → (0 < x1 → vaI T x3) ∧ (1 < x1 → vaI T x4))
theorem x_lam {σ : xSt} {T : Nat} (hT : σ.1 1 3 = nI T) (hT2 : T ≤ 24) (x1 x2 x3 x4 x5 : Int32) : (LG T x1.toInt x2.toInt x3.toInt x4.toInt x5.toInt ∧ fC0_lambda σ x1 x2 x3 x4 x5 = gx_b2 (fC3_addLambda σ x1 x2 x3 x4 x5) fun v s => some (v, s)) ∨ (¬ LG T x1.toInt x2.toInt x3.toInt x4.toInt x5.toInt ∧ fC0_lambda σ x1 x2 x3 x4 x5 = some (-2, σ)) := by
  unfold fC0_lambda
  by_cases h1 : x1 < 0
  · rw [if_pos h1]
    rw [i32lt, tI_0] at h1
    exact Or.inr ⟨fun q => by have := q.1; omega, rfl⟩
  rw [if_neg h1]
  rw [i32lt, tI_0] at h1
  by_cases h2 : (2 : Int32) < x1
  · rw [if_pos h2]
    rw [i32lt, tI_2] at h2
    exact Or.inr ⟨fun q => by have := q.1; omega, rfl⟩
  rw [if_neg h2]
  rw [i32lt, tI_2] at h2
  by_cases h3 : x2 < 0
  · rw [if_pos h3]
    rw [i32lt, tI_0] at h3
    exact Or.inr ⟨fun q => by have := q.2.1; omega, rfl⟩
  rw [if_neg h3]
  rw [i32lt, tI_0] at h3
  by_cases h4 : (1 : Int32) < x2
  · rw [if_pos h4]
    rw [i32lt, tI_1] at h4
    exact Or.inr ⟨fun q => by have := q.2.1; omega, rfl⟩
  rw [if_neg h4]
  rw [i32lt, tI_1] at h4
  rcases x_canBeResult hT hT2 x5 with ⟨h5, e5⟩ | ⟨h5, e5⟩
  · rw [e5, Option.bind_some, if_neg z10]
    have fin : ∀ (t3 t4 : Int32), (t3 = 0 ∨ t3 = 1) → (t4 = 0 ∨ t4 = 1) → (t3 = 0 ↔ (0 < x1.toInt → vaI T x3.toInt)) → (t4 = 0 ↔ (1 < x1.toInt → vaI T x4.toInt)) → (LG T x1.toInt x2.toInt x3.toInt x4.toInt x5.toInt ∧ fC0_lambda_b77 σ x1 x2 x3 x4 x5 t3 t4 = gx_b2 (fC3_addLambda σ x1 x2 x3 x4 x5) fun v s => some (v, s)) ∨ (¬ LG T x1.toInt x2.toInt x3.toInt x4.toInt x5.toInt ∧ fC0_lambda_b77 σ x1 x2 x3 x4 x5 t3 t4 = some (-2, σ)) := by
      intro t3 t4 b3 b4 k3 k4
      unfold fC0_lambda_b77 fC0_lambda_b97 fC0_lambda_b112
      by_cases g2 : x2 = 1
      · rw [if_pos g2, if_pos g2]
        by_cases g3 : t3 = 0
        · rw [if_pos g3]
          by_cases g4 : t4 = 0
          · rw [if_pos g4, g2]
            exact Or.inl ⟨⟨by omega, Or.inr tI_1, h5, fun _ => ⟨k3.mp g3, k4.mp g4⟩⟩, rfl⟩
          · rw [if_neg g4]
            exact Or.inr ⟨fun q => g4 (k4.mpr (q.2.2.2 (by rw [g2]; exact tI_1)).2), rfl⟩
        · rw [if_neg g3]
          exact Or.inr ⟨fun q => g3 (k3.mpr (q.2.2.2 (by rw [g2]; exact tI_1)).1), rfl⟩
      · rw [if_neg g2, if_neg g2]
        have g0 : ¬ x2.toInt = 1 := fun z => g2 (i32eq.mpr (by rw [z, tI_1]))
        have g9 : x2 = 0 := i32eq.mpr (by rw [tI_0]; omega)
        rw [g9]
        exact Or.inl ⟨⟨by omega, Or.inl tI_0, h5, fun z => absurd z (by rw [tI_0]; omega)⟩, rfl⟩
    have mid : ∀ t3 : Int32, (t3 = 0 ∨ t3 = 1) → (t3 = 0 ↔ (0 < x1.toInt → vaI T x3.toInt)) → (LG T x1.toInt x2.toInt x3.toInt x4.toInt x5.toInt ∧ fC0_lambda_b53 σ x1 x2 x3 x4 x5 t3 = gx_b2 (fC3_addLambda σ x1 x2 x3 x4 x5) fun v s => some (v, s)) ∨ (¬ LG T x1.toInt x2.toInt x3.toInt x4.toInt x5.toInt ∧ fC0_lambda_b53 σ x1 x2 x3 x4 x5 t3 = some (-2, σ)) := by
      intro t3 b3 k3
      unfold fC0_lambda_b53 fC0_lambda_b76
      by_cases g : x1 ≤ 1
      · rw [if_pos g]
        rw [i32le, tI_1] at g
        exact fin t3 0 b3 (Or.inl rfl) k3 ⟨fun _ z => by omega, fun _ => rfl⟩
      · rw [if_neg g]
        rw [i32le, tI_1] at g
        rcases x_canBeDeclared hT hT2 x4 with ⟨h6, e6⟩ | ⟨h6, e6⟩
        · rw [e6, Option.bind_some, if_neg z10]
          exact fin t3 0 b3 (Or.inl rfl) k3 ⟨fun _ _ => h6, fun _ => rfl⟩
        · rw [e6, Option.bind_some, if_pos rfl]
          exact fin t3 1 b3 (Or.inr rfl) k3 ⟨fun z => absurd z z10, fun z => absurd (z (by omega)) h6⟩
    unfold fC0_lambda_b52
    by_cases g : x1 ≤ 0
    · rw [if_pos g]
      rw [i32le, tI_0] at g
      exact mid 0 (Or.inl rfl) ⟨fun _ z => by omega, fun _ => rfl⟩
    · rw [if_neg g]
      rw [i32le, tI_0] at g
      rcases x_canBeDeclared hT hT2 x3 with ⟨h6, e6⟩ | ⟨h6, e6⟩
      · rw [e6, Option.bind_some, if_neg z10]
        exact mid 0 (Or.inl rfl) ⟨fun _ _ => h6, fun _ => rfl⟩
      · rw [e6, Option.bind_some, if_pos rfl]
        exact mid 1 (Or.inr rfl) ⟨fun z => absurd z z10, fun z => absurd (z (by omega)) h6⟩
  · rw [e5, Option.bind_some, if_pos rfl]
    exact Or.inr ⟨fun q => h5 q.2.2.1, rfl⟩
theorem m_lam {τ : xSt} {T a : Nat} (hT : τ.1 0 0 = nI T) (hT2 : T ≤ 24) (h13 : τ.1 0 13 = nI a) (ha : a ≤ 5) (x1 x2 x3 x4 x5 : Int32) : (LG T x1.toInt x2.toInt x3.toInt x4.toInt x5.toInt ∧ fCM_lambda τ x1 x2 x3 x4 x5 = if a = 5 then some (-2, τ) else fCM_lambda_b78 τ x1 x2 x3 x4 x5) ∨ (¬ LG T x1.toInt x2.toInt x3.toInt x4.toInt x5.toInt ∧ fCM_lambda τ x1 x2 x3 x4 x5 = some (-2, τ)) := by
  unfold fCM_lambda
  by_cases h1 : x1 < 0
  · rw [if_pos h1]
    rw [i32lt, tI_0] at h1
    exact Or.inr ⟨fun q => by have := q.1; omega, rfl⟩
  rw [if_neg h1]
  rw [i32lt, tI_0] at h1
  by_cases h2 : (2 : Int32) < x1
  · rw [if_pos h2]
    rw [i32lt, tI_2] at h2
    exact Or.inr ⟨fun q => by have := q.1; omega, rfl⟩
  rw [if_neg h2]
  rw [i32lt, tI_2] at h2
  by_cases h3 : x2 < 0
  · rw [if_pos h3]
    rw [i32lt, tI_0] at h3
    exact Or.inr ⟨fun q => by have := q.2.1; omega, rfl⟩
  rw [if_neg h3]
  rw [i32lt, tI_0] at h3
  by_cases h4 : (1 : Int32) < x2
  · rw [if_pos h4]
    rw [i32lt, tI_1] at h4
    exact Or.inr ⟨fun q => by have := q.2.1; omega, rfl⟩
  rw [if_neg h4]
  rw [i32lt, tI_1] at h4
  have b33 : (x5.toInt = -1 ∨ vaI T x5.toInt) → (LG T x1.toInt x2.toInt x3.toInt x4.toInt x5.toInt ∧ fCM_lambda_b33 τ x1 x2 x3 x4 x5 = if a = 5 then some (-2, τ) else fCM_lambda_b78 τ x1 x2 x3 x4 x5) ∨ (¬ LG T x1.toInt x2.toInt x3.toInt x4.toInt x5.toInt ∧ fCM_lambda_b33 τ x1 x2 x3 x4 x5 = some (-2, τ)) := by
    intro h5
    unfold fCM_lambda_b33
    rw [h13]
    by_cases g5 : a = 5
    · rw [if_pos (by rw [g5]; rfl), if_pos g5]
      by_cases q : LG T x1.toInt x2.toInt x3.toInt x4.toInt x5.toInt
      · exact Or.inl ⟨q, rfl⟩
      · exact Or.inr ⟨q, rfl⟩
    · rw [if_neg (by rw [i32eq, tI_5, nIt (by omega)]; omega), if_neg g5]
      by_cases g2 : x2 = 1
      · rw [if_pos g2]
        have two : (0 < x1.toInt → vaI T x3.toInt) → (LG T x1.toInt x2.toInt x3.toInt x4.toInt x5.toInt ∧ fCM_lambda_b61 τ x1 x2 x3 x4 x5 = fCM_lambda_b78 τ x1 x2 x3 x4 x5) ∨ (¬ LG T x1.toInt x2.toInt x3.toInt x4.toInt x5.toInt ∧ fCM_lambda_b61 τ x1 x2 x3 x4 x5 = some (-2, τ)) := by
          intro k3
          unfold fCM_lambda_b61
          by_cases g : x1 ≤ 1
          · rw [if_pos g]
            rw [i32le, tI_1] at g
            exact Or.inl ⟨⟨by omega, Or.inr (by rw [g2]; exact tI_1), h5, fun _ => ⟨k3, fun z => by omega⟩⟩, rfl⟩
          · rw [if_neg g]
            rw [i32le, tI_1] at g
            rcases m_isValue hT hT2 x4 with ⟨h6, e6⟩ | ⟨h6, e6⟩
            · rw [e6, Option.bind_some, if_neg z10]
              exact Or.inl ⟨⟨by omega, Or.inr (by rw [g2]; exact tI_1), h5, fun _ => ⟨k3, fun _ => h6⟩⟩, rfl⟩
            · rw [e6, Option.bind_some, if_pos rfl]
              exact Or.inr ⟨fun q => h6 ((q.2.2.2 (by rw [g2]; exact tI_1)).2 (by omega)), rfl⟩
        by_cases g : x1 ≤ 0
        · rw [if_pos g]
          rw [i32le, tI_0] at g
          exact two (fun z => by omega)
        · rw [if_neg g]
          rw [i32le, tI_0] at g
          rcases m_isValue hT hT2 x3 with ⟨h6, e6⟩ | ⟨h6, e6⟩
          · rw [e6, Option.bind_some, if_neg z10]
            exact two (fun _ => h6)
          · rw [e6, Option.bind_some, if_pos rfl]
            exact Or.inr ⟨fun q => h6 ((q.2.2.2 (by rw [g2]; exact tI_1)).1 (by omega)), rfl⟩
      · rw [if_neg g2]
        have g0 : ¬ x2.toInt = 1 := fun z => g2 (i32eq.mpr (by rw [z, tI_1]))
        exact Or.inl ⟨⟨by omega, by omega, h5, fun z => absurd z g0⟩, rfl⟩
  by_cases h5 : x5 = -1
  · rw [if_pos h5]
    exact b33 (Or.inl (by rw [h5]; exact tI_m1))
  · rw [if_neg h5]
    have g5 : ¬ x5.toInt = -1 := fun z => h5 (i32eq.mpr (by rw [z, tI_m1]))
    rcases m_isValue hT hT2 x5 with ⟨h6, e6⟩ | ⟨h6, e6⟩
    · rw [e6, Option.bind_some, if_neg z10]
      exact b33 (Or.inr h6)
    · rw [e6, Option.bind_some, if_pos rfl]
      exact Or.inr ⟨fun q => q.2.2.1.elim g5 h6, rfl⟩
theorem rel_lambda : rl_lambda Rel := by
  intro σ τ x1 x2 x3 x4 x5 ⟨T, n, a, d, fc, R, e, p, c, g, ph, A, S, hB, hX, hM⟩
  obtain ⟨⟨hW, hMX, hTX, hAX, hWA⟩, ⟨hMM, hTM, hAM⟩, _⟩ := id hB
  have bad : ∃ (v : Int32) (σ' : xSt) (τ' : xSt), some ((-2 : Int32), σ) = some (v, σ') ∧ some ((-2 : Int32), τ) = some (v, τ') ∧ Rel σ' τ' := ⟨-2, σ, τ, rfl, rfl, T, n, a, d, fc, R, e, p, c, g, ph, A, S, hB, hX, hM⟩
  have ha5 := hAX.2.1
  rcases x_lam hTX.1 hTX.2.1 x1 x2 x3 x4 x5 with ⟨h1, e1⟩ | ⟨h1, e1⟩ <;> rcases m_lam hTM.1 hTM.2.1 hAM.1 ha5 x1 x2 x3 x4 x5 with ⟨k1, e2⟩ | ⟨k1, e2⟩
  · rw [e1, e2]
    by_cases h5 : a = 5
    · unfold fC3_addLambda
      rw [hAX.1, if_pos h5]
      subst h5
      rw [if_neg (by decide), b2S]
      exact bad
    · obtain ⟨⟨c1, c2⟩, c3, c4, c5⟩ := h1
      have hx2 : x2 = 0 ∨ x2 = 1 := by
        rcases c3 with q | q
        · exact Or.inl (i32eq.mpr (by rw [q, tI_0]))
        · exact Or.inr (i32eq.mpr (by rw [q, tI_1]))
      obtain ⟨w, hw, rfl⟩ : ∃ w : Nat, w ≤ 2 ∧ x1 = nI w := ⟨x1.toInt.toNat, by omega, by rw [i32eq, nIt (by omega)]; omega⟩
      rw [x_addLam hAX.1 (by omega) hx2, b2S, if_neg h5, m_addLam hAM.1 (by omega)]
      generalize hσ : sI (sI (sI (sI (sI (sI (sI σ 16 a 1) 17 a x2) 18 a x5) 19 a (nI w)) 20 (2 * a) x3) 20 (2 * a + 1) x4) 3 5 (nI (a + 1)) = σ'
      generalize hτ : sI (sI (sI (sI (sI (sI τ 13 a (x2 + 1)) 14 a (nI w)) 15 (2 * a) x3) 15 (2 * a + 1) x4) 16 a x5) 0 13 (nI (a + 1)) = τ'
      have rx : ∀ c i, ¬ (c = 3 ∧ i = 5) → ¬ (c = 20 ∧ i = 2 * a + 1) → ¬ (c = 20 ∧ i = 2 * a) → ¬ (c = 19 ∧ i = a) → ¬ (c = 18 ∧ i = a) → ¬ (c = 17 ∧ i = a) → ¬ (c = 16 ∧ i = a) → σ'.1 c i = σ.1 c i := fun c i g1 g2 g3 g4 g5 g6 g7 => by rw [← hσ, sI_ne g1, sI_ne g2, sI_ne g3, sI_ne g4, sI_ne g5, sI_ne g6, sI_ne g7]
      have rm : ∀ c i, ¬ (c = 0 ∧ i = 13) → ¬ (c = 16 ∧ i = a) → ¬ (c = 15 ∧ i = 2 * a + 1) → ¬ (c = 15 ∧ i = 2 * a) → ¬ (c = 14 ∧ i = a) → ¬ (c = 13 ∧ i = a) → τ'.1 c i = τ.1 c i := fun c i g1 g2 g3 g4 g5 g6 => by rw [← hτ, sI_ne g1, sI_ne g2, sI_ne g3, sI_ne g4, sI_ne g5, sI_ne g6]
      have y2 : σ'.2 = σ.2 := by rw [← hσ]; rfl
      have l1 : x2.toInt.toNat + 1 ≠ 0 := by omega
      refine ⟨nI (a + 1), σ', τ', rfl, rfl, T, n, a + 1, d, fc, R, AE e a (x2.toInt.toNat + 1) x5.toInt w (fun k => if k = 0 then x3.toInt else x4.toInt), p, c, g, ph, A, S, RB_A (fun c h1 h2 => ?_) y2 (fun c h1 h2 => ?_) (fun j hj => ?_) (AX_ext (by omega) hWA hAX ?_ (fun c i h1 h2 h3 => ?_) (fun i hi => ?_) ?_ ?_ (fun _ => ⟨?_, fun k hk => ?_⟩)) (AM_ext (by omega) hWA hAM ?_ (fun c i h1 h2 => ?_) (fun i hi => ?_) ?_ (fun q => absurd q l1) (fun _ => ⟨?_, ?_, fun k hk => ?_⟩)) (WA_ext hWA (by omega) (fun q => absurd q l1) (fun _ => ⟨c4, hw⟩)) hB, LX_of ?_ ?_ y2 hX, LM_of ?_ ?_ ?_ hM⟩
      · funext i; exact rx c i (by omega) (by omega) (by omega) (by omega) (by omega) (by omega) (by omega)
      · funext i; exact rm c i (by omega) (by omega) (by omega) (by omega) (by omega) (by omega)
      · exact rm 0 j (by omega) (by omega) (by omega) (by omega) (by omega) (by omega)
      · rw [← hσ, sI_on]
      · exact rx c i (by omega) (by omega) (by omega) (by omega) (by omega) (by omega) (by omega)
      · exact rx 20 i (by omega) (by omega) (by omega) (by omega) (by omega) (by omega) (by omega)
      · have r16 : σ'.1 16 a = 1 := by rw [← hσ, sI_off (by decide), sI_off (by decide), sI_off (by decide), sI_off (by decide), sI_off (by decide), sI_off (by decide), sI_on]
        have r17 : σ'.1 17 a = x2 := by rw [← hσ, sI_off (by decide), sI_off (by decide), sI_off (by decide), sI_off (by decide), sI_off (by decide), sI_on]
        rw [r16, r17]
        rcases hx2 with rfl | rfl
        · exact Or.inr (Or.inl ⟨rfl, rfl, rfl⟩)
        · exact Or.inr (Or.inr ⟨rfl, rfl, rfl⟩)
      · rw [← hσ, sI_off (by decide), sI_off (by decide), sI_off (by decide), sI_off (by decide), sI_on]
      · rw [← hσ, sI_off (by decide), sI_off (by decide), sI_off (by decide), sI_on]
      · rw [← hσ, sI_off (by decide)]
        by_cases hk0 : k = 0
        · subst hk0
          rw [sI_ne (by omega)]
          exact (congrArg Int32.toInt (sI_on (j := 2 * a))).trans (if_pos rfl).symm
        · have : k = 1 := by omega
          subst this
          rw [sI_on, if_neg hk0]
      · rw [← hτ, sI_on]
      · exact rm c i (by omega) (by omega) (by omega) (by omega) (by omega) (by omega)
      · exact rm 15 i (by omega) (by omega) (by omega) (by omega) (by omega) (by omega)
      · rw [← hτ, sI_off (by decide), sI_off (by decide), sI_off (by decide), sI_off (by decide), sI_off (by decide), sI_on]
        rcases hx2 with rfl | rfl
        · rfl
        · rfl
      · rw [← hτ, sI_off (by decide), sI_on]
      · rw [← hτ, sI_off (by decide), sI_off (by decide), sI_off (by decide), sI_off (by decide), sI_on]
      · rw [← hτ, sI_off (by decide), sI_off (by decide)]
        by_cases hk0 : k = 0
        · subst hk0
          rw [sI_ne (by omega)]
          exact (congrArg Int32.toInt (sI_on (j := 2 * a))).trans (if_pos rfl).symm
        · have : k = 1 := by omega
          subst this
          rw [sI_on, if_neg hk0]
      · funext i; exact rx 4 i (by omega) (by omega) (by omega) (by omega) (by omega) (by omega) (by omega)
      · funext i; exact rx 22 i (by omega) (by omega) (by omega) (by omega) (by omega) (by omega) (by omega)
      · exact rm 0 19 (by omega) (by omega) (by omega) (by omega) (by omega) (by omega)
      · funext i; exact rm 17 i (by omega) (by omega) (by omega) (by omega) (by omega) (by omega)
      · funext i; exact rm 18 i (by omega) (by omega) (by omega) (by omega) (by omega) (by omega)
  · exact absurd h1 k1
  · exact absurd k1 h1
  · rw [e1, e2]; exact bad
