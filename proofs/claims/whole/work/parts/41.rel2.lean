section REL2
variable {σ σ' τ τ' : xSt} {T n a : Nat} {d : MD} {fc : Nat → Prop} {R : Nat → Nat → Prop} {e : AD} {p : Nat → Int} {c : Nat → Nat} {g : Nat → Nat → Nat} {ph : Nat} {A : Nat → Prop} {S : Nat → Nat → Prop}
theorem RB_X (h : ∀ c, c ≠ 4 → c ≠ 5 → c ≠ 21 → c ≠ 22 → σ'.1 c = σ.1 c) (h6 : σ'.2 6 = σ.2 6) (hB : RB σ τ T n a d fc R e p c g) : RB σ' τ T n a d fc R e p c g := by
  obtain ⟨⟨hW, hMX, hTX, hAX, hWA⟩, h2, hs, hj, hF, hEM, hEX, hC⟩ := hB
  have q2 := h 2 (by decide) (by decide) (by decide) (by decide)
  have q15 := h 15 (by decide) (by decide) (by decide) (by decide)
  have q7 := h 7 (by decide) (by decide) (by decide) (by decide)
  refine ⟨⟨hW, MX_of (by rw [q2]) (fun c g1 g2 => h c (by omega) (by omega) (by omega) (by omega)) hMX, TX_of (by rw [h 1 (by decide) (by decide) (by decide) (by decide)]) (h 8 (by decide) (by decide) (by decide) (by decide)) h6 hTX, AX_of (by rw [h 3 (by decide) (by decide) (by decide) (by decide)]) (fun c g1 g2 => h c (by omega) (by omega) (by omega) (by omega)) hAX, hWA⟩, h2, ?_, ?_, hF, hEM, EX_of q7 hEX, hC⟩
  · unfold FS
    rw [q2, q15]; exact hs
  · rw [q15, q7]; exact hj
theorem RB_M (h : KN τ τ') (hF' : FM τ' d R T n fc) (hB : RB σ τ T n a d fc R e p c g) : RB σ τ' T n a d fc R e p c g := by
  obtain ⟨h1, ⟨hMM, hTM, hAM⟩, hs, hj, hF, hEM, hEX, hC⟩ := hB
  have C := KN_CM h (⟨h1.1, hMM, hTM, hAM, h1.2.2.2.2⟩ : CM τ T n a d fc R e)
  exact ⟨h1, ⟨C.2.1, C.2.2.1, C.2.2.2.1⟩, hs, hj, hF', EM_of (h.1 2 (by decide) (by decide) (by decide) (by decide)) (h.1 3 (by decide) (by decide) (by decide) (by decide)) (h.1 4 (by decide) (by decide) (by decide) (by decide)) hEM, hEX, hC⟩
end REL2
theorem rel_seen : rl_seen Rel := by
  intro σ τ x y z ⟨T, n, a, d, fc, R, e, p, c, g, ph, A, S, hB, hX, hM⟩
  obtain ⟨⟨hW, hMX, hTX, hAX, hWA⟩, ⟨hMM, hTM, hAM⟩, hs, hj, hF, hEM, hEX, hC⟩ := id hB
  unfold fC0_seen fCM_seen
  rcases isB2 (x_canBeAsked hTX.1 hTX.2.1 x y z) (m_isAsked hTM.1 hTM.2.1 x y z) with ⟨h1, e1, e2⟩ | ⟨h1, e1, e2⟩
  · rw [e1, e2, Option.bind_some, Option.bind_some, if_neg z10, if_neg z10]
    have hn := hMX.2.1
    obtain ⟨σ', f1, f2, f3, f4⟩ := x_list5 hW hTX.2.1 hMX hTX.2.2.2 (x := x) (y := y) (z := z) h1.1
    have k2 := m_seen_loop2 hW hMM hTM.1 hTM.2.1 (x := x) (y := y) (z := z) h1.1 n 0 gF (by omega) (by unfold gF; omega)
    rw [hTM.2.2.2] at k2
    have k3 : fCM_seen_b19 τ gF x y z 0 0 = some (nI (cntP (PS d R T n x.toInt z.toInt y) n)) := k2
    rw [f1, b2S, k3]
    exact ⟨_, σ', rfl, rfl, T, n, a, d, fc, R, e, p, c, g, ph, A, S, RB_X (fun c _ g2 _ _ => f3 c g2) (by rw [f4]) hB, LX_of (f3 4 (by decide)) (f3 22 (by decide)) f4 hX, hM⟩
  · rw [e1, e2]; exact ⟨-2, σ, rfl, rfl, T, n, a, d, fc, R, e, p, c, g, ph, A, S, hB, hX, hM⟩
theorem rel_seenAt : rl_seenAt Rel := by
  intro σ τ x y z w ⟨T, n, a, d, fc, R, e, p, c, g, ph, A, S, hB, hX, hM⟩
  obtain ⟨⟨hW, hMX, hTX, hAX, hWA⟩, ⟨hMM, hTM, hAM⟩, hs, hj, hF, hEM, hEX, hC⟩ := id hB
  unfold fC0_seenAt fCM_seenAt
  rcases isB2 (x_canBeAsked hTX.1 hTX.2.1 x y z) (m_isAsked hTM.1 hTM.2.1 x y z) with ⟨h1, e1, e2⟩ | ⟨h1, e1, e2⟩
  · rw [e1, e2, Option.bind_some, Option.bind_some, if_neg z10, if_neg z10]
    have hn := hMX.2.1
    obtain ⟨σ', f1, f2, f3, f4⟩ := x_list5 hW hTX.2.1 hMX hTX.2.2.2 (x := x) (y := y) (z := z) h1.1
    obtain ⟨v, k2, k3⟩ := m_seenAt_loop hW hMM hTM.1 hTM.2.1 (x := x) (y := y) (z := z) (w := w) h1.1 n 0 gF (by omega) (by unfold gF; omega) (fun k hk => by omega)
    obtain ⟨u, l2, l3⟩ := row_NT (n := n) (P := PS d R T n x.toInt z.toInt y) (row := σ'.1 5) hMX.2.1 f2 w
    have k4 : fCM_seenAt_b19 τ gF x y z w 0 0 = some v := k2
    rw [f1, b2S, k4]
    rw [hTM.2.2.2] at k3
    have e : u = v := i32eq.mpr (NT_fun l3 k3)
    subst e
    refine ⟨u, σ', ?_, rfl, T, n, a, d, fc, R, _, p, c, g, ph, A, S, RB_X (fun c _ g2 _ _ => f3 c g2) (by rw [f4]) hB, LX_of (f3 4 (by decide)) (f3 22 (by decide)) f4 hX, hM⟩
    by_cases q1 : w < 0
    · rw [if_pos q1] at l2 ⊢
      cases l2; rfl
    · rw [if_neg q1] at l2 ⊢
      by_cases q2 : nI (cntP (PS d R T n x.toInt z.toInt y) n) ≤ w
      · rw [if_pos q2] at l2 ⊢
        cases l2; rfl
      · rw [if_neg q2] at l2 ⊢
        by_cases q3 : w < 0 ∨ 60 ≤ w.toNatClampNeg
        · rw [if_pos q3] at l2; cases l2
        · rw [if_neg q3] at l2 ⊢
          cases l2; rfl
  · rw [e1, e2]; exact ⟨-2, σ, rfl, rfl, T, n, a, d, fc, R, e, p, c, g, ph, A, S, hB, hX, hM⟩
theorem rel_function : rl_function Rel := by
  intro σ τ x ⟨T, n, a, d, fc, R, e, p, c, g, ph, A, S, hB, hX, hM⟩
  obtain ⟨⟨hW, hMX, hTX, hAX, hWA⟩, ⟨hMM, hTM, hAM⟩, hs, hj, hF, hEM, hEX, hC⟩ := id hB
  unfold fC0_function fCM_function
  rcases isB2 (x_isType hTX.1 hTX.2.1 x) (m_isType hTM.1 hTM.2.1 x) with ⟨h1, e1, e2⟩ | ⟨h1, e1, e2⟩
  · rw [e1, e2, Option.bind_some, Option.bind_some, if_neg z10, if_neg z10]
    obtain ⟨σ1, k1, f1, f2, f3, f4, f5, f6⟩ := x_settle hW hMX hTX hs
    have T1 : TX σ1 T fc R := TX_of (by rw [f4 1 (by decide) (by decide)]) (f4 8 (by decide) (by decide)) (by rw [f6]) hTX
    obtain ⟨v, v1, v2⟩ := x_functionOf T1 f2 x
    obtain ⟨w, τ1, w1, w2, w3, w4⟩ := m_functionOf hW hMM hTM hF x
    have e : v = w := i32eq.mpr (by rw [v2, w2])
    subst e
    rw [k1, Option.bind_some, v1, Option.bind_some, w1, b2S]
    have B1 := RB_M (KC_KN w3) w4 hB
    refine ⟨v, σ1, τ1, rfl, rfl, T, n, a, d, fc, R, _, p, c, g, ph, A, S, ⟨⟨hW, MX_of (f5 9 (by decide)) (fun c g1 g2 => f4 c (by omega) (by omega)) hMX, T1, AX_of (by rw [f4 3 (by decide) (by decide)]) (fun c g1 g2 => f4 c (by omega) (by omega)) hAX, hWA⟩, B1.2.1, Or.inl ⟨f1, f2⟩, fun j g1 g2 => ?_, w4, B1.2.2.2.2.2.1, EX_of (f4 7 (by decide) (by decide)) hEX, hC⟩, LX_of (f4 4 (by decide) (by decide)) (f4 22 (by decide) (by decide)) f6 hX, LM_of (by rw [w3.1 0 (by decide)]) (w3.1 17 (by decide)) (w3.1 18 (by decide)) hM⟩
    rw [f3 j g1, f4 7 (by decide) (by decide)]
    exact hj j g1 g2
  · rw [e1, e2]; exact ⟨-2, σ, τ, rfl, rfl, T, n, a, d, fc, R, e, p, c, g, ph, A, S, hB, hX, hM⟩
theorem rel_choose : rl_choose Rel := by
  intro σ τ x y z x4 ⟨T, n, a, d, fc, R, e, p, c, g, ph, A, S, hB, hX, hM⟩
  obtain ⟨⟨hW, hMX, hTX, hAX, hWA⟩, ⟨hMM, hTM, hAM⟩, hs, hj, hF, hEM, hEX, hC⟩ := id hB
  have bad : ∃ (v : Int32) (σ' : xSt) (τ' : xSt), some ((-2 : Int32), σ) = some (v, σ') ∧ some ((-2 : Int32), τ) = some (v, τ') ∧ Rel σ' τ' := ⟨-2, σ, τ, rfl, rfl, T, n, a, d, fc, R, e, p, c, g, ph, A, S, hB, hX, hM⟩
  rcases isB2 (x_canBeAsked hTX.1 hTX.2.1 x y z) (m_isAsked hTM.1 hTM.2.1 x y z) with ⟨h1, e1, e2⟩ | ⟨h1, e1, e2⟩
  · by_cases h4 : x4 < 0
    · unfold fC0_choose fCM_choose
      rw [e1, e2, Option.bind_some, Option.bind_some, if_neg z10, if_neg z10, if_pos h4, if_pos h4]
      exact bad
    · by_cases h5 : x4 ≤ 1
      · obtain ⟨v, σ1, p1, u1, a1, a2, a3, a4, a5, a6, a7, a8, a9⟩ := x_choose hW hMX hTX hAX hWA hs (x := x) (y := y) (z := z) (x4 := x4) h1.1 (Or.inl ⟨trivial, e1⟩) h4 h5
        obtain ⟨w, τ1, p2, u2, b1, b2, b3, b4, b5, b6, b7⟩ := m_choose (⟨hW, hMM, hTM, hAM, hWA⟩ : CM τ T n a d fc R e) hF (x := x) (y := y) (z := z) (x4 := x4) h1.1 (Or.inl ⟨trivial, e2⟩) h4 h5
        have ep := PH_fun a3 b3
        subst ep
        have eu := RES_fun a3 a4 b4
        subst eu
        have e : v = w := i32eq.mpr (by rw [a2, b2])
        subst e
        have B1 := RB_M b6 b7 hB
        obtain ⟨c1, c2, c3, c4, c5, c6⟩ := a6
        refine ⟨v, σ1, τ1, a1, b1, T, n, a, d, fc, R, _, p, c, g, p1, _, _, ⟨⟨hW, c2, c3, c4, hWA⟩, B1.2.1, Or.inl ⟨a7, c6⟩, fun j g1 g2 => ?_, b7, B1.2.2.2.2.2.1, EX_of a9 hEX, hC⟩, a5, b5⟩
        rw [a8 j g1, a9]
        exact hj j g1 g2
      · unfold fC0_choose fCM_choose
        rw [e1, e2, Option.bind_some, Option.bind_some, if_neg z10, if_neg z10, if_neg h4, if_neg h4, if_neg h5, if_neg h5]
        exact bad
  · unfold fC0_choose fCM_choose
    rw [e1, e2]; exact bad
