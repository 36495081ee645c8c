/-- one more told face -/
def cE (c : Nat → Nat) (k m : Nat) : Nat := if m = k then c k + 1 else c m
def gE (c : Nat → Nat) (g : Nat → Nat → Nat) (k j m i : Nat) : Nat := if m = k ∧ i = c k then j else g m i
theorem gE_ex {c : Nat → Nat} {g : Nat → Nat → Nat} {k j m u : Nat} : (∃ i, i < cE c k m ∧ gE c g k j m i = u) ↔ ((∃ i, i < c m ∧ g m i = u) ∨ (m = k ∧ u = j)) := by
  unfold cE gE
  by_cases h : m = k
  · subst h
    rw [if_pos rfl]
    constructor
    · rintro ⟨i, h1, h2⟩
      by_cases q : i = c m
      · rw [if_pos ⟨rfl, q⟩] at h2
        exact Or.inr ⟨rfl, h2.symm⟩
      · rw [if_neg (fun z => q z.2)] at h2
        exact Or.inl ⟨i, by omega, h2⟩
    · rintro (⟨i, h1, h2⟩ | ⟨_, h2⟩)
      · exact ⟨i, by omega, by rw [if_neg (by omega)]; exact h2⟩
      · exact ⟨c m, by omega, by rw [if_pos ⟨rfl, rfl⟩]; exact h2.symm⟩
  · rw [if_neg h]
    constructor
    · rintro ⟨i, h1, h2⟩
      rw [if_neg (fun z => h z.1)] at h2
      exact Or.inl ⟨i, h1, h2⟩
    · rintro (⟨i, h1, h2⟩ | ⟨h1, _⟩)
      · exact ⟨i, h1, by rw [if_neg (fun z => h z.1)]; exact h2⟩
      · exact absurd h1 h
theorem cnt_add1 {P Q : Nat → Prop} {j : Nat} (hQ : ∀ u, Q u ↔ (P u ∨ u = j)) (hj : ¬ P j) : ∀ m, cntP Q m = cntP P m + if j < m then 1 else 0 := by
  intro m
  induction m with
  | zero => rfl
  | succ m ih =>
    by_cases h : m = j
    · subst h
      rw [cnt_y ((hQ m).mpr (Or.inr rfl)), cnt_n hj, ih, if_neg (by omega), if_pos (by omega)]
    · by_cases p : P m
      · rw [cnt_y ((hQ m).mpr (Or.inl p)), cnt_y p, ih]
        by_cases q : j < m
        · rw [if_pos q, if_pos (by omega)]
        · rw [if_neg q, if_neg (by omega)]
      · rw [cnt_n (fun z => by rcases (hQ m).mp z with y | y; exact p y; exact h y), cnt_n p, ih]
        by_cases q : j < m
        · rw [if_pos q, if_pos (by omega)]
        · rw [if_neg q, if_neg (by omega)]
theorem rel_below : rl_below Rel := by
  intro σ τ x1 x2 ⟨T, n, a, d, fc, R, e, p, c, g, ph, A, S, hB, hX, hM⟩
  obtain ⟨⟨hW, hMX, hTX, hAX, hWA⟩, ⟨hMM, hTM, hAM⟩, hs, hj', hF, hEM, hEX, hC⟩ := id hB
  have hT2 := hTX.2.1
  have bad : ∃ (v : Int32) (σ' : xSt) (τ' : xSt), some ((-2 : Int32), σ) = some (v, σ') ∧ some ((-2 : Int32), τ) = some (v, τ') ∧ Rel σ' τ' := ⟨-2, σ, τ, rfl, rfl, T, n, a, d, fc, R, e, p, c, g, ph, A, S, hB, hX, hM⟩
  have xbad : fC1_putBelow σ x1 x2 = some (-2, σ) → fC0_below σ x1 x2 = some (-2, σ) := fun h => by
    unfold fC0_below
    rw [h, b2S, if_pos rfl]
  rcases isB2 (x_isTold hTX.1 hTX.2.1 x1) (m_isTold hTM.1 hTM.2.1 x1) with ⟨h1, e1, e2⟩ | ⟨h1, e1, e2⟩
  · obtain ⟨k, hk, rfl⟩ := to_ix h1
    have ek : ((nI (16 + k)).toInt - 16).toNat = k := by rw [nIt (by omega)]; omega
    rcases isB2 (x_isTold hTX.1 hTX.2.1 x2) (m_isTold hTM.1 hTM.2.1 x2) with ⟨h2, e3, e4⟩ | ⟨h2, e3, e4⟩
    · obtain ⟨j, hj, rfl⟩ := to_ix h2
      have ej : ((nI (16 + j)).toInt - 16).toNat = j := by rw [nIt (by omega)]; omega
      have ix : (((24 : Int32) * (nI (16 + j) - (16 : Int32))) + nI (16 + k)) - (16 : Int32) = nI (24 * j + k) := by
        rw [sub16N, ix24]
        have := sub16N (24 * j + k)
        rw [show 16 + (24 * j + k) = 24 * j + (16 + k) by omega] at this
        exact this
      have mhead : fCM_below τ (nI (16 + k)) (nI (16 + j)) = if τ.1 1 j = 0 then some (-2, τ) else if τ.1 5 (24 * j + k) = 0 then fCM_below_b62 gF τ (nI (16 + j)) (nI k) 0 0 else some (-2, τ) := by
        unfold fCM_below
        rw [e2, e4, Option.bind_some, Option.bind_some, if_neg z10, if_neg z10, ix, sub16N, sub16N, ifin (by omega) (by omega), ifin (by omega) (by omega), clN (by omega), clN (by omega), nmE]
      have hi := x_isInterface hTX (nI (16 + j))
      rw [ej] at hi
      rcases hi with ⟨h3, e5⟩ | ⟨h3, e5⟩
      · have fj : fc j := h3.2
        have m1 : τ.1 1 j = 1 := by
          rcases hTM.2.2.1 j hj with q | q
          · exact q.2
          · exact absurd fj q.1
        rw [mhead, if_neg (by rw [m1]; exact z10)]
        obtain ⟨a1, a2, a3, a4, a5⟩ := hEM k hk
        obtain ⟨b1, b2⟩ := hEX k hk
        have hlt : ∀ u, (∃ i, i < c k ∧ g k i = u) → u < 24 := fun u ⟨i, h1, h2⟩ => by have := (a5 i h1).2; omega
        have hbc := x_bits σ b1 hlt (by rw [b2]; exact a4)
        rw [b2] at hbc
        have xhead : fC1_putBelow σ (nI (16 + k)) (nI (16 + j)) = if nI (c k) < (4 : Int32) then fC1_putBelow_b50 σ (nI (16 + k)) (nI (16 + j)) (nI k) ((1 : Int32) <<< ((nI j) &&& 31)) 0 else fC1_putBelow_b50 σ (nI (16 + k)) (nI (16 + j)) (nI k) ((1 : Int32) <<< ((nI j) &&& 31)) 1 := by
          unfold fC1_putBelow
          rw [e1, e5, Option.bind_some, Option.bind_some, if_neg z10, if_neg z10, nmE, nmE, sub16N, sub16N, ifin (by omega) (by omega), clN (by omega), hbc, Option.bind_some]
        obtain ⟨f', xf, l1, l2⟩ := m_below_loop hT2 hk hj hEM (c k) 0 gF 0 (by omega) (by unfold gF; omega) (Or.inr ⟨rfl, fun ⟨l, hl, _⟩ => by omega⟩)
        have l1' : fCM_below_b62 gF τ (nI (16 + j)) (nI k) 0 0 = fCM_below_b62 (f' + 1) τ (nI (16 + j)) (nI k) xf (nI (c k)) := l1
        have hRjk : τ.1 5 (24 * j + k) = 0 ↔ ¬ R j k := by
          rw [← hTM.2.2.2]
          unfold Rm
          exact ⟨fun z y => y z, fun z => Classical.byContradiction (fun y => z y)⟩
        by_cases r1 : R j k
        · rw [if_neg (fun z => hRjk.mp z r1)]
          have xb : fC1_putBelow σ (nI (16 + k)) (nI (16 + j)) = some (-2, σ) := by
            rw [xhead]
            have hA := x_isA hTX.2.2.2 hT2 (nI (16 + j)) (nI (16 + k)) (to_ty h2) (to_ty h1)
            rw [nIt (by omega), nIt (by omega), isI_told hT2 hj hk] at hA
            have hA' : fC1_isA σ (nI (16 + j)) (nI (16 + k)) = some 1 := by
              rcases hA with q | q
              · exact q.2
              · exact absurd (Or.inr r1) q.1
            unfold fC1_putBelow_b50
            rw [if_pos rfl, if_neg z10, ifin (by omega) (by omega), hA', Option.bind_some, if_neg z10]
            by_cases q : nI (c k) < 4
            · rw [if_pos q]
              by_cases q2 : (σ.1 7 (nI k).toNatClampNeg) &&& ((1 : Int32) <<< ((nI j) &&& 31)) = 0
              · rw [if_pos q2]
              · rw [if_neg q2]
            · rw [if_neg q]
          rw [xbad xb]
          exact bad
        · rw [if_pos (hRjk.mpr r1), l1', fCM_below_b62, ifin (by omega) (by omega), clN (by omega), a3, if_pos (by rw [leN (by omega) (by omega)]; omega), ix4', ifin2 (by omega) (by omega)]
          have hA := x_isA hTX.2.2.2 hT2 (nI (16 + j)) (nI (16 + k)) (to_ty h2) (to_ty h1)
          rw [nIt (by omega), nIt (by omega), isI_told hT2 hj hk] at hA
          have njk : ¬ (j = k ∨ R j k) := by
            rintro (q | q)
            · subst q; exact r1 (hC.1 j hj)
            · exact r1 q
          have hA' : fC1_isA σ (nI (16 + j)) (nI (16 + k)) = some 0 := by
            rcases hA with q | q
            · exact absurd q.1 njk
            · exact q.2
          have xb50 : fC1_putBelow_b50 σ (nI (16 + k)) (nI (16 + j)) (nI k) ((1 : Int32) <<< ((nI j) &&& 31)) 0 = if (σ.1 7 k) &&& ((1 : Int32) <<< ((nI j) &&& 31)) = 0 then fC1_putBelow_b96 gF (sI σ 7 k ((σ.1 7 k) ||| ((1 : Int32) <<< ((nI j) &&& 31)))) (nI (16 + k)) (nI (16 + j)) (nI k) (nI (16 + 0)) else some (-2, σ) := by
            unfold fC1_putBelow_b50
            rw [if_pos rfl, ifin (by omega) (by omega), clN (by omega), hA', Option.bind_some, if_pos rfl, ifin2 (by omega) (by omega), ifin2 (by omega) (by omega), nmE]
            rfl
          have xb51 : fC1_putBelow_b50 σ (nI (16 + k)) (nI (16 + j)) (nI k) ((1 : Int32) <<< ((nI j) &&& 31)) 1 = some (-2, σ) := by
            unfold fC1_putBelow_b50
            rw [if_neg z10]
          have hand := b32_and0 (w := σ.1 7 k) (sh1 j (by omega)) (show j < 32 by omega)
          rcases l2 with ⟨rfl, l2⟩ | ⟨rfl, l2⟩
          · rw [if_neg z10]
            have xb : fC1_putBelow σ (nI (16 + k)) (nI (16 + j)) = some (-2, σ) := by
              have nz : ¬ (σ.1 7 k) &&& ((1 : Int32) <<< ((nI j) &&& 31)) = 0 := fun z => by
                have := hand.mp z
                rw [(b1 j (by omega)).mpr l2] at this
                cases this
              rw [xhead, xb50, xb51, if_neg nz]
              by_cases q : nI (c k) < 4
              · rw [if_pos q]
              · rw [if_neg q]
            rw [xbad xb]
            exact bad
          · rw [if_pos rfl]
            by_cases q4 : c k = 4
            · rw [if_pos (by rw [q4]; rfl)]
              have xb : fC1_putBelow σ (nI (16 + k)) (nI (16 + j)) = some (-2, σ) := by
                rw [xhead, xb51, if_neg (by rw [q4]; decide)]
              rw [xbad xb]
              exact bad
            · rw [if_neg (by rw [i32eq, tI_4, nIt (by omega)]; omega), ifin2 (by omega) (by omega), ifin (by omega) (by omega), nmE, clN (by omega), ifin2 (by omega) (by omega), ifin2 (by omega) (by omega), nmE]
              rw [sI_off (show (3 : Nat) ≠ 4 by decide), a3, sc1]
              -- the class
              generalize hwd : (σ.1 7 k) ||| ((1 : Int32) <<< ((nI j) &&& 31)) = w at xb50
              have hwb : ∀ u, u < 32 → (b32 w u = true ↔ ((∃ i, i < c k ∧ g k i = u) ∨ u = j)) := by
                intro u hu
                rw [← hwd, b32_or, Bool.or_eq_true, b1 u hu, sh1 j (by omega) u hu]
                simp
              have hcnt : cntP (fun u => (∃ i, i < c k ∧ g k i = u) ∨ u = j) 24 = c k + 1 := by
                rw [cnt_add1 (P := fun u => ∃ i, i < c k ∧ g k i = u) (j := j) (fun u => Iff.rfl) l2 24, b2, if_pos (by omega)]
              have hbw : fJI_bitCount (fun _ _ => 0, fun _ _ => 0) w = some (nI (c k + 1)) := by
                rw [x_bits _ hwb (fun u hu => by
                  rcases hu with hu | hu
                  · exact hlt u hu
                  · omega) (by rw [hcnt]; omega), hcnt]
              obtain ⟨σ1, s1, s2, s3, s4⟩ := x_below_loop (c := c) hT2 hk hj hC.1 r1 hbw T 0 gF (sI σ 7 k w) (by omega) (by unfold gF; omega) (by rw [sI_off (by decide)]; exact hTX.1) sI_on (by
                intro s u hs hu
                have h0 := hTX.2.2.2 s u hs hu
                show b64 (σ.2 6 s) u = true ↔ _
                rw [h0]
                by_cases g1 : s ≤ 10
                · exact isP_low g1 u
                · obtain ⟨m, hm, rfl⟩ : ∃ k, k < T ∧ s = 16 + k := ⟨s - 16, by omega, by omega⟩
                  rw [isP_told, isP_told]
                  have er : R m (u - 16) ↔ RT R k j 0 m (u - 16) := ⟨Or.inl, fun z => z.elim id (fun y => by omega)⟩
                  rw [er])
              have xe : fC0_below σ (nI (16 + k)) (nI (16 + j)) = some (nI (c k + 1), sI σ1 2 8 0) := by
                unfold fC0_below
                rw [xhead, xb50, if_pos (show nI (c k) < 4 by rw [i32lt, tI_4, nIt (by omega)]; omega), if_pos (hand.mpr (ts_nt (fun z => l2 ((b1 j (by omega)).mp z)))), s1, b2S, if_neg (by rw [i32eq, tI_m2, nIt (by omega)]; omega)]
                unfold fC2_forgetFunctions
                rw [nmE, Option.bind_some]
              rw [xe]
              -- the reference
              generalize ht1 : sI (sI τ 4 (4 * k + c k) (nI (16 + j))) 3 k (nI (c k + 1)) = τ1
              have t0 : τ1.1 0 0 = nI T := by rw [← ht1, sI_off (by decide), sI_off (by decide)]; exact hTM.1
              have hE1 : EM τ1 T p (cE c k) (gE c g k j) := by
                intro m hm
                obtain ⟨z1, z2, z3, z4, z5⟩ := hEM m hm
                refine ⟨by rw [← ht1, sI_off (by decide), sI_off (by decide)]; exact z1, z2, ?_, ?_, fun i hi => ?_⟩
                · unfold cE
                  by_cases q : m = k
                  · rw [if_pos q, q, ← ht1, sI_on]
                  · rw [if_neg q, ← ht1, sI_ne (by omega), sI_off (by decide)]; exact z3
                · unfold cE
                  by_cases q : m = k
                  · rw [if_pos q]; omega
                  · rw [if_neg q]; exact z4
                · unfold cE at hi
                  unfold gE
                  rw [← ht1, sI_off (by decide)]
                  by_cases q : m = k ∧ i = c k
                  · rw [if_pos q, q.1, q.2, sI_on]
                    exact ⟨rfl, hj⟩
                  · have him : i < c m := by
                      by_cases y : m = k
                      · subst y
                        rw [if_pos rfl] at hi
                        omega
                      · rw [if_neg y] at hi; exact hi
                    rw [if_neg q, sI_ne (by omega)]
                    exact z5 i him
              obtain ⟨τ', k1, k2, k3, k4⟩ := m_close hT2 t0 hE1
              rw [k1, Option.bind_some, ifin2 (by omega) (by omega)]
              have t3 : τ'.1 3 k = nI (c k + 1) := by rw [k2 3 (by decide) (by decide), ← ht1, sI_on]
              rw [t3]
              have hQ : CL T (ED p (cE c k) (gE c g k j)) (QB R k j) := CL_below hk hj hC (fun m l hm hl => by
                unfold ED
                rw [gE_ex]
                constructor
                · rintro (z | z | z)
                  · exact Or.inl (Or.inl z)
                  · exact Or.inl (Or.inr z)
                  · exact Or.inr z
                · rintro ((z | z) | z)
                  · exact Or.inl z
                  · exact Or.inr (Or.inl z)
                  · exact Or.inr (Or.inr z))
              have hR : ∀ m l, m < T → l < T → (Rm τ' m l ↔ QB R k j m l) := CL_uniq k4 hQ
              have hXB : XB σ1 T (Rm τ') := XB_congr (fun m l hm hl => by
                rw [hR m l hm hl]
                unfold RT QB
                exact ⟨fun z => z.elim Or.inl (fun y => Or.inr y.2), fun z => z.elim Or.inl (fun y => Or.inr ⟨hm, y⟩)⟩) s2
              have rx : ∀ q, q ≠ 2 → q ≠ 7 → (sI σ1 2 8 0).1 q = σ.1 q := fun q g1 g2 => by rw [sI_off g1, s3, sI_off g2]
              have rx2 : ∀ i, i ≠ 8 → (sI σ1 2 8 0).1 2 i = σ.1 2 i := fun i hi => by rw [sI_ne (fun z => hi z.2), s3, sI_off (by decide)]
              have rx7 : ∀ i, i ≠ k → (sI σ1 2 8 0).1 7 i = σ.1 7 i := fun i hi => by rw [sI_off (by decide), s3, sI_ne (fun z => hi z.2)]
              have rx7k : (sI σ1 2 8 0).1 7 k = w := by rw [sI_off (by decide), s3, sI_on]
              have tc : ∀ q, q ≠ 3 → q ≠ 4 → q ≠ 5 → q ≠ 19 → τ'.1 q = τ.1 q := fun q g1 g2 g3 g4 => by rw [k2 q g3 g4, ← ht1, sI_off g1, sI_off g2]
              refine ⟨nI (c k + 1), sI σ1 2 8 0, τ', rfl, rfl, T, n, a, d, fc, Rm τ', _, p, cE c k, gE c g k j, ph, A, S, ⟨⟨hW, MX_of (rx2 9 (by decide)) (fun q g1 g2 => rx q (by omega) (by omega)) hMX, ⟨by rw [rx 1 (by decide) (by decide)]; exact hTX.1, hT2, by rw [rx 8 (by decide) (by decide)]; exact hTX.2.2.1, hXB⟩, AX_of (by rw [rx 3 (by decide) (by decide)]) (fun q g1 g2 => rx q (by omega) (by omega)) hAX, hWA⟩, ⟨MM_of (by rw [tc 0 (by decide) (by decide) (by decide) (by decide)]) (fun q g1 g2 => tc q (by omega) (by omega) (by omega) (by omega)) hMM, ⟨by rw [tc 0 (by decide) (by decide) (by decide) (by decide)]; exact hTM.1, hT2, by rw [tc 1 (by decide) (by decide) (by decide) (by decide)]; exact hTM.2.2.1, rfl⟩, AM_of (by rw [tc 0 (by decide) (by decide) (by decide) (by decide)]) (fun q g1 g2 => tc q (by omega) (by omega) (by omega) (by omega)) hAM⟩, Or.inr sI_on, fun i g1 g2 => ?_, fun m hm => Or.inl (k3 m (by omega)), EM_of (k2 2 (by decide) (by decide)) (k2 3 (by decide) (by decide)) (k2 4 (by decide) (by decide)) hE1, fun m hm => ?_, k4⟩, ?_, LM_of (by rw [tc 0 (by decide) (by decide) (by decide) (by decide)]) (tc 17 (by decide) (by decide) (by decide) (by decide)) (tc 18 (by decide) (by decide) (by decide) (by decide)) hM⟩
              · rw [rx 15 (by decide) (by decide), rx7 i (by omega)]
                exact hj' i g1 g2
              · have ef : ∀ u, (∃ i, i < cE c k m ∧ gE c g k j m i = u) ↔ ((∃ i, i < c m ∧ g m i = u) ∨ (m = k ∧ u = j)) := fun u => gE_ex
                by_cases q : m = k
                · subst q
                  rw [rx7k]
                  refine ⟨fun u hu => ?_, ?_⟩
                  · rw [hwb u hu, ef u]
                    exact ⟨fun z => z.elim Or.inl (fun y => Or.inr ⟨rfl, y⟩), fun z => z.elim Or.inl (fun y => Or.inr y.2)⟩
                  · rw [cnt_congr (Q := fun u => (∃ i, i < c m ∧ g m i = u) ∨ u = j) 24 (fun u _ => by
                      rw [ef u]
                      exact ⟨fun z => z.elim Or.inl (fun y => Or.inr y.2), fun z => z.elim Or.inl (fun y => Or.inr ⟨rfl, y⟩)⟩), hcnt]
                    unfold cE
                    rw [if_pos rfl]
                · rw [rx7 m q]
                  obtain ⟨y1, y2⟩ := hEX m hm
                  refine ⟨fun u hu => ?_, ?_⟩
                  · rw [y1 u hu, ef u]
                    exact ⟨Or.inl, fun z => z.elim id (fun y => absurd y.1 q)⟩
                  · rw [cnt_congr (Q := fun u => ∃ i, i < c m ∧ g m i = u) 24 (fun u _ => by
                      rw [ef u]
                      exact ⟨fun z => z.elim id (fun y => absurd y.1 q), Or.inl⟩), y2]
                    unfold cE
                    rw [if_neg q]
              · unfold LX
                rw [rx 4 (by decide) (by decide), rx 22 (by decide) (by decide)]
                have v4 : (sI σ1 2 8 0).2 4 = σ.2 4 := s4 4 (by decide)
                have v23 : (sI σ1 2 8 0).2 23 = σ.2 23 := s4 23 (by decide)
                rw [v4, v23]
                exact hX
      · have nf : ¬ fc j := fun z => h3 ⟨h2, z⟩
        have m1 : τ.1 1 j = 0 := by
          rcases hTM.2.2.1 j hj with q | q
          · exact absurd q.1 nf
          · exact q.2
        have xb : fC1_putBelow σ (nI (16 + k)) (nI (16 + j)) = some (-2, σ) := by
          unfold fC1_putBelow
          rw [e1, e5, Option.bind_some, Option.bind_some, if_neg z10, if_pos rfl]
        rw [xbad xb, mhead, if_pos m1]
        exact bad
    · have xb : fC1_putBelow σ (nI (16 + k)) x2 = some (-2, σ) := by
        unfold fC1_putBelow
        have hi := x_isInterface hTX x2
        rcases hi with ⟨h3, e5⟩ | ⟨h3, e5⟩
        · exact absurd h3.1 h2
        · rw [e1, e5, Option.bind_some, Option.bind_some, if_neg z10, if_pos rfl]
      have mb : fCM_below τ (nI (16 + k)) x2 = some (-2, τ) := by
        unfold fCM_below
        rw [e2, e4, Option.bind_some, Option.bind_some, if_neg z10, if_pos rfl]
      rw [xbad xb, mb]
      exact bad
  · have xb : fC1_putBelow σ x1 x2 = some (-2, σ) := by
      unfold fC1_putBelow
      rw [e1, Option.bind_some, if_pos rfl]
    have mb : fCM_below τ x1 x2 = some (-2, τ) := by
      unfold fCM_below
      rw [e2, Option.bind_some, if_pos rfl]
    rw [xbad xb, mb]
    exact bad
