theorem pk_range {Mo : Nat → Prop} {d : MD} : ∀ (r m : Nat) (v c : Int) (cs : Nat), (v = -1 ∨ (0 ≤ v ∧ v < m)) → (c = -1 ∨ (0 ≤ c ∧ c < m)) → (pk Mo d r m v c cs = -1 ∨ (0 ≤ pk Mo d r m v c cs ∧ pk Mo d r m v c cs < ((m + r : Nat) : Int))) := by
  intro r
  induction r with
  | zero =>
    intro m v c cs hv hc
    unfold pk
    by_cases h1 : v = -1
    · rw [if_pos h1]; exact Or.inl rfl
    · rw [if_neg h1]
      by_cases h2 : 1 < cs
      · rw [if_pos h2]; exact Or.inl rfl
      · rw [if_neg h2]
        by_cases h3 : cs = 1
        · rw [if_pos h3]; omega
        · rw [if_neg h3]; omega
  | succ r ih =>
    intro m v c cs hv hc
    unfold pk
    by_cases h1 : Mo m
    · rw [if_pos h1]
      by_cases h2 : v = -1 ∨ SA d v.toNat m
      · rw [if_pos h2]
        have := ih (m + 1) (if v = -1 then m else v) (@ite _ (AB d m) (Classical.propDecidable _) c m) (@ite _ (AB d m) (Classical.propDecidable _) cs (cs + 1)) (by
          by_cases g : v = -1
          · rw [if_pos g]; omega
          · rw [if_neg g]; omega) (by
          by_cases g : AB d m
          · rw [if_pos g]; omega
          · rw [if_neg g]; omega)
        rw [show m + (r + 1) = m + 1 + r by omega]
        exact this
      · rw [if_neg h2]; exact Or.inl rfl
    · rw [if_neg h1]
      have := ih (m + 1) v c cs (by omega) (by omega)
      rw [show m + (r + 1) = m + 1 + r by omega]
      exact this
/-- the answer of choose, of the answer before 'fixed' is looked at -/
noncomputable def fin7 (d : MD) (x4 : Int32) (u : Int) : Int := if u < 0 then u else @ite _ (x4 = 1 ∧ ¬ ST d u.toNat) (Classical.propDecidable _) (-7) u
section CHO
variable {T n a : Nat} {d : MD} {fc : Nat → Prop} {R : Nat → Nat → Prop} {e : AD}
theorem RES_fun {P : Nat → Prop} {ph : Nat} {u v : Int} (hp : PH d R T n a fc e (fun k => P k ∧ ME d R T n a fc e k) ph) (h1 : RES d R T n a fc e P ph u) (h2 : RES d R T n a fc e P ph v) : u = v := by
  have k3 : 1 ≤ ph → ∃ k, k < n ∧ (P k ∧ ME d R T n a fc e k) := fun h => by
    rcases hp with ⟨g, _⟩ | ⟨_, _, ⟨k, k1, k2⟩, _⟩
    · omega
    · exact ⟨k, k1, k2.1⟩
  rcases h1 with ⟨a1, a2⟩ | ⟨⟨k, a1, a2⟩, a3, a4⟩ | ⟨⟨k, a1, a2⟩, a3, a4⟩ | ⟨a1, a2⟩ <;> rcases h2 with ⟨b1, b2⟩ | ⟨⟨l, b1, b2⟩, b3, b4⟩ | ⟨⟨l, b1, b2⟩, b3, b4⟩ | ⟨b1, b2⟩
  · rw [a2, b2]
  · exact absurd b2 (a1 l b1)
  · exact absurd b2.1 (a1 l b1)
  · obtain ⟨k, k1, k2⟩ := k3 b1; exact absurd k2.1 (a1 k k1)
  · exact absurd a2 (b1 k a1)
  · rw [a4, b4]
  · exact absurd b2 (a3 l b1)
  · obtain ⟨k, k1, k2⟩ := k3 b1; exact absurd k2 (a3 k k1)
  · exact absurd a2.1 (b1 k a1)
  · exact absurd a2 (b3 k a1)
  · rw [a4, b4]
  · omega
  · obtain ⟨k, k1, k2⟩ := k3 a1; exact absurd k2.1 (b1 k k1)
  · obtain ⟨k, k1, k2⟩ := k3 a1; exact absurd k2 (b3 k k1)
  · omega
  · rw [a2, b2]
theorem RES_rg {P : Nat → Prop} {ph : Nat} {u : Int} (h : RES d R T n a fc e P ph u) : u < 0 ∨ (0 ≤ u ∧ u < n) := by
  rcases h with ⟨_, a2⟩ | ⟨_, _, a2⟩ | ⟨_, _, a2⟩ | ⟨_, a2⟩
  · omega
  · omega
  · omega
  · have := pk_range (Mo := MO (AF d R T n a fc e (fun k => P k ∧ ME d R T n a fc e k) ph) (fun m o => SP d R T n a fc e m o (ph = 3)) n) (d := d) n 0 (-1) (-1) 0 (Or.inl rfl) (Or.inl rfl)
    rw [a2]
    unfold am
    generalize pk (MO (AF d R T n a fc e (fun k => P k ∧ ME d R T n a fc e k) ph) (fun m o => SP d R T n a fc e m o (ph = 3)) n) d n 0 (-1) (-1) 0 = w at *
    by_cases g : w = -1
    · rw [if_pos g]; omega
    · rw [if_neg g]; omega
theorem x_choose {σ : xSt} (hW : WD T n d) (hM : MX σ n d) (hT : TX σ T fc R) (hA : AX σ a e) (hWA : WA T a e) (hs : (σ.1 2 8 = 1 ∧ FS σ d R T n fc) ∨ σ.1 2 8 = 0) {x y z x4 : Int32} (hx : toI T x.toInt) (hq : isB (fC0_canBeAsked σ x y z) True) (h4 : ¬ x4 < 0) (h5 : x4 ≤ 1) : ∃ v σ' ph u, fC0_choose σ x y z x4 = some (v, σ') ∧ v.toInt = fin7 d x4 u ∧ PH d R T n a fc e (fun k => PS d R T n x.toInt z.toInt y k ∧ ME d R T n a fc e k) ph ∧ RES d R T n a fc e (PS d R T n x.toInt z.toInt y) ph u ∧ LX σ' ph (AF d R T n a fc e (fun k => PS d R T n x.toInt z.toInt y k ∧ ME d R T n a fc e k) ph) (fun m o => SP d R T n a fc e m o (ph = 3)) ∧ CX σ' T n a d fc R e ∧ σ'.1 2 8 = 1 ∧ (∀ j, T ≤ j → σ'.1 15 j = σ.1 15 j) ∧ σ'.1 7 = σ.1 7 := by
  have z1 : ¬ (1 : Int32) = 0 := by decide
  obtain ⟨v, σ', ph, e1, e2, e3, e4, e5, e6, e7, e8⟩ := x_decide hW hM hT hA hWA hs (x := x) (y := y) (z := z) hx
  unfold fC0_choose
  have hq' : fC0_canBeAsked σ x y z = some 1 := by
    rcases hq with ⟨_, q⟩ | ⟨q, _⟩
    · exact q
    · exact absurd trivial q
  rw [hq', Option.bind_some, if_neg z1, if_neg h4, if_pos h5, e1, b2S]
  have hr := RES_rg e3
  rcases hr with h | h
  · rw [if_pos (by rw [i32lt, tI_0]; exact h)]
    exact ⟨v, σ', ph, v.toInt, rfl, by unfold fin7; rw [if_pos h], e2, e3, e4, e5, e6, e7, e8⟩
  · rw [if_neg (by rw [i32lt, tI_0]; omega)]
    have hn := hM.2.1
    obtain ⟨j, hj, rfl⟩ : ∃ j : Nat, j < n ∧ v = nI j := ⟨v.toInt.toNat, by omega, by rw [i32eq, nIt (by omega)]; omega⟩
    have ej : (nI j).toInt.toNat = j := by rw [nIt (by omega)]; omega
    by_cases g : x4 = 1
    · rw [if_pos g]
      rcases x_isStatic e5.2.1 hW hj with ⟨g1, g2⟩ | ⟨g1, g2⟩
      · rw [g2, Option.bind_some, if_neg z1]
        exact ⟨_, σ', ph, (nI j).toInt, rfl, by unfold fin7; rw [if_neg (by omega), if_neg (fun q => q.2 (by rw [ej]; exact g1))], e2, e3, e4, e5, e6, e7, e8⟩
      · rw [g2, Option.bind_some, if_pos rfl]
        exact ⟨_, σ', ph, (nI j).toInt, rfl, by unfold fin7; rw [if_neg (by omega), if_pos ⟨g, by rw [ej]; exact g1⟩]; exact tI_m7, e2, e3, e4, e5, e6, e7, e8⟩
    · rw [if_neg g]
      exact ⟨_, σ', ph, (nI j).toInt, rfl, by unfold fin7; rw [if_neg (by omega), if_neg (fun q => g q.1)], e2, e3, e4, e5, e6, e7, e8⟩
theorem m_choose {τ : xSt} (C : CM τ T n a d fc R e) (hF : FM τ d R T n fc) {x y z x4 : Int32} (hx : toI T x.toInt) (hq : isB (fCM_isAsked τ x y z) True) (h4 : ¬ x4 < 0) (h5 : x4 ≤ 1) : ∃ v τ' ph u, fCM_choose τ x y z x4 = some (v, τ') ∧ v.toInt = fin7 d x4 u ∧ PH d R T n a fc e (fun k => PS d R T n x.toInt z.toInt y k ∧ ME d R T n a fc e k) ph ∧ RES d R T n a fc e (PS d R T n x.toInt z.toInt y) ph u ∧ LM τ' ph (AF d R T n a fc e (fun k => PS d R T n x.toInt z.toInt y k ∧ ME d R T n a fc e k) ph) (fun m o => SP d R T n a fc e m o (ph = 3)) ∧ KN τ τ' ∧ FM τ' d R T n fc := by
  have z1 : ¬ (1 : Int32) = 0 := by decide
  have hn := C.2.1.2.1
  unfold fCM_choose
  have hq' : fCM_isAsked τ x y z = some 1 := by
    rcases hq with ⟨_, q⟩ | ⟨q, _⟩
    · exact q
    · exact absurd trivial q
  rw [hq', Option.bind_some, if_neg z1, if_neg h4, if_pos h5, nmE]
  generalize hP : PS d R T n x.toInt z.toInt y = P at *
  have K0 : KN τ (sI τ 0 19 0) := KN_I (Or.inr (Or.inr ⟨rfl, rfl⟩))
  obtain ⟨τ1, t5, t6, a1, a2, a3, a4, a5, a6, a7⟩ := m_ch1 (P := P) (x := x) (y := y) (z := z) (x4 := x4) hx (fun k => by rw [hP]) n 0 gF (sI τ 0 19 0) 0 0 (by omega) (by unfold gF; omega) (KN_CM K0 C) (FM_I (by decide) hF) (fun k hk => by omega) (Or.inr ⟨rfl, fun ⟨k, k1, _⟩ => by omega⟩) (Or.inr ⟨rfl, fun ⟨k, k1, _⟩ => by omega⟩)
  have a1' : fCM_choose_b38 gF (sI τ 0 19 0) x y z x4 0 0 0 = fCM_choose_b168 gF τ1 x4 t5 t6 (nI n) := a1
  have K1 := KN_tr K0 a2
  have z19 : τ1.1 0 19 = 0 := by rw [a7, sI_on]
  obtain ⟨τ2, b1, b2, b3, b4, b5, b6⟩ := m_ch2 (x4 := x4) (s5 := t5) (s6 := t6) (60 - n) n gF τ1 (by omega) (by unfold gF; omega)
  have K2 := KN_tr K1 b2
  have F2 : FM τ2 d R T n fc := by unfold FM; rw [b3]; exact a3
  generalize hQ : (fun k => P k ∧ ME d R T n a fc e k) = Q at *
  have hQi : ∀ k, Q k ↔ (P k ∧ ME d R T n a fc e k) := fun k => by rw [← hQ]
  have hQc : ∀ k, Q k → cn d k = a ∨ (VA d k ∧ cn d k ≤ a + 1) := fun k hk => ((hQi k).mp hk).2.1
  have h6 : fl t6 (∃ k, k < n ∧ Q k) := fl_iff a6 ⟨fun ⟨k, k1, k2⟩ => ⟨k, k1, (hQi k).mpr k2⟩, fun ⟨k, k1, k2⟩ => ⟨k, k1, (hQi k).mp k2⟩⟩
  have c17 : ∀ k, k < n → fl (τ2.1 17 k) (Q k) := fun k hk => by rw [b5 k hk]; exact fl_iff (a4 k hk) (hQi k).symm
  obtain ⟨τ3, ph, c1, c2, c3, c4, c5, c6⟩ := m_ch3 (Q := Q) hQc (x4 := x4) (s5 := t5) (s6 := t6) h6 3 1 gF τ2 (-1) rfl (by omega) (by unfold gF; omega) (KN_CM K2 C) F2 c17 (Or.inl ⟨tI_m1, by rw [b4]; exact z19, fun q q1 q2 => by omega⟩)
  have c1' : fCM_choose_b195 gF τ2 x4 t5 t6 (-1) 1 = fCM_choose_b285 τ3 x4 t5 t6 := c1
  have K3 := KN_tr K2 c2
  have hph3 : ph ≤ 3 := by rcases c6 with g | g; omega; exact g.2.1
  obtain ⟨τ4, d1, d2, d3, d4, d5, d6⟩ := m_ch4 (Q := Q) hph3 hQc (x4 := x4) (s5 := t5) (s6 := t6) n 0 gF τ3 (by omega) (by unfold gF; omega) (KN_CM K3 C) c3 c5 (fun k hk => by omega) (fun k _ hk => by rw [c4]; exact c17 k hk)
  have d1' : fCM_choose_b285 τ3 x4 t5 t6 = fCM_choose_b348 gF τ4 x4 t5 t6 0 := d1
  have K4 := KN_tr K3 d2
  generalize hAe : AF d R T n a fc e Q ph = A at *
  have hAlt : ∀ k, A k → k < n := fun k hk => by rw [← hAe] at hk; exact hk.1
  have hok : ∀ k, k < n → A k → OKs d R T n a fc e k (ph = 3) := fun k hk hak => by rw [← hAe] at hak; exact AF_ok hQc k hk hak
  obtain ⟨τ5, f1, f2, f3, f4, f5, f6⟩ := m_ch5 (A := A) hph3 hok (x4 := x4) (s5 := t5) (s6 := t6) n 0 gF τ4 (by omega) (by unfold gF; omega) (KN_CM K4 C) d3 d4 d5 (fun k hk => by omega)
  have f1' : fCM_choose_b348 gF τ4 x4 t5 t6 0 = chF τ5 x4 t5 t6 := f1
  have K5 := KN_tr K4 f2
  have C5 := KN_CM K5 C
  rw [a1', b1, c1', d1', f1']
  have g17 : ∀ k, k < 60 → fl (τ5.1 17 k) (A k) := fun k hk => by
    rw [f5]
    by_cases q : k < n
    · exact d5 k q
    · rw [d6 k (by omega), c4, b6 k (by omega) hk]
      exact Or.inr ⟨rfl, fun z => q (hAlt k z)⟩
  have hLM : LM τ5 ph A (fun m o => SP d R T n a fc e m o (ph = 3)) := ⟨f4, g17, fun k o hk ho => fl_iff (f6 k (hAlt k hk) o (hAlt o ho)) ⟨fun q => q.2.2, fun q => ⟨hk, ho, q⟩⟩⟩
  unfold chF
  rw [f4]
  by_cases p0 : ph = 0
  · rw [if_pos (by rw [p0]; rfl)]
    have go : ∀ (v : Int32), v.toInt < 0 → RES d R T n a fc e P ph v.toInt → ∃ v' τ' ph u, some (v, τ5) = some (v', τ') ∧ v'.toInt = fin7 d x4 u ∧ PH d R T n a fc e Q ph ∧ RES d R T n a fc e P ph u ∧ LM τ' ph (AF d R T n a fc e Q ph) (fun m o => SP d R T n a fc e m o (ph = 3)) ∧ KN τ τ' ∧ FM τ' d R T n fc := fun v hv hr => ⟨v, τ5, ph, v.toInt, rfl, by unfold fin7; rw [if_pos hv], c6, hr, by rw [hAe]; exact hLM, K5, f3⟩
    rcases a5 with ⟨rfl, h5⟩ | ⟨rfl, h5⟩
    · rw [if_neg z1]
      rcases h6 with ⟨rfl, h6⟩ | ⟨rfl, h6⟩
      · rw [if_neg z1]
        obtain ⟨k, k1, k2⟩ := h6
        exact go (-5) (by decide) (Or.inr (Or.inr (Or.inl ⟨⟨k, k1, (hQi k).mp k2⟩, p0, tI_m5⟩)))
      · rw [if_pos rfl]
        exact go (-4) (by decide) (Or.inr (Or.inl ⟨h5, fun k hk q => h6 ⟨k, hk, (hQi k).mpr q⟩, tI_m4⟩))
    · rw [if_pos rfl]
      exact go (-3) (by decide) (Or.inl ⟨fun k hk q => h5 ⟨k, hk, q⟩, tI_m3⟩)
  · rw [if_neg (by rw [i32eq, nIt (by omega), tI_0]; omega)]
    unfold fCM_mostSpecial
    obtain ⟨w, w1, w2⟩ := m_most_loop (A := A) (S := fun m o => SP d R T n a fc e m o (ph = 3)) C.1 C5.2.1 (fun k hk => g17 k (by omega)) f6 n 0 gF (-1) (-1) 0 0 (by omega) (by unfold gF; omega) (by omega) (by omega) (Or.inl tI_m1) ⟨fun _ => rfl, fun _ => tI_m1⟩ (fun q => by omega)
    have w1' : fCM_mostSpecial_b15 τ5 gF (-1) (-1) 0 0 1 0 = some w := w1
    rw [w1', Option.bind_some]
    rw [tI_m1] at w2
    have hr : RES d R T n a fc e P ph (am w.toInt) := Or.inr (Or.inr (Or.inr ⟨by omega, by rw [w2, hQ, hAe]⟩))
    have rg := RES_rg hr
    unfold am at hr rg
    by_cases g0 : w.toInt = -1
    · rw [if_pos g0] at hr
      rw [if_neg (by rw [i32le, tI_0]; omega)]
      exact ⟨-6, τ5, ph, -6, rfl, by unfold fin7; rw [if_pos (by omega)]; exact tI_m6, c6, hr, by rw [hAe]; exact hLM, K5, f3⟩
    · rw [if_neg g0] at hr rg
      have pr := pk_range (Mo := MO A (fun m o => SP d R T n a fc e m o (ph = 3)) n) (d := d) n 0 (-1) (-1) 0 (Or.inl rfl) (Or.inl rfl)
      rw [← w2] at pr
      obtain ⟨j, hj, rfl⟩ : ∃ j : Nat, j < n ∧ w = nI j := ⟨w.toInt.toNat, by omega, by rw [i32eq, nIt (by omega)]; omega⟩
      have ej : (nI j).toInt.toNat = j := by rw [nIt (by omega)]; omega
      rw [if_pos (nI_pos' (by omega))]
      have fz : ∀ v : Int32, v.toInt = fin7 d x4 (nI j).toInt → ∃ v' τ' ph u, some (v, τ5) = some (v', τ') ∧ v'.toInt = fin7 d x4 u ∧ PH d R T n a fc e Q ph ∧ RES d R T n a fc e P ph u ∧ LM τ' ph (AF d R T n a fc e Q ph) (fun m o => SP d R T n a fc e m o (ph = 3)) ∧ KN τ τ' ∧ FM τ' d R T n fc := fun v hv => ⟨v, τ5, ph, (nI j).toInt, rfl, hv, c6, hr, by rw [hAe]; exact hLM, K5, f3⟩
      by_cases g : x4 = 1
      · rw [if_pos g]
        rcases m_has1 C5.2.1 C.1 hj with ⟨g1, g2⟩ | ⟨g1, g2⟩
        · rw [g2, Option.bind_some, if_neg z1]
          exact fz _ (by unfold fin7; rw [if_neg (by omega), if_neg (fun q => q.2 (by rw [ej]; exact g1))])
        · rw [g2, Option.bind_some, if_pos rfl]
          exact fz _ (by unfold fin7; rw [if_neg (by omega), if_pos ⟨g, by rw [ej]; exact g1⟩]; exact tI_m7)
      · rw [if_neg g]
        exact fz _ (by unfold fin7; rw [if_neg (by omega), if_neg (fun q => g q.1)])
end CHO
