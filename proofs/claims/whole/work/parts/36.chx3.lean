/-- the phase that counts -/
def PH (d : MD) (R : Nat → Nat → Prop) (T n a : Nat) (fc : Nat → Prop) (e : AD) (Q : Nat → Prop) (ph : Nat) : Prop := (ph = 0 ∧ ∀ p, 1 ≤ p → p ≤ 3 → ∀ k, k < n → ¬ (Q k ∧ AP d R T n a fc e k p)) ∨ (1 ≤ ph ∧ ph ≤ 3 ∧ (∃ k, k < n ∧ Q k ∧ AP d R T n a fc e k ph) ∧ ∀ p, 1 ≤ p → p < ph → ∀ k, k < n → ¬ (Q k ∧ AP d R T n a fc e k p))
theorem PH_fun {d : MD} {R : Nat → Nat → Prop} {T n a : Nat} {fc : Nat → Prop} {e : AD} {Q : Nat → Prop} {p q : Nat} (h1 : PH d R T n a fc e Q p) (h2 : PH d R T n a fc e Q q) : p = q := by
  rcases h1 with ⟨a1, a2⟩ | ⟨a1, a2, ⟨k, k1, k2⟩, a4⟩ <;> rcases h2 with ⟨b1, b2⟩ | ⟨b1, b2, ⟨l, l1, l2⟩, b4⟩
  · omega
  · exact absurd l2 (a2 q b1 b2 l l1)
  · exact absurd k2 (b2 p a1 a2 k k1)
  · rcases Nat.lt_trichotomy p q with z | z | z
    · exact absurd k2 (b4 p a1 z k k1)
    · exact z
    · exact absurd l2 (a4 q b1 z l l1)
/-- those that apply in it -/
def AF (d : MD) (R : Nat → Nat → Prop) (T n a : Nat) (fc : Nat → Prop) (e : AD) (Q : Nat → Prop) (ph k : Nat) : Prop := k < n ∧ 1 ≤ ph ∧ Q k ∧ AP d R T n a fc e k ph
/-- the latest choice, as the class keeps it -/
def LX (σ : xSt) (ph : Nat) (A : Nat → Prop) (S : Nat → Nat → Prop) : Prop := σ.1 4 9 = nI ph ∧ σ.1 4 7 = nI (cntP A 60) ∧ (∀ k, A k → k < 60) ∧ (∀ k, A k → σ.1 22 (cntP A k) = nI k) ∧ (∀ u, u < 64 → (b64 (σ.2 4 8) u = true ↔ A u)) ∧ ∀ k, A k → ∀ u, u < 64 → (b64 (σ.2 23 k) u = true ↔ (A u ∧ S k u))
theorem cnt_none {P : Nat → Prop} : ∀ n, cntP P n = 0 ↔ ∀ k, k < n → ¬ P k := by
  intro n
  constructor
  · intro h k hk hp
    have := cnt_lt hp hk
    omega
  · intro h
    rcases Nat.eq_zero_or_pos (cntP P n) with q | q
    · exact q
    · obtain ⟨m, g1, g2, _⟩ := cnt_ex n 0 q
      exact absurd g2 (h m g1)
theorem cnt_ext {A : Nat → Prop} {n : Nat} (h : ∀ k, A k → k < n) : ∀ j, cntP A (n + j) = cntP A n := by
  intro j
  induction j with
  | zero => rfl
  | succ j ih =>
    have e : n + (j + 1) = (n + j) + 1 := rfl
    rw [e, cnt_n (fun q => by have := h _ q; omega), ih]
/-- the answer of a choice that isn't BAD, before 'fixed' is looked at -/
def RES (d : MD) (R : Nat → Nat → Prop) (T n a : Nat) (fc : Nat → Prop) (e : AD) (P : Nat → Prop) (ph : Nat) (v : Int) : Prop := ((∀ k, k < n → ¬ P k) ∧ v = -3) ∨ ((∃ k, k < n ∧ P k) ∧ (∀ k, k < n → ¬ (P k ∧ ME d R T n a fc e k)) ∧ v = -4) ∨ ((∃ k, k < n ∧ (P k ∧ ME d R T n a fc e k)) ∧ ph = 0 ∧ v = -5) ∨ (1 ≤ ph ∧ v = am (pk (MO (AF d R T n a fc e (fun k => P k ∧ ME d R T n a fc e k) ph) (fun m o => SP d R T n a fc e m o (ph = 3)) n) d n 0 (-1) (-1) 0))
section CHX3
variable {T n a : Nat} {d : MD} {fc : Nat → Prop} {R : Nat → Nat → Prop} {e : AD}
theorem x_phases {Q : Nat → Prop} (hQ : ∀ k, Q k → cn d k = a ∨ (VA d k ∧ cn d k ≤ a + 1)) : ∀ (r p f : Nat) (σ : xSt), p + r = 4 → 1 ≤ p → r + 1 < f → CX σ T n a d fc R e → σ.1 4 6 = nI (cntP Q n) → (∀ k, k < n → Q k → σ.1 21 (cntP Q k) = nI k) → σ.1 4 7 = 0 → σ.1 4 9 = 0 → (∀ u, u < 64 → b64 (σ.2 4 8) u = false) → (∀ q, 1 ≤ q → q < p → ∀ k, k < n → ¬ (Q k ∧ AP d R T n a fc e k q)) → ∃ ph σ', PH d R T n a fc e Q ph ∧ KX σ σ' ∧ fC4_decide_b56 f σ (nI p) = fC4_decide_b81 σ' ∧ σ'.1 4 9 = nI ph ∧ σ'.1 4 7 = nI (cntP (AF d R T n a fc e Q ph) n) ∧ (∀ k, k < n → AF d R T n a fc e Q ph k → σ'.1 22 (cntP (AF d R T n a fc e Q ph) k) = nI k) ∧ (∀ u, u < 64 → (b64 (σ'.2 4 8) u = true ↔ AF d R T n a fc e Q ph u)) := by
  intro r
  induction r with
  | zero =>
    intro p f σ hp1 hp2 hf C h6 h21 h7 h9 hb hno
    obtain ⟨f, rfl⟩ : ∃ z, f = z + 1 := ⟨f - 1, by omega⟩
    have e : p = 4 := by omega
    subst e
    rw [fC4_decide_b56, if_pos (by decide)]
    have h0 : cntP (AF d R T n a fc e Q 0) n = 0 := (cnt_none n).mpr (fun k _ q => by have := q.2.1; omega)
    exact ⟨0, σ, Or.inl ⟨rfl, fun q g1 g2 => hno q g1 (by omega)⟩, KX_rf σ, rfl, h9, by rw [h0]; exact h7, fun k _ q => by have := q.2.1; omega, fun u hu => ⟨fun z => absurd z (by rw [hb u hu]; decide), fun q => by have := q.2.1; omega⟩⟩
  | succ r ih =>
    intro p f σ hp1 hp2 hf C h6 h21 h7 h9 hb hno
    have hn := C.2.1.2.1
    obtain ⟨f, rfl⟩ : ∃ z, f = z + 1 := ⟨f - 1, by omega⟩
    rw [fC4_decide_b56, if_neg (by rw [i32lt, tI_3, nIt (by omega)]; omega), h7, if_pos rfl]
    unfold fC4_findApplying
    obtain ⟨σ1, k1, k2, k3, k4, k5, k6, k7, k8, k9⟩ := x_find_app_loop (Q := Q) (ph := p) ⟨hp2, by omega⟩ hQ n 0 gF σ (by omega) (by unfold gF; omega) C h6 h21 h7 (fun k hk => by omega) (fun u hu => ⟨fun z => absurd z (by rw [hb u hu]; decide), fun q => by omega⟩) (Or.inr ⟨h9, rfl⟩)
    have e0 : (0 : Int32) = nI (cntP Q 0) := rfl
    rw [e0, k1, Option.bind_some, sc1]
    have hAF : ∀ k, k < n → ((Q k ∧ AP d R T n a fc e k p) ↔ AF d R T n a fc e Q p k) := fun k hk => ⟨fun z => ⟨hk, hp2, z.1, z.2⟩, fun z => ⟨z.2.2.1, z.2.2.2⟩⟩
    have ce : ∀ m, m ≤ n → cntP (fun k => Q k ∧ AP d R T n a fc e k p) m = cntP (AF d R T n a fc e Q p) m := fun m hm => cnt_congr m (fun k hk => hAF k (by omega))
    rcases k8 with ⟨g1, g2⟩ | ⟨g1, g2⟩
    · have ex : fC4_decide_b56 f σ1 (nI (p + 1)) = fC4_decide_b81 σ1 := by
        obtain ⟨f, rfl⟩ : ∃ z, f = z + 1 := ⟨f - 1, by omega⟩
        have c9 := cnt_le (P := fun k => Q k ∧ AP d R T n a fc e k p) n
        rw [fC4_decide_b56]
        by_cases h4 : 3 < p + 1
        · rw [if_pos (by rw [i32lt, tI_3, nIt (by omega)]; omega)]
        · rw [if_neg (by rw [i32lt, tI_3, nIt (by omega)]; omega), if_neg (by rw [k5, i32eq, nIt (by omega), tI_0]; omega)]
      obtain ⟨m, m1, m2, _⟩ := cnt_ex n 0 g2
      refine ⟨p, σ1, Or.inr ⟨hp2, by omega, ⟨m, m1, m2⟩, fun q q1 q2 => hno q q1 (by omega)⟩, k2, ex, g1, by rw [k5, ce n (Nat.le_refl n)], fun k hk hak => ?_, fun u hu => ?_⟩
      · rw [← ce k (by omega)]; exact k6 k hk ((hAF k hk).mpr hak)
      · rw [k7 u hu]
        exact ⟨fun z => (hAF u z.1).mp z.2, fun z => ⟨z.1, (hAF u z.1).mpr z⟩⟩
    · have none := (cnt_none n).mp g2
      obtain ⟨ph, σ', l1, l2, l3, l4, l5, l6, l7⟩ := ih (p + 1) f σ1 (by omega) (by omega) (by omega) (KX_CX k2 C) k3 (fun k g3 g4 => by rw [k4]; exact h21 k g3 g4) (by rw [k5, g2]; rfl) g1 (fun u hu => by
        cases g3 : b64 (σ1.2 4 8) u with
        | false => rfl
        | true => have := (k7 u hu).mp g3; exact absurd this.2 (none u this.1)) (fun q q1 q2 => by
        by_cases g3 : q = p
        · subst g3; exact none
        · exact hno q q1 (by omega))
      exact ⟨ph, σ', l1, KX_tr k2 l2, l3, l4, l5, l6, l7⟩
theorem AF_ok {Q : Nat → Prop} {ph : Nat} (hQ : ∀ k, Q k → cn d k = a ∨ (VA d k ∧ cn d k ≤ a + 1)) : ∀ k, k < n → AF d R T n a fc e Q ph k → OKs d R T n a fc e k (ph = 3) := fun k hk h => AP_OKs hk (hQ k h.2.2.1) h.2.2.2
theorem x_decide {σ : xSt} (hW : WD T n d) (hM : MX σ n d) (hT : TX σ T fc R) (hA : AX σ a e) (hWA : WA T a e) (hs : (σ.1 2 8 = 1 ∧ FS σ d R T n fc) ∨ σ.1 2 8 = 0) {x y z : Int32} (hx : toI T x.toInt) : ∃ v σ' ph, fC4_decide σ x y z = some (v, σ') ∧ PH d R T n a fc e (fun k => PS d R T n x.toInt z.toInt y k ∧ ME d R T n a fc e k) ph ∧ RES d R T n a fc e (PS d R T n x.toInt z.toInt y) ph v.toInt ∧ LX σ' ph (AF d R T n a fc e (fun k => PS d R T n x.toInt z.toInt y k ∧ ME d R T n a fc e k) ph) (fun m o => SP d R T n a fc e m o (ph = 3)) ∧ CX σ' T n a d fc R e ∧ σ'.1 2 8 = 1 ∧ (∀ j, T ≤ j → σ'.1 15 j = σ.1 15 j) ∧ σ'.1 7 = σ.1 7 := by
  have hn := hM.2.1
  have hT2 := hT.2.1
  unfold fC4_decide fC4_forget
  rw [nmE, nmE, nmE, Option.bind_some]
  generalize hs0 : sL (sI (sI σ 4 9 0) 4 7 0) 4 8 0 = σ0
  have K0 : KX σ σ0 := by rw [← hs0]; exact KX_tr (KX_tr (KX_I (Or.inl rfl)) (KX_I (Or.inl rfl))) (KX_L (Or.inl rfl))
  have o9 : σ0.1 4 9 = 0 := by rw [← hs0]; show (sI (sI σ 4 9 0) 4 7 0).1 4 9 = 0; rw [sI_ne (by decide), sI_on]
  have o7 : σ0.1 4 7 = 0 := by rw [← hs0]; show (sI (sI σ 4 9 0) 4 7 0).1 4 7 = 0; rw [sI_on]
  have o8 : σ0.2 4 8 = 0 := by rw [← hs0]; show vp_updL (σ.2 4) 8 0 8 = 0; exact pk_uLs
  have q2 := K0.1 2 (by decide) (by decide) (by decide)
  have q15 := K0.1 15 (by decide) (by decide) (by decide)
  have M0 : MX σ0 n d := MX_of (by rw [q2]) (fun c g1 g2 => K0.1 c (by omega) (by omega) (by omega)) hM
  have T0 : TX σ0 T fc R := TX_of (by rw [K0.1 1 (by decide) (by decide) (by decide)]) (K0.1 8 (by decide) (by decide) (by decide)) (K0.2 6 (by decide) (by decide)) hT
  have A0 : AX σ0 a e := AX_of (by rw [K0.1 3 (by decide) (by decide) (by decide)]) (fun c g1 g2 => K0.1 c (by omega) (by omega) (by omega)) hA
  have s0 : (σ0.1 2 8 = 1 ∧ FS σ0 d R T n fc) ∨ σ0.1 2 8 = 0 := by
    unfold FS
    rw [q2, q15]
    exact hs
  obtain ⟨σ1, e1, f1, f2, f3, f4, f5, f6⟩ := x_settle hW M0 T0 s0
  rw [e1, Option.bind_some]
  have M1 : MX σ1 n d := MX_of (f5 9 (by decide)) (fun c g1 g2 => f4 c (by omega) (by omega)) M0
  have T1 : TX σ1 T fc R := TX_of (by rw [f4 1 (by decide) (by decide)]) (f4 8 (by decide) (by decide)) (by rw [f6]) T0
  have A1 : AX σ1 a e := AX_of (by rw [f4 3 (by decide) (by decide)]) (fun c g1 g2 => f4 c (by omega) (by omega)) A0
  obtain ⟨σ2, e2, r1, r2, r3⟩ := x_list21 hW hT2 M1 T1.2.2.2 (x := x) (y := y) (z := z) hx
  rw [e2, b2S, nmE]
  generalize hP : PS d R T n x.toInt z.toInt y = P at *
  have cP := cnt_le (P := P) n
  have C1 : CX σ1 T n a d fc R e := ⟨hW, M1, T1, A1, hWA, f2⟩
  have K2 : KX σ1 σ2 := ⟨fun c g1 g2 g3 => r2 c g2, fun c _ _ => by rw [r3]⟩
  have K3 : KX σ1 (sI σ2 4 6 (nI (cntP P n))) := KX_tr K2 (KX_I (Or.inl rfl))
  have C3 := KX_CX K3 C1
  have fin : ∀ σ', KX σ1 σ' → σ'.1 2 8 = 1 ∧ (∀ j, T ≤ j → σ'.1 15 j = σ.1 15 j) ∧ σ'.1 7 = σ.1 7 := by
    intro σ' K
    refine ⟨by rw [K.1 2 (by decide) (by decide) (by decide)]; exact f1, fun j hj => ?_, ?_⟩
    · rw [K.1 15 (by decide) (by decide) (by decide), f3 j hj, q15]
    · rw [K.1 7 (by decide) (by decide) (by decide), f4 7 (by decide) (by decide), K0.1 7 (by decide) (by decide) (by decide)]
  generalize hs3 : sI σ2 4 6 (nI (cntP P n)) = σ3 at K3 C3
  have p6 : σ3.1 4 6 = nI (cntP P n) := by rw [← hs3, sI_on]
  have p7 : σ3.1 4 7 = 0 := by rw [← hs3, sI_ne (by decide), r2 4 (by decide), f4 4 (by decide) (by decide)]; exact o7
  have p9 : σ3.1 4 9 = 0 := by rw [← hs3, sI_ne (by decide), r2 4 (by decide), f4 4 (by decide) (by decide)]; exact o9
  have p8 : σ3.2 4 8 = 0 := by rw [← hs3]; show σ2.2 4 8 = 0; rw [r3, f6]; exact o8
  have p21 : ∀ k, k < n → P k → σ3.1 21 (cntP P k) = nI k := fun k hk hp => by rw [← hs3, sI_off (by decide)]; exact r1 k hk hp
  have noA : ∀ (A : Nat → Prop) (S : Nat → Nat → Prop) (σ' : xSt), (∀ k, ¬ A k) → σ'.1 4 9 = 0 → σ'.1 4 7 = 0 → σ'.2 4 8 = 0 → LX σ' 0 A S := by
    intro A S σ' h g9 g7 g8
    have h0 : cntP A 60 = 0 := (cnt_none 60).mpr (fun k _ => h k)
    refine ⟨g9, by rw [h0]; exact g7, fun k q => absurd q (h k), fun k q => absurd q (h k), fun u hu => ?_, fun k q => absurd q (h k)⟩
    rw [g8, b64_0]
    exact ⟨fun z => absurd z (by decide), fun q => absurd q (h u)⟩
  have noPH : (∀ k, k < n → ¬ (P k ∧ ME d R T n a fc e k)) → PH d R T n a fc e (fun k => P k ∧ ME d R T n a fc e k) 0 := fun h => Or.inl ⟨rfl, fun p _ _ k hk q => h k hk q.1⟩
  have noAF : ∀ k, ¬ AF d R T n a fc e (fun k => P k ∧ ME d R T n a fc e k) 0 k := fun k q => by have := q.2.1; omega
  by_cases h1 : cntP P n = 0
  · have hno := (cnt_none n).mp h1
    rw [if_pos (by rw [p6, h1]; rfl)]
    obtain ⟨g1, g2, g3⟩ := fin σ3 K3
    exact ⟨-3, σ3, 0, rfl, noPH (fun k hk q => hno k hk q.1), Or.inl ⟨hno, tI_m3⟩, noA _ _ σ3 noAF p9 p7 p8, C3, g1, g2, g3⟩
  · rw [if_neg (by rw [p6, i32eq, nIt (by omega), tI_0]; omega)]
    obtain ⟨k0, j1, j2, _⟩ := cnt_ex (P := P) n 0 (by omega)
    unfold fC4_keepMeant
    obtain ⟨σ4, e4, K4, s6, s21, s4, s2⟩ := x_keep_loop (P := P) n 0 gF σ3 (by omega) (by unfold gF; omega) C3 p6 (fun k _ g2 g3 => p21 k g2 g3) (fun k hk => by omega)
    have e0 : fC4_keepMeant_b4 gF σ3 0 0 = some σ4 := e4
    rw [e0, Option.bind_some]
    generalize hQ : (fun k => P k ∧ ME d R T n a fc e k) = Q at *
    have hQi : ∀ k, Q k ↔ (P k ∧ ME d R T n a fc e k) := fun k => by rw [← hQ]
    have C4 := KX_CX K4 C3
    have cQ := cnt_le (P := Q) n
    have t7 : σ4.1 4 7 = 0 := by rw [s4 7 (by decide)]; exact p7
    have t9 : σ4.1 4 9 = 0 := by rw [s4 9 (by decide)]; exact p9
    have t8 : σ4.2 4 8 = 0 := by rw [s2]; exact p8
    by_cases h2 : cntP Q n = 0
    · have hno := (cnt_none n).mp h2
      rw [if_pos (by rw [s6, h2]; rfl)]
      obtain ⟨g1, g2, g3⟩ := fin σ4 (KX_tr K3 K4)
      exact ⟨-4, σ4, 0, rfl, noPH (fun k hk q => hno k hk ((hQi k).mpr q)), Or.inr (Or.inl ⟨⟨k0, j1, j2⟩, fun k hk q => hno k hk ((hQi k).mpr q), tI_m4⟩), noA _ _ σ4 noAF t9 t7 t8, C4, g1, g2, g3⟩
    · rw [if_neg (by rw [s6, i32eq, nIt (by omega), tI_0]; omega)]
      obtain ⟨k2, l1, l2, _⟩ := cnt_ex (P := Q) n 0 (by omega)
      have hQc : ∀ k, Q k → cn d k = a ∨ (VA d k ∧ cn d k ≤ a + 1) := fun k hk => ((hQi k).mp hk).2.1
      obtain ⟨ph, σ5, v1, v2, v3, v4, v5, v6, v7⟩ := x_phases hQc 3 1 gF σ4 rfl (by omega) (by unfold gF; omega) C4 s6 (fun k g1 g2 => s21 k g1 ((hQi k).mp g2)) t7 t9 (fun u hu => by rw [t8, b64_0]) (fun q q1 q2 => by omega)
      have e5 : fC4_decide_b56 gF σ4 1 = fC4_decide_b81 σ5 := v3
      rw [e5]
      unfold fC4_decide_b81
      have C5 := KX_CX v2 C4
      have hph3 : ph ≤ 3 := by rcases v1 with g | g; omega; exact g.2.1
      generalize hAe : AF d R T n a fc e Q ph = A at *
      have hAlt : ∀ k, A k → k < n := fun k hk => by rw [← hAe] at hk; exact hk.1
      have cA := cnt_le (P := A) n
      have c60 : cntP A 60 = cntP A n := by
        have := cnt_ext hAlt (60 - n)
        rw [show n + (60 - n) = 60 by omega] at this
        exact this
      by_cases h3 : cntP A n = 0
      · have hno := (cnt_none n).mp h3
        rw [if_pos (by rw [v5, h3]; rfl)]
        have ph0 : ph = 0 := by
          rcases v1 with g | ⟨g1, g2, ⟨k, m1, m2⟩, _⟩
          · exact g.1
          · exact absurd (show A k by rw [← hAe]; exact ⟨m1, g1, m2⟩) (hno k m1)
        subst ph0
        obtain ⟨g1, g2, g3⟩ := fin σ5 (KX_tr (KX_tr K3 K4) v2)
        have noA2 : ∀ k, ¬ A k := fun k hk => hno k (hAlt k hk) hk
        refine ⟨-5, σ5, 0, rfl, v1, Or.inr (Or.inr (Or.inl ⟨⟨k2, l1, (hQi k2).mp l2⟩, rfl, tI_m5⟩)), ?_, C5, g1, g2, g3⟩
        rw [hAe]
        refine ⟨v4, by rw [c60]; exact v5, fun k q => absurd q (noA2 k), fun k q => absurd q (noA2 k), v7, fun k q => absurd q (noA2 k)⟩
      · rw [if_neg (by rw [v5, i32eq, nIt (by omega), tI_0]; omega)]
        have ph1 : 1 ≤ ph := by
          obtain ⟨k, m1, m2, _⟩ := cnt_ex n 0 (show 0 < cntP A n by omega)
          rw [← hAe] at m2
          exact m2.2.1
        have hok : ∀ k, k < n → A k → OKs d R T n a fc e k (ph = 3) := fun k hk hak => by rw [← hAe] at hak; exact AF_ok hQc k hk hak
        unfold fC4_compareAll
        obtain ⟨σ6, w1, w2, w3, w4⟩ := x_cmp_outer hph3 hok n 0 gF σ5 (by omega) (by unfold gF; omega) C5 v4 v5 v6 (fun k hk => by omega)
        have e6 : fC4_compareAll_b2 gF σ5 0 = some σ6 := w1
        rw [e6, Option.bind_some]
        have K6 : KX σ5 σ6 := ⟨fun c _ _ _ => by rw [w2], fun c _ g => w3 c g⟩
        have C6 := KX_CX K6 C5
        unfold fC4_pick
        obtain ⟨v, x1, x2⟩ := x_pick_loop (S := fun m o => SP d R T n a fc e m o (ph = 3)) hW C6.2.1 (by rw [w2]; exact v5) (fun k g1 g2 => by rw [w2]; exact v6 k g1 g2) (fun u hu => by rw [w3 4 (by decide), v7 u hu]; exact ⟨fun q => ⟨hAlt u q, q⟩, fun q => q.2⟩) w4 n 0 gF (-1) (-1) 0 (by omega) (by unfold gF; omega) (by omega) (Or.inl tI_m1) (fun q => by omega)
        have e7 : fC4_pick_b9 σ6 gF (-1) (-1) 0 0 = some v := x1
        rw [e7, Option.bind_some]
        rw [tI_m1] at x2
        obtain ⟨g1, g2, g3⟩ := fin σ6 (KX_tr (KX_tr (KX_tr K3 K4) v2) K6)
        refine ⟨v, σ6, ph, rfl, v1, Or.inr (Or.inr (Or.inr ⟨ph1, ?_⟩)), ?_, C6, g1, g2, g3⟩
        · rw [x2, hQ, hAe]
        · rw [hAe]
          refine ⟨by rw [w2]; exact v4, by rw [c60, w2]; exact v5, fun k hk => by have := hAlt k hk; omega, fun k hk => by rw [w2]; exact v6 k (hAlt k hk) hk, fun u hu => by rw [w3 4 (by decide)]; exact v7 u hu, fun k hk u hu => ?_⟩
          rw [w4 k (hAlt k hk) hk u hu]
          exact ⟨fun q => q.2, fun q => ⟨hAlt u q.1, q⟩⟩
end CHX3
