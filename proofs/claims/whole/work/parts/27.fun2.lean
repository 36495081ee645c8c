theorem nmE {α β : Type} {e : α} {f : α → Option β} : nm e f = f e := rfl
theorem sI_off {σ : xSt} {k j c : Nat} {v : Int32} (h : c ≠ k) : (sI σ k j v).1 c = σ.1 c := if_neg h
theorem sI_on {σ : xSt} {k j : Nat} {v : Int32} : (sI σ k j v).1 k j = v := by rw [sI_1, if_pos ⟨rfl, rfl⟩]
theorem sI_ne {σ : xSt} {k j c i : Nat} {v : Int32} (h : ¬ (c = k ∧ i = j)) : (sI σ k j v).1 c i = σ.1 c i := by rw [sI_1, if_neg h]
theorem sL_off {σ : xSt} {k j c : Nat} {v : Int64} (h : c ≠ k) : (sL σ k j v).2 c = σ.2 c := if_neg h
theorem sub16N (k : Nat) : nI (16 + k) - (16 : Int32) = nI k := by
  show nI (16 + k) - nI 16 = _
  rw [pk_sub (by omega)]
  congr 1
  omega
theorem add16N (k : Nat) : (16 : Int32) + nI k = nI (16 + k) := nI_add 16 k
theorem to_ix {T : Nat} {x : Int32} (h : toI T x.toInt) : ∃ k, k < T ∧ x = nI (16 + k) := by
  obtain ⟨h1, h2⟩ := h
  have := i32hi x
  refine ⟨(x.toInt - 16).toNat, by omega, ?_⟩
  rw [i32eq, nI_toInt (by omega)]
  omega
theorem ix_to {T k : Nat} (h : k < T) (hT : T ≤ 24) : toI T (nI (16 + k)).toInt := by rw [nIt (by omega)]; unfold toI; omega
/-- the told types on the class's side, and on the reference's -/
def TX (σ : xSt) (T : Nat) (fc : Nat → Prop) (R : Nat → Nat → Prop) : Prop := σ.1 1 3 = nI T ∧ T ≤ 24 ∧ (∀ k, k < T → (fc k ∧ σ.1 8 k = 1) ∨ (¬ fc k ∧ σ.1 8 k = 0)) ∧ XB σ T R
def TM (τ : xSt) (T : Nat) (fc : Nat → Prop) (R : Nat → Nat → Prop) : Prop := τ.1 0 0 = nI T ∧ T ≤ 24 ∧ (∀ k, k < T → (fc k ∧ τ.1 1 k = 1) ∨ (¬ fc k ∧ τ.1 1 k = 0)) ∧ Rm τ = R
theorem TX_of {σ σ' : xSt} {T : Nat} {fc : Nat → Prop} {R : Nat → Nat → Prop} (h1 : σ'.1 1 3 = σ.1 1 3) (h8 : σ'.1 8 = σ.1 8) (h6 : σ'.2 6 = σ.2 6) (h : TX σ T fc R) : TX σ' T fc R := by
  unfold TX XB at *
  rw [h1, h8, h6]
  exact h
theorem TM_of {σ σ' : xSt} {T : Nat} {fc : Nat → Prop} {R : Nat → Nat → Prop} (h1 : σ'.1 0 0 = σ.1 0 0) (h8 : σ'.1 1 = σ.1 1) (h6 : σ'.1 5 = σ.1 5) (h : TM σ T fc R) : TM σ' T fc R := by
  have e : Rm σ' = Rm σ := by funext k j; unfold Rm; rw [h6]
  unfold TM at *
  rw [h1, h8, e]
  exact h
theorem MX_of {σ σ' : xSt} {n : Nat} {d : MD} (h2 : σ'.1 2 9 = σ.1 2 9) (hc : ∀ c, 9 ≤ c → c ≤ 14 → σ'.1 c = σ.1 c) (h : MX σ n d) : MX σ' n d := by
  unfold MX at *
  rw [h2, hc 9 (by decide) (by decide), hc 10 (by decide) (by decide), hc 11 (by decide) (by decide), hc 12 (by decide) (by decide), hc 13 (by decide) (by decide), hc 14 (by decide) (by decide)]
  exact h
theorem MM_of {σ σ' : xSt} {n : Nat} {d : MD} (h2 : σ'.1 0 6 = σ.1 0 6) (hc : ∀ c, 6 ≤ c → c ≤ 11 → σ'.1 c = σ.1 c) (h : MM σ n d) : MM σ' n d := by
  unfold MM at *
  rw [h2, hc 6 (by decide) (by decide), hc 7 (by decide) (by decide), hc 8 (by decide) (by decide), hc 9 (by decide) (by decide), hc 10 (by decide) (by decide), hc 11 (by decide) (by decide)]
  exact h
/-- the member that makes the type z a function, or -1 -/
noncomputable def FN (d : MD) (R : Nat → Nat → Prop) (T n : Nat) (fc : Nat → Prop) (z : Int) : Int := @ite _ (toI T z ∧ fc (z - 16).toNat) (Classical.propDecidable _) (FU d R T n z) (-1)
theorem FN_range (d : MD) (R : Nat → Nat → Prop) (T n : Nat) (fc : Nat → Prop) (z : Int) : FN d R T n fc z = -1 ∨ (0 ≤ FN d R T n fc z ∧ FN d R T n fc z < n) := by
  unfold FN
  by_cases h : toI T z ∧ fc (z - 16).toNat
  · rw [if_pos h]; exact FU_range d R T n z
  · rw [if_neg h]; exact Or.inl rfl
theorem FN_at {d : MD} {R : Nat → Nat → Prop} {T n : Nat} {fc : Nat → Prop} {k : Nat} (hk : k < T) : (fc k → FN d R T n fc ((16 + k : Nat) : Int) = FU d R T n ((16 + k : Nat) : Int)) ∧ (¬ fc k → FN d R T n fc ((16 + k : Nat) : Int) = -1) := by
  have e : (((16 + k : Nat) : Int) - 16).toNat = k := by omega
  unfold FN
  rw [e]
  constructor
  · intro h; rw [if_pos ⟨by unfold toI; omega, h⟩]
  · intro h; rw [if_neg (fun q => h q.2)]
section FUN2
variable {σ : xSt} {T n : Nat} {d : MD} {R : Nat → Nat → Prop} {fc : Nat → Prop}
theorem x_isInterface (hT : TX σ T fc R) (x : Int32) : isB (fC1_isInterface σ x) (toI T x.toInt ∧ fc (x.toInt - 16).toNat) := by
  have z1 : ¬ (1 : Int32) = 0 := by decide
  have hT2 := hT.2.1
  unfold fC1_isInterface
  refine isB_bind (x_isTold hT.1 hT.2.1 x) (fun h => ?_) (fun h => isB_0 (fun q => h q.1))
  rw [if_neg z1]
  obtain ⟨k, hk, rfl⟩ := to_ix h
  have e : ((nI (16 + k)).toInt - 16).toNat = k := by rw [nIt (by omega)]; omega
  rw [sub16N, ifin (by omega) (by omega), clN (by omega), e]
  rcases hT.2.2.1 k hk with ⟨q1, q2⟩ | ⟨q1, q2⟩
  · rw [q2, if_neg z1]; exact isB_1 ⟨h, q1⟩
  · rw [q2, if_pos rfl]; exact isB_0 (fun q => q1 q.2)
/-- the class's functions are settled -/
def FS (σ : xSt) (d : MD) (R : Nat → Nat → Prop) (T n : Nat) (fc : Nat → Prop) : Prop := ∀ k, k < T → (σ.1 15 k).toInt = FN d R T n fc ((16 + k : Nat) : Int)
theorem x_settle_loop (hW : WD T n d) : ∀ (e k f : Nat) (σ : xSt), k + e = T → e < f → MX σ n d → TX σ T fc R → (∀ j, j < k → (σ.1 15 j).toInt = FN d R T n fc ((16 + j : Nat) : Int)) → ∃ σ', fC2_settleFunctions_b10 f σ (nI k) = some σ' ∧ σ'.1 2 8 = 1 ∧ FS σ' d R T n fc ∧ (∀ j, T ≤ j → σ'.1 15 j = σ.1 15 j) ∧ (∀ c, c ≠ 15 → c ≠ 2 → σ'.1 c = σ.1 c) ∧ (∀ j, j ≠ 8 → σ'.1 2 j = σ.1 2 j) ∧ σ'.2 = σ.2 := by
  have z1 : ¬ (1 : Int32) = 0 := by decide
  intro e
  induction e with
  | zero =>
    intro k f σ hk hf hM hT hs
    have hT2 := hT.2.1
    obtain ⟨f, rfl⟩ : ∃ z, f = z + 1 := ⟨f - 1, by omega⟩
    rw [fC2_settleFunctions_b10]
    unfold fC1_size
    rw [hT.1, Option.bind_some, if_pos (by rw [leN (by omega) (by omega)]; omega)]
    refine ⟨sI σ 2 8 1, rfl, sI_on, fun j hj => ?_, fun j _ => ?_, fun c h1 h2 => sI_off h2, fun j hj => sI_ne (fun q => hj q.2), rfl⟩
    · rw [sI_off (by decide)]; exact hs j (by omega)
    · rw [sI_off (by decide)]
  | succ e ih =>
    intro k f σ hk hf hM hT hs
    have hT2 := hT.2.1
    obtain ⟨f, rfl⟩ : ∃ z, f = z + 1 := ⟨f - 1, by omega⟩
    rw [fC2_settleFunctions_b10]
    unfold fC1_size
    rw [hT.1, Option.bind_some, if_neg (by rw [leN (by omega) (by omega)]; omega), add16N]
    have step : ∀ w : Int32, w.toInt = FN d R T n fc ((16 + k : Nat) : Int) → ∃ σ', fC2_settleFunctions_b51 (fC2_settleFunctions_b10 f) σ (nI k) (nI k) w = some σ' ∧ σ'.1 2 8 = 1 ∧ FS σ' d R T n fc ∧ (∀ j, T ≤ j → σ'.1 15 j = σ.1 15 j) ∧ (∀ c, c ≠ 15 → c ≠ 2 → σ'.1 c = σ.1 c) ∧ (∀ j, j ≠ 8 → σ'.1 2 j = σ.1 2 j) ∧ σ'.2 = σ.2 := by
      intro w hw
      unfold fC2_settleFunctions_b51
      rw [ifin (by omega) (by omega), clN (by omega), nmE, sc1]
      obtain ⟨σ', h1, h2, h3, h4, h5, h6, h7⟩ := ih (k + 1) f (sI σ 15 k w) (by omega) (by omega) (MX_of (by rw [sI_off (by decide)]) (fun c g1 g2 => sI_off (by omega)) hM) (TX_of (by rw [sI_off (by decide)]) (sI_off (by decide)) rfl hT) (fun j hj => by
        by_cases q : j = k
        · subst q; rw [sI_on]; exact hw
        · rw [sI_ne (fun z => q z.2)]; exact hs j (by omega))
      exact ⟨σ', h1, h2, h3, fun j hj => by rw [h4 j hj, sI_ne (fun z => by omega)], fun c g1 g2 => by rw [h5 c g1 g2, sI_off g1], fun j hj => by rw [h6 j hj, sI_off (by decide)], h7⟩
    have hI := x_isInterface hT (nI (16 + k))
    have e2 : ((nI (16 + k)).toInt - 16).toNat = k := by rw [nIt (by omega)]; omega
    rw [e2] at hI
    rw [nmE]
    rcases hI with ⟨h1, e1⟩ | ⟨h1, e1⟩
    · rw [e1, Option.bind_some, if_neg z1]
      obtain ⟨w, hw, hw2⟩ := x_find hM hW hT.2.2.2 hT2 (x := nI (16 + k)) h1.1
      rw [hw, Option.bind_some]
      refine step w ?_
      rw [hw2, nIt (by omega), (FN_at (by omega)).1 h1.2]
    · rw [e1, Option.bind_some, if_pos rfl]
      refine step (-1) ?_
      rw [tI_m1, (FN_at (by omega)).2 (fun q => h1 ⟨ix_to (by omega) hT2, q⟩)]
theorem x_settle (hW : WD T n d) (hM : MX σ n d) (hT : TX σ T fc R) (hs : (σ.1 2 8 = 1 ∧ FS σ d R T n fc) ∨ σ.1 2 8 = 0) : ∃ σ', fC2_settleFunctions σ = some σ' ∧ σ'.1 2 8 = 1 ∧ FS σ' d R T n fc ∧ (∀ j, T ≤ j → σ'.1 15 j = σ.1 15 j) ∧ (∀ c, c ≠ 15 → c ≠ 2 → σ'.1 c = σ.1 c) ∧ (∀ j, j ≠ 8 → σ'.1 2 j = σ.1 2 j) ∧ σ'.2 = σ.2 := by
  have hT2 := hT.2.1
  unfold fC2_settleFunctions
  rcases hs with ⟨h1, h2⟩ | h1
  · rw [h1, if_neg (by decide)]
    exact ⟨σ, rfl, h1, h2, fun _ _ => rfl, fun _ _ _ => rfl, fun _ _ => rfl, rfl⟩
  · rw [h1, if_pos rfl]
    exact x_settle_loop hW T 0 gF σ (by omega) (by unfold gF; omega) hM hT (fun j hj => by omega)
theorem x_functionOf (hT : TX σ T fc R) (hF : FS σ d R T n fc) (x : Int32) : isV (fC2_functionOf σ x) (FN d R T n fc x.toInt) := by
  have z1 : ¬ (1 : Int32) = 0 := by decide
  have hT2 := hT.2.1
  unfold fC2_functionOf
  rcases x_isTold hT.1 hT.2.1 x with ⟨h, e⟩ | ⟨h, e⟩
  · rw [e, Option.bind_some, if_neg z1]
    obtain ⟨k, hk, rfl⟩ := to_ix h
    rw [sub16N, ifin (by omega) (by omega), clN (by omega), nIt (by omega)]
    exact ⟨_, rfl, hF k hk⟩
  · rw [e, Option.bind_some, if_pos rfl]
    refine ⟨-1, rfl, ?_⟩
    unfold FN
    rw [if_neg (fun q => h q.1)]
    exact tI_m1
/-- the reference's functions: not asked yet, or right -/
def FM (τ : xSt) (d : MD) (R : Nat → Nat → Prop) (T n : Nat) (fc : Nat → Prop) : Prop := ∀ k, k < T → τ.1 19 k = -2 ∨ (fc k ∧ (τ.1 19 k).toInt = FN d R T n fc ((16 + k : Nat) : Int))
/-- the reference's state but for its functions' cache -/
def KC (τ τ' : xSt) : Prop := (∀ c, c ≠ 19 → τ'.1 c = τ.1 c) ∧ τ'.2 = τ.2
theorem KC_rf (τ : xSt) : KC τ τ := ⟨fun _ _ => rfl, rfl⟩
theorem KC_tr {a b c : xSt} (h1 : KC a b) (h2 : KC b c) : KC a c := ⟨fun q h => (h2.1 q h).trans (h1.1 q h), h2.2.trans h1.2⟩
theorem KC_MM {τ τ' : xSt} (h : KC τ τ') (hM : MM τ n d) : MM τ' n d := MM_of (by rw [h.1 0 (by decide)]) (fun c h1 h2 => h.1 c (by omega)) hM
theorem KC_TM {τ τ' : xSt} (h : KC τ τ') (hT : TM τ T fc R) : TM τ' T fc R := TM_of (by rw [h.1 0 (by decide)]) (h.1 1 (by decide)) (h.1 5 (by decide)) hT
theorem m_functionOf (hW : WD T n d) (hM : MM σ n d) (hT : TM σ T fc R) (hF : FM σ d R T n fc) (x : Int32) : ∃ w σ', fCM_functionOf σ x = some (w, σ') ∧ w.toInt = FN d R T n fc x.toInt ∧ KC σ σ' ∧ FM σ' d R T n fc := by
  have z1 : ¬ (1 : Int32) = 0 := by decide
  have hT2 := hT.2.1
  unfold fCM_functionOf
  rcases m_isTold hT.1 hT.2.1 x with ⟨h, e⟩ | ⟨h, e⟩
  · rw [e, Option.bind_some, if_neg z1]
    obtain ⟨k, hk, rfl⟩ := to_ix h
    rw [sub16N, ifin (by omega) (by omega), ifin (by omega) (by omega), clN (by omega), nIt (by omega)]
    rcases hT.2.2.1 k hk with ⟨q1, q2⟩ | ⟨q1, q2⟩
    · rw [q2, if_neg z1]
      by_cases hc : σ.1 19 k = -2
      · rw [if_pos hc]
        obtain ⟨w, hw, hw2⟩ := m_find hM hW hT.1 hT2 (x := nI (16 + k)) h
        rw [hw, Option.bind_some]
        rw [ifin2 (by omega) (by omega), nmE]
        unfold fCM_functionOf_b50
        rw [sub16N, ifin (by omega) (by omega), clN (by omega), sI_on]
        rw [nIt (by omega), hT.2.2.2] at hw2
        refine ⟨w, sI σ 19 k w, rfl, by rw [hw2, (FN_at hk).1 q1], ⟨fun c h => sI_off h, rfl⟩, fun j hj => ?_⟩
        by_cases q : j = k
        · subst q; rw [sI_on]; exact Or.inr ⟨q1, by rw [hw2, (FN_at hk).1 q1]⟩
        · rw [sI_ne (fun z => q z.2)]; exact hF j hj
      · rw [if_neg hc]
        unfold fCM_functionOf_b50
        rw [sub16N, ifin (by omega) (by omega), clN (by omega)]
        rcases hF k hk with g | g
        · exact absurd g hc
        · exact ⟨_, σ, rfl, g.2, KC_rf σ, hF⟩
    · rw [q2, if_pos rfl]
      exact ⟨-1, σ, rfl, by rw [tI_m1, (FN_at hk).2 q1], KC_rf σ, hF⟩
  · rw [e, Option.bind_some, if_pos rfl]
    refine ⟨-1, σ, rfl, ?_, KC_rf σ, hF⟩
    unfold FN
    rw [if_neg (fun q => h q.1)]
    exact tI_m1
end FUN2
