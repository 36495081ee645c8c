def OV (d : MD) (R : Nat → Nat → Prop) (T : Nat) (t : Int) (m o : Nat) : Prop := ow d o ≠ ow d m ∧ na d o = na d m ∧ ¬ ST d o ∧ ¬ PR d o ∧ SA d m o ∧ isI R T t ((16 + ow d o : Nat) : Int) ∧ isI R T ((16 + ow d o : Nat) : Int) ((16 + ow d m : Nat) : Int)
/-- member m is seen of the type t from the type f -/
def SN (d : MD) (R : Nat → Nat → Prop) (T n : Nat) (t f : Int) (m : Nat) : Prop := isI R T t ((16 + ow d m : Nat) : Int) ∧ (PR d m → ((16 + ow d m : Nat) : Int) = f) ∧ (ST d m ∨ PR d m ∨ ∀ o, o < n → ¬ OV d R T t m o)
theorem to_ty {T : Nat} {z : Int} (h : toI T z) : tyI T z := Or.inl (Or.inr h)
theorem ow_to {T n : Nat} {d : MD} (hW : WD T n d) (hT2 : T ≤ 24) {m : Nat} (hm : m < n) : toI T ((nI (16 + ow d m)).toInt) := by
  have := (hW m hm).1
  rw [nIt (by omega)]
  unfold toI
  omega
section SEEN
variable {σ : xSt} {T n : Nat} {d : MD} {R : Nat → Nat → Prop}
theorem x_overrides (hM : MX σ n d) (hW : WD T n d) (hXB : XB σ T R) (hT2 : T ≤ 24) {m o : Nat} (hm : m < n) (ho : o < n) : isB (fC2_overrides σ (nI o) (nI m)) (¬ (ST d o ∨ PR d o ∨ ST d m ∨ PR d m) ∧ na d o = na d m ∧ ow d o ≠ ow d m ∧ isI R T ((16 + ow d o : Nat) : Int) ((16 + ow d m : Nat) : Int) ∧ SA d o m) := by
  have hn := hM.2.1
  have w1 := hW m hm
  have w2 := hW o ho
  have q1 := hM.2.2 m hm
  have q2 := hM.2.2 o ho
  have h3 := mk3 (mk d o) w2.2.2.1 (mk d m) w1.2.2.1
  have z1 : ¬ (1 : Int32) = 0 := by decide
  unfold fC2_overrides
  rw [ifin (by omega) (by omega), ifin (by omega) (by omega), clN (by omega), clN (by omega), q1.2.2.1, q2.2.2.1]
  refine isB_ite (fun c => ?_) (fun c => ?_)
  · have c := h3.mp c
    unfold fC2_overrides_b23
    simp only [if_true]
    rw [ifin (by omega) (by omega), ifin (by omega) (by omega), clN (by omega), clN (by omega), q1.2.1, q2.2.1]
    refine isB_ite (fun c1 => ?_) (fun c1 => isB_0 (fun h => c1 (by rw [h.2.1])))
    rw [eqN (by omega) (by omega)] at c1
    rw [ifin2 (by omega) (by omega), ifin2 (by omega) (by omega), q1.1, q2.1]
    refine isB_ite (fun c2 => isB_0 (fun h => ?_)) (fun c2 => ?_)
    · rw [eqN (by omega) (by omega)] at c2
      exact h.2.2.1 (by omega)
    · rw [eqN (by omega) (by omega)] at c2
      rw [ifin2 (by omega) (by omega), ifin2 (by omega) (by omega)]
      have hA := x_isA hXB hT2 (nI (16 + ow d o)) (nI (16 + ow d m)) (to_ty (ow_to hW hT2 ho)) (to_ty (ow_to hW hT2 hm))
      rw [nIt (by omega), nIt (by omega)] at hA
      refine isB_bind hA (fun h1 => ?_) (fun h1 => isB_0 (fun h => h1 h.2.2.2.1))
      rw [if_neg z1]
      refine isB_bind (x_same hM hW ho hm) (fun h2 => ?_) (fun h2 => isB_0 (fun h => h2 h.2.2.2.2))
      rw [if_neg z1]
      exact isB_1 ⟨c, c1, fun e => c2 (by omega), h1, h2⟩
  · unfold fC2_overrides_b23
    rw [if_neg z1]
    exact isB_0 (fun h => c (h3.mpr h.1))
theorem x_over_loop (hM : MX σ n d) (hW : WD T n d) (hXB : XB σ T R) (hT2 : T ≤ 24) {m : Nat} (hm : m < n) (hb : ¬ (ST d m ∨ PR d m)) {x : Int32} (hx : toI T x.toInt) : ∀ (e k f : Nat), k + e = n → e < f → isB (fC2_isOverridden_b2 σ f (nI m) x (nI k)) (∃ o, k ≤ o ∧ o < n ∧ OV d R T x.toInt m o) := by
  have hn := hM.2.1
  have z1 : ¬ (1 : Int32) = 0 := by decide
  intro e
  induction e with
  | zero =>
    intro k f hk hf
    obtain ⟨f, rfl⟩ : ∃ z, f = z + 1 := ⟨f - 1, by omega⟩
    rw [fC2_isOverridden_b2, hM.1, if_pos (by rw [leN (by omega) (by omega)]; omega)]
    exact isB_0 (fun ⟨o, h1, h2, _⟩ => by omega)
  | succ e ih =>
    intro k f hk hf
    obtain ⟨f, rfl⟩ : ∃ z, f = z + 1 := ⟨f - 1, by omega⟩
    have w2 := hW k (by omega)
    rw [fC2_isOverridden_b2, hM.1, if_neg (by rw [leN (by omega) (by omega)]; omega), ifin (by omega) (by omega), clN (by omega), (hM.2.2 k (by omega)).1]
    unfold fC2_isOverridden_b38
    rw [sc1]
    have hA := x_isA hXB hT2 x (nI (16 + ow d k)) (to_ty hx) (to_ty (ow_to hW hT2 (by omega)))
    rw [nIt (n := 16 + ow d k) (by omega)] at hA
    have next : isB (fC2_isOverridden_b2 σ f (nI m) x (nI (k + 1))) (∃ o, k + 1 ≤ o ∧ o < n ∧ OV d R T x.toInt m o) := ih (k + 1) f (by omega) (by omega)
    have skip : ¬ OV d R T x.toInt m k → ((∃ o, k + 1 ≤ o ∧ o < n ∧ OV d R T x.toInt m o) ↔ (∃ o, k ≤ o ∧ o < n ∧ OV d R T x.toInt m o)) := by
      intro hno
      constructor
      · rintro ⟨o, h1, h2, h3⟩; exact ⟨o, by omega, h2, h3⟩
      · rintro ⟨o, h1, h2, h3⟩
        rcases Nat.lt_or_ge k o with q | q
        · exact ⟨o, q, h2, h3⟩
        · have : o = k := by omega
          subst this
          exact absurd h3 hno
    refine isB_bind hA (fun h1 => ?_) (fun h1 => ?_)
    · rw [if_neg z1]
      refine isB_bind (x_overrides hM hW hXB hT2 hm (o := k) (by omega)) (fun h2 => ?_) (fun h2 => ?_)
      · rw [if_neg z1]
        exact isB_1 ⟨k, Nat.le_refl k, by omega, h2.2.2.1, h2.2.1, fun z => h2.1 (Or.inl z), fun z => h2.1 (Or.inr (Or.inl z)), SA_symm h2.2.2.2.2, h1, h2.2.2.2.1⟩
      · rw [if_pos rfl]
        refine isB_iff next (skip (fun h => h2 ⟨?_, h.2.1, h.1, h.2.2.2.2.2.2, SA_symm h.2.2.2.2.1⟩))
        rintro (q | q | q | q)
        · exact h.2.2.1 q
        · exact h.2.2.2.1 q
        · exact hb (Or.inl q)
        · exact hb (Or.inr q)
    · rw [if_pos rfl]
      exact isB_iff next (skip (fun h => h1 h.2.2.2.2.2.1))
theorem x_over_bound (hM : MX σ n d) (hW : WD T n d) (hXB : XB σ T R) (hT2 : T ≤ 24) {m : Nat} (hm : m < n) (hb : ST d m ∨ PR d m) {x : Int32} (hx : toI T x.toInt) : ∀ (e k f : Nat), k + e = n → e < f → isB (fC2_isOverridden_b2 σ f (nI m) x (nI k)) False := by
  have hn := hM.2.1
  have z1 : ¬ (1 : Int32) = 0 := by decide
  intro e
  induction e with
  | zero =>
    intro k f hk hf
    obtain ⟨f, rfl⟩ : ∃ z, f = z + 1 := ⟨f - 1, by omega⟩
    rw [fC2_isOverridden_b2, hM.1, if_pos (by rw [leN (by omega) (by omega)]; omega)]
    exact isB_0 id
  | succ e ih =>
    intro k f hk hf
    obtain ⟨f, rfl⟩ : ∃ z, f = z + 1 := ⟨f - 1, by omega⟩
    have w2 := hW k (by omega)
    rw [fC2_isOverridden_b2, hM.1, if_neg (by rw [leN (by omega) (by omega)]; omega), ifin (by omega) (by omega), clN (by omega), (hM.2.2 k (by omega)).1]
    unfold fC2_isOverridden_b38
    rw [sc1]
    have hA := x_isA hXB hT2 x (nI (16 + ow d k)) (to_ty hx) (to_ty (ow_to hW hT2 (by omega)))
    refine isB_bind hA (fun h1 => ?_) (fun h1 => ?_)
    · rw [if_neg z1]
      refine isB_bind (x_overrides hM hW hXB hT2 hm (o := k) (by omega)) (fun h2 => ?_) (fun h2 => ?_)
      · exact absurd (Or.inr (Or.inr hb)) h2.1
      · rw [if_pos rfl]
        exact ih (k + 1) f (by omega) (by omega)
    · rw [if_pos rfl]
      exact ih (k + 1) f (by omega) (by omega)
theorem x_isSeen (hM : MX σ n d) (hW : WD T n d) (hXB : XB σ T R) (hT2 : T ≤ 24) {m : Nat} (hm : m < n) {x y : Int32} (hx : toI T x.toInt) : isB (fC2_isSeen σ (nI m) x y) (SN d R T n x.toInt y.toInt m) := by
  have hn := hM.2.1
  have w1 := hW m hm
  have q1 := hM.2.2 m hm
  have z1 : ¬ (1 : Int32) = 0 := by decide
  unfold fC2_isSeen fC2_isOverridden
  rw [ifin (by omega) (by omega), clN (by omega), q1.1]
  have hA := x_isA hXB hT2 x (nI (16 + ow d m)) (to_ty hx) (to_ty (ow_to hW hT2 hm))
  rw [nIt (n := 16 + ow d m) (by omega)] at hA
  refine isB_bind hA (fun h1 => ?_) (fun h1 => isB_0 (fun h => h1 h.1))
  rw [if_neg z1]
  refine isB_bind (x_isPrivate hM hW hm) (fun h2 => ?_) (fun h2 => ?_)
  · rw [if_neg z1, ifin2 (by omega) (by omega)]
    refine isB_ite (fun c => isB_1 ⟨h1, fun _ => ?_, Or.inr (Or.inl h2)⟩) (fun c => isB_0 (fun h => c ?_))
    · rw [i32eq, nIt (by omega)] at c; exact c
    · rw [i32eq, nIt (by omega)]; exact h.2.1 h2
  · rw [if_pos rfl]
    by_cases hs : ST d m
    · refine isB_bind (x_over_bound hM hW hXB hT2 hm (Or.inl hs) hx n 0 gF (by omega) (by unfold gF; omega)) False.elim (fun _ => ?_)
      rw [if_pos rfl]
      exact isB_1 ⟨h1, fun h => absurd h h2, Or.inl hs⟩
    · refine isB_bind (x_over_loop hM hW hXB hT2 hm (fun h => h.elim hs h2) hx n 0 gF (by omega) (by unfold gF; omega)) (fun h3 => ?_) (fun h3 => ?_)
      · rw [if_neg z1]
        obtain ⟨o, _, ho, hov⟩ := h3
        exact isB_0 (fun h => by
          rcases h.2.2 with q | q | q
          · exact hs q
          · exact h2 q
          · exact q o ho hov)
      · rw [if_pos rfl]
        exact isB_1 ⟨h1, fun h => absurd h h2, Or.inr (Or.inr (fun o ho hov => h3 ⟨o, Nat.zero_le o, ho, hov⟩))⟩
theorem m_seen_loop (hM : MM σ n d) (hW : WD T n d) (hT : σ.1 0 0 = nI T) (hT2 : T ≤ 24) {m : Nat} (hm : m < n) {x : Int32} (hx : toI T x.toInt) : ∀ (e k f : Nat), k + e = n → e < f → isB (fCM_isSeen_b58 σ f (nI m) x (nI k)) (∀ o, k ≤ o → o < n → ¬ OV d (Rm σ) T x.toInt m o) := by
  have hn := hM.2.1
  have z1 : ¬ (1 : Int32) = 0 := by decide
  have w1 := hW m hm
  have q1 := hM.2.2 m hm
  intro e
  induction e with
  | zero =>
    intro k f hk hf
    obtain ⟨f, rfl⟩ : ∃ z, f = z + 1 := ⟨f - 1, by omega⟩
    rw [fCM_isSeen_b58, hM.1, if_pos (by rw [leN (by omega) (by omega)]; omega)]
    exact isB_1 (fun o h1 h2 => by omega)
  | succ e ih =>
    intro k f hk hf
    obtain ⟨f, rfl⟩ : ∃ z, f = z + 1 := ⟨f - 1, by omega⟩
    have w2 := hW k (by omega)
    have q2 := hM.2.2 k (by omega)
    have next : isB (fCM_isSeen_b58 σ f (nI m) x (nI (k + 1))) (∀ o, k + 1 ≤ o → o < n → ¬ OV d (Rm σ) T x.toInt m o) := ih (k + 1) f (by omega) (by omega)
    have skip : ¬ OV d (Rm σ) T x.toInt m k → ((∀ o, k + 1 ≤ o → o < n → ¬ OV d (Rm σ) T x.toInt m o) ↔ (∀ o, k ≤ o → o < n → ¬ OV d (Rm σ) T x.toInt m o)) := by
      intro hno
      constructor
      · intro h o h1 h2
        rcases Nat.lt_or_ge k o with q | q
        · exact h o q h2
        · have : o = k := by omega
          subst this
          exact hno
      · intro h o h1 h2; exact h o (by omega) h2
    have go0 : ¬ OV d (Rm σ) T x.toInt m k → isB (fCM_isSeen_b133 (fCM_isSeen_b58 σ f) σ (nI m) x (nI k)) (∀ o, k ≤ o → o < n → ¬ OV d (Rm σ) T x.toInt m o) := by
      intro h
      unfold fCM_isSeen_b133 fCM_isSeen_b134
      rw [if_pos rfl]
      unfold fCM_isSeen_b178
      rw [sc1]
      exact isB_iff next (skip h)
    rw [fCM_isSeen_b58, hM.1, if_neg (by rw [leN (by omega) (by omega)]; omega), ifin (by omega) (by omega), ifin (by omega) (by omega), clN (by omega), clN (by omega), q1.1, q2.1]
    refine isB_ite (fun c => go0 (fun h => ?_)) (fun c => ?_)
    · rw [eqN (by omega) (by omega)] at c; exact h.1 (by omega)
    rw [eqN (by omega) (by omega)] at c
    rw [ifin2 (by omega) (by omega), ifin2 (by omega) (by omega), q1.2.1, q2.2.1]
    refine isB_ite (fun c1 => ?_) (fun c1 => go0 (fun h => c1 (by rw [h.2.1])))
    rw [eqN (by omega) (by omega)] at c1
    refine isB_bind (m_has1 hM hW (m := k) (by omega)) (fun h1 => ?_) (fun h1 => ?_)
    · rw [if_neg z1]; exact go0 (fun h => h.2.2.1 h1)
    rw [if_pos rfl]
    refine isB_bind (m_has2 hM hW (m := k) (by omega)) (fun h2 => ?_) (fun h2 => ?_)
    · rw [if_neg z1]; exact go0 (fun h => h.2.2.2.1 h2)
    rw [if_pos rfl]
    refine isB_bind (m_same hM hW hm (o := k) (by omega)) (fun h3 => ?_) (fun h3 => ?_)
    · rw [if_neg z1]
      unfold fCM_isSeen_b134 fCM_isSeen_b178
      rw [if_neg z1, ifin (by omega) (by omega), ifin (by omega) (by omega), ifin (by omega) (by omega), clN (by omega), clN (by omega), q1.1, q2.1, sc1]
      have hx0 : 0 ≤ x.toInt := by unfold toI at hx; omega
      have hA := m_isIt hT hT2 x (nI (16 + ow d k)) hx0 (by rw [nIt (by omega)]; omega)
      rw [nIt (n := 16 + ow d k) (by omega)] at hA
      have hB := m_isIt hT hT2 (nI (16 + ow d k)) (nI (16 + ow d m)) (by rw [nIt (by omega)]; omega) (by rw [nIt (by omega)]; omega)
      rw [nIt (n := 16 + ow d k) (by omega), nIt (n := 16 + ow d m) (by omega)] at hB
      refine isB_bind hA (fun h4 => ?_) (fun h4 => ?_)
      · rw [if_neg z1]
        refine isB_bind hB (fun h5 => ?_) (fun h5 => ?_)
        · rw [if_neg z1]
          exact isB_0 (fun h => h k (Nat.le_refl k) (by omega) ⟨fun q => c (by omega), c1, h1, h2, h3, h4, h5⟩)
        · rw [if_pos rfl]
          exact isB_iff next (skip (fun h => h5 h.2.2.2.2.2.2))
      · rw [if_pos rfl]
        exact isB_iff next (skip (fun h => h4 h.2.2.2.2.2.1))
    · rw [if_pos rfl]; exact go0 (fun h => h3 h.2.2.2.2.1)
theorem m_isSeen_b35 (hM : MM σ n d) (hW : WD T n d) (hT : σ.1 0 0 = nI T) (hT2 : T ≤ 24) {m : Nat} (hm : m < n) {x : Int32} (hx : toI T x.toInt) : isB (fCM_isSeen_b35 σ (nI m) x) (ST d m ∨ PR d m ∨ ∀ o, o < n → ¬ OV d (Rm σ) T x.toInt m o) := by
  have hn := hM.2.1
  have z1 : ¬ (1 : Int32) = 0 := by decide
  unfold fCM_isSeen_b35
  refine isB_bind (m_has1 hM hW hm) (fun h1 => ?_) (fun h1 => ?_)
  · rw [if_neg z1]; exact isB_1 (Or.inl h1)
  rw [if_pos rfl]
  refine isB_bind (m_has2 hM hW hm) (fun h2 => ?_) (fun h2 => ?_)
  · rw [if_neg z1]; exact isB_1 (Or.inr (Or.inl h2))
  rw [if_pos rfl]
  refine isB_iff (m_seen_loop hM hW hT hT2 hm hx n 0 gF (by omega) (by unfold gF; omega)) ⟨fun h => Or.inr (Or.inr (fun o ho => h o (Nat.zero_le o) ho)), fun h o _ ho => ?_⟩
  rcases h with q | q | q
  · exact absurd q h1
  · exact absurd q h2
  · exact q o ho
theorem m_isSeen (hM : MM σ n d) (hW : WD T n d) (hT : σ.1 0 0 = nI T) (hT2 : T ≤ 24) {m : Nat} (hm : m < n) {x y : Int32} (hx : toI T x.toInt) : isB (fCM_isSeen σ (nI m) x y) (SN d (Rm σ) T n x.toInt y.toInt m) := by
  have hn := hM.2.1
  have w1 := hW m hm
  have q1 := hM.2.2 m hm
  have z1 : ¬ (1 : Int32) = 0 := by decide
  have hx0 : 0 ≤ x.toInt := by unfold toI at hx; omega
  have b35 := m_isSeen_b35 hM hW hT hT2 hm hx
  unfold fCM_isSeen
  rw [ifin (by omega) (by omega), clN (by omega), q1.1]
  have hA := m_isIt hT hT2 x (nI (16 + ow d m)) hx0 (by rw [nIt (by omega)]; omega)
  rw [nIt (n := 16 + ow d m) (by omega)] at hA
  refine isB_bind hA (fun h1 => ?_) (fun h1 => isB_0 (fun h => h1 h.1))
  rw [if_neg z1]
  refine isB_bind (m_has2 hM hW hm) (fun h2 => ?_) (fun h2 => ?_)
  · rw [if_neg z1, ifin2 (by omega) (by omega)]
    refine isB_ite (fun c => isB_iff b35 ⟨fun h => ⟨h1, fun _ => ?_, h⟩, fun h => h.2.2⟩) (fun c => isB_0 (fun h => c ?_))
    · rw [i32eq, nIt (by omega)] at c; exact c
    · rw [i32eq, nIt (by omega)]; exact h.2.1 h2
  · rw [if_pos rfl]
    exact isB_iff b35 ⟨fun h => ⟨h1, fun z => absurd z h2, h⟩, fun h => h.2.2⟩
end SEEN
