-- MEMBERS: owner's place, name, marks, count, result, parameters
abbrev MD : Type := (Nat → Nat) × (Nat → Nat) × (Nat → Nat) × (Nat → Nat) × (Nat → Int) × (Nat → Nat → Int)
def ow (d : MD) (m : Nat) : Nat := d.1 m
def na (d : MD) (m : Nat) : Nat := d.2.1 m
def mk (d : MD) (m : Nat) : Nat := d.2.2.1 m
def cn (d : MD) (m : Nat) : Nat := d.2.2.2.1 m
def rs (d : MD) (m : Nat) : Int := d.2.2.2.2.1 m
def pa (d : MD) (m k : Nat) : Int := d.2.2.2.2.2 m k
def ST (d : MD) (m : Nat) : Prop := (mk d m).testBit 0 = true
def PR (d : MD) (m : Nat) : Prop := (mk d m).testBit 1 = true
def AB (d : MD) (m : Nat) : Prop := (mk d m).testBit 2 = true
def VA (d : MD) (m : Nat) : Prop := (mk d m).testBit 3 = true
/-- valid data of n members over T told types -/
def WD (T n : Nat) (d : MD) : Prop := ∀ m, m < n → ow d m < T ∧ na d m < 16 ∧ mk d m < 16 ∧ cn d m ≤ 4 ∧ (rs d m = -1 ∨ vaI T (rs d m)) ∧ (∀ k, k < cn d m → vaI T (pa d m k)) ∧ (VA d m → 0 < cn d m ∧ 64 ≤ pa d m (cn d m - 1))
def MX (σ : xSt) (n : Nat) (d : MD) : Prop := σ.1 2 9 = nI n ∧ n ≤ 60 ∧ ∀ m, m < n → σ.1 9 m = nI (16 + ow d m) ∧ σ.1 10 m = nI (na d m) ∧ σ.1 11 m = nI (mk d m) ∧ (σ.1 12 m).toInt = rs d m ∧ σ.1 13 m = nI (cn d m) ∧ ∀ k, k < cn d m → (σ.1 14 (4 * m + k)).toInt = pa d m k
def MM (τ : xSt) (n : Nat) (d : MD) : Prop := τ.1 0 6 = nI n ∧ n ≤ 60 ∧ ∀ m, m < n → τ.1 6 m = nI (16 + ow d m) ∧ τ.1 7 m = nI (na d m) ∧ τ.1 8 m = nI (mk d m) ∧ (τ.1 9 m).toInt = rs d m ∧ τ.1 10 m = nI (cn d m) ∧ ∀ k, k < cn d m → (τ.1 11 (4 * m + k)).toInt = pa d m k
def SA (d : MD) (m o : Nat) : Prop := cn d m = cn d o ∧ ∀ k, k < cn d m → pa d m k = pa d o k
theorem SA_symm {d : MD} {m o : Nat} (h : SA d m o) : SA d o m := ⟨h.1.symm, fun k hk => (h.2 k (by rw [h.1]; exact hk)).symm⟩
theorem ifin {i N : Nat} (h : i < N) (hN : N < 1000000) {α : Type} {a b : α} : (if nI i < 0 ∨ N ≤ (nI i).toNatClampNeg then a else b) = b := if_neg (vp_in_nI h (by omega))
theorem ifin2 {i N : Nat} (h : i < N) (hi : i < 1000000) {α : Type} {a b : α} : (if nI i < 0 ∨ N ≤ i then a else b) = b := if_neg (by
  intro hh
  rcases hh with q | q
  · exact nI_pos (n := i) (by omega) q
  · omega)
theorem clN {i : Nat} (h : i < 1000000) : (nI i).toNatClampNeg = i := nI_clamp (by omega)
theorem leN {a b : Nat} (ha : a < 1000000) (hb : b < 1000000) : nI a ≤ nI b ↔ a ≤ b := nI_leI (by omega) (by omega)
theorem ltN {a b : Nat} (ha : a < 1000000) (hb : b < 1000000) : nI a < nI b ↔ a < b := nI_ltI (by omega) (by omega)
theorem eqN {a b : Nat} (ha : a < 1000000) (hb : b < 1000000) : nI a = nI b ↔ a = b := nI_eq (by omega) (by omega)
theorem ix4 (m k : Nat) : nI m * (4 : Int32) + nI k = nI (4 * m + k) := by
  show nI m * nI 4 + nI k = _
  rw [pk_mul, nI_add, Nat.mul_comm]
theorem ix4' (m k : Nat) : (4 : Int32) * nI m + nI k = nI (4 * m + k) := by
  show nI 4 * nI m + nI k = _
  rw [pk_mul, nI_add]
theorem sc1 (k : Nat) : nI k + (1 : Int32) = nI (k + 1) := nI_1 k
theorem mk1 : ∀ q, q < 16 → ((nI q &&& (1 : Int32) = 0) ↔ ¬ q.testBit 0 = true) := by decide
theorem mk2 : ∀ q, q < 16 → ((nI q &&& (2 : Int32) = 0) ↔ ¬ q.testBit 1 = true) := by decide
theorem mk4 : ∀ q, q < 16 → ((nI q &&& (4 : Int32) = 0) ↔ ¬ q.testBit 2 = true) := by decide
theorem mk8 : ∀ q, q < 16 → ((nI q &&& (8 : Int32) = 0) ↔ ¬ q.testBit 3 = true) := by decide
theorem mk3 : ∀ q, q < 16 → ∀ r, r < 16 → (((nI q ||| nI r) &&& (3 : Int32) = 0) ↔ ¬ (q.testBit 0 = true ∨ q.testBit 1 = true ∨ r.testBit 0 = true ∨ r.testBit 1 = true)) := by decide
section MEMX
variable {σ : xSt} {T n : Nat} {d : MD}
theorem x_isStatic (hM : MX σ n d) (hW : WD T n d) {m : Nat} (hm : m < n) : isB (fC2_isStatic σ (nI m)) (ST d m) := by
  have hn := hM.2.1
  unfold fC2_isStatic
  rw [ifin (by omega) (by omega), clN (by omega), (hM.2.2 m hm).2.2.1]
  have h := mk1 (mk d m) (hW m hm).2.2.1
  exact isB_ite (fun c => isB_0 (h.mp c)) (fun c => isB_1 (Classical.byContradiction fun z => c (h.mpr z)))
theorem x_isPrivate (hM : MX σ n d) (hW : WD T n d) {m : Nat} (hm : m < n) : isB (fC2_isPrivate σ (nI m)) (PR d m) := by
  have hn := hM.2.1
  unfold fC2_isPrivate
  rw [ifin (by omega) (by omega), clN (by omega), (hM.2.2 m hm).2.2.1]
  have h := mk2 (mk d m) (hW m hm).2.2.1
  exact isB_ite (fun c => isB_0 (h.mp c)) (fun c => isB_1 (Classical.byContradiction fun z => c (h.mpr z)))
theorem x_isAbstract (hM : MX σ n d) (hW : WD T n d) {m : Nat} (hm : m < n) : isB (fC2_isAbstract σ (nI m)) (AB d m) := by
  have hn := hM.2.1
  unfold fC2_isAbstract
  rw [ifin (by omega) (by omega), clN (by omega), (hM.2.2 m hm).2.2.1]
  have h := mk4 (mk d m) (hW m hm).2.2.1
  exact isB_ite (fun c => isB_0 (h.mp c)) (fun c => isB_1 (Classical.byContradiction fun z => c (h.mpr z)))
theorem x_isVaried (hM : MX σ n d) (hW : WD T n d) {m : Nat} (hm : m < n) : isB (fC2_isVaried σ (nI m)) (VA d m) := by
  have hn := hM.2.1
  unfold fC2_isVaried
  rw [ifin (by omega) (by omega), clN (by omega), (hM.2.2 m hm).2.2.1]
  have h := mk8 (mk d m) (hW m hm).2.2.1
  exact isB_ite (fun c => isB_0 (h.mp c)) (fun c => isB_1 (Classical.byContradiction fun z => c (h.mpr z)))
theorem m_has1 (hM : MM σ n d) (hW : WD T n d) {m : Nat} (hm : m < n) : isB (fCM_has σ (nI m) (1 : Int32)) (ST d m) := by
  have hn := hM.2.1
  unfold fCM_has
  rw [ifin (by omega) (by omega), clN (by omega), (hM.2.2 m hm).2.2.1]
  have h := mk1 (mk d m) (hW m hm).2.2.1
  exact isB_ite (fun c => isB_0 (h.mp c)) (fun c => isB_1 (Classical.byContradiction fun z => c (h.mpr z)))
theorem m_has2 (hM : MM σ n d) (hW : WD T n d) {m : Nat} (hm : m < n) : isB (fCM_has σ (nI m) (2 : Int32)) (PR d m) := by
  have hn := hM.2.1
  unfold fCM_has
  rw [ifin (by omega) (by omega), clN (by omega), (hM.2.2 m hm).2.2.1]
  have h := mk2 (mk d m) (hW m hm).2.2.1
  exact isB_ite (fun c => isB_0 (h.mp c)) (fun c => isB_1 (Classical.byContradiction fun z => c (h.mpr z)))
theorem m_has4 (hM : MM σ n d) (hW : WD T n d) {m : Nat} (hm : m < n) : isB (fCM_has σ (nI m) (4 : Int32)) (AB d m) := by
  have hn := hM.2.1
  unfold fCM_has
  rw [ifin (by omega) (by omega), clN (by omega), (hM.2.2 m hm).2.2.1]
  have h := mk4 (mk d m) (hW m hm).2.2.1
  exact isB_ite (fun c => isB_0 (h.mp c)) (fun c => isB_1 (Classical.byContradiction fun z => c (h.mpr z)))
theorem m_has8 (hM : MM σ n d) (hW : WD T n d) {m : Nat} (hm : m < n) : isB (fCM_has σ (nI m) (8 : Int32)) (VA d m) := by
  have hn := hM.2.1
  unfold fCM_has
  rw [ifin (by omega) (by omega), clN (by omega), (hM.2.2 m hm).2.2.1]
  have h := mk8 (mk d m) (hW m hm).2.2.1
  exact isB_ite (fun c => isB_0 (h.mp c)) (fun c => isB_1 (Classical.byContradiction fun z => c (h.mpr z)))
theorem x_same_loop (hM : MX σ n d) (hW : WD T n d) {m o : Nat} (hm : m < n) (ho : o < n) (hc : cn d m = cn d o) : ∀ (e k f : Nat), k + e = cn d m → e < f → isB (fC2_sameParameters_b19 σ f (nI m) (nI o) (nI k)) (∀ j, k ≤ j → j < cn d m → pa d m j = pa d o j) := by
  have hn := hM.2.1
  have hcn := (hW m hm).2.2.2.1
  intro e
  induction e with
  | zero =>
    intro k f hk hf
    obtain ⟨f, rfl⟩ : ∃ z, f = z + 1 := ⟨f - 1, by omega⟩
    rw [fC2_sameParameters_b19, ifin (by omega) (by omega), clN (by omega), (hM.2.2 m hm).2.2.2.2.1, if_pos (by rw [leN (by omega) (by omega)]; omega)]
    exact isB_1 (fun j h1 h2 => by omega)
  | succ e ih =>
    intro k f hk hf
    obtain ⟨f, rfl⟩ : ∃ z, f = z + 1 := ⟨f - 1, by omega⟩
    rw [fC2_sameParameters_b19, ifin (by omega) (by omega), clN (by omega), (hM.2.2 m hm).2.2.2.2.1, if_neg (by rw [leN (by omega) (by omega)]; omega), ix4, ix4, ifin (by omega) (by omega), ifin (by omega) (by omega), clN (by omega), clN (by omega), sc1]
    have e1 := (hM.2.2 m hm).2.2.2.2.2 k (by omega)
    have e2 := (hM.2.2 o ho).2.2.2.2.2 k (by omega)
    refine isB_ite (fun c => ?_) (fun c => isB_0 ?_)
    · rw [i32eq, e1, e2] at c
      refine isB_iff (ih (k + 1) f (by omega) (by omega)) ⟨fun h j h1 h2 => ?_, fun h j h1 h2 => h j (by omega) h2⟩
      rcases Nat.lt_or_ge k j with q | q
      · exact h j q h2
      · have : j = k := by omega
        subst this
        exact c
    · intro h
      exact c (by rw [i32eq, e1, e2]; exact h k (Nat.le_refl k) (by omega))
theorem x_same (hM : MX σ n d) (hW : WD T n d) {m o : Nat} (hm : m < n) (ho : o < n) : isB (fC2_sameParameters σ (nI m) (nI o)) (SA d m o) := by
  have hn := hM.2.1
  have h1 := (hW m hm).2.2.2.1
  have h2 := (hW o ho).2.2.2.1
  unfold fC2_sameParameters
  rw [ifin (by omega) (by omega), ifin (by omega) (by omega), clN (by omega), clN (by omega), (hM.2.2 m hm).2.2.2.2.1, (hM.2.2 o ho).2.2.2.2.1]
  refine isB_ite (fun c => ?_) (fun c => isB_0 ?_)
  · rw [eqN (by omega) (by omega)] at c
    refine isB_iff (x_same_loop hM hW hm ho c (cn d m) 0 gF (by omega) (by unfold gF; omega)) ⟨fun h => ⟨c, fun k hk => h k (Nat.zero_le k) hk⟩, fun h k _ hk => h.2 k hk⟩
  · intro h
    exact c (by rw [h.1])
theorem m_same_0 (hM : MM σ n d) (hW : WD T n d) {m : Nat} (hm : m < n) (x2 x4 : Int32) (f : Nat) : isB (fCM_sameParams_b24 σ (f + 1) (nI m) x2 (0 : Int32) x4) False := by
  have hn := hM.2.1
  rw [fCM_sameParams_b24, ifin (by omega) (by omega), clN (by omega)]
  refine isB_ite (fun c => Or.inr ⟨id, rfl⟩) (fun c => ?_)
  rw [if_pos rfl]
  exact Or.inr ⟨id, rfl⟩
theorem m_same_loop (hM : MM σ n d) (hW : WD T n d) {m o : Nat} (hm : m < n) (ho : o < n) (hc : cn d m = cn d o) : ∀ (e k f : Nat), k + e = cn d m → e < f → isB (fCM_sameParams_b24 σ f (nI m) (nI o) (1 : Int32) (nI k)) (∀ j, k ≤ j → j < cn d m → pa d m j = pa d o j) := by
  have hn := hM.2.1
  have hcn := (hW m hm).2.2.2.1
  have z1 : ¬ (1 : Int32) = 0 := by decide
  intro e
  induction e with
  | zero =>
    intro k f hk hf
    obtain ⟨f, rfl⟩ : ∃ z, f = z + 1 := ⟨f - 1, by omega⟩
    rw [fCM_sameParams_b24, ifin (by omega) (by omega), clN (by omega), (hM.2.2 m hm).2.2.2.2.1, if_pos (by rw [leN (by omega) (by omega)]; omega)]
    exact Or.inl ⟨fun j h1 h2 => by omega, rfl⟩
  | succ e ih =>
    intro k f hk hf
    obtain ⟨f, rfl⟩ : ∃ z, f = z + 1 := ⟨f - 1, by omega⟩
    obtain ⟨f, rfl⟩ : ∃ z, f = z + 1 := ⟨f - 1, by omega⟩
    rw [fCM_sameParams_b24, ifin (by omega) (by omega), clN (by omega), (hM.2.2 m hm).2.2.2.2.1, if_neg (by rw [leN (by omega) (by omega)]; omega), if_neg z1, ix4', ix4', ifin (by omega) (by omega), ifin (by omega) (by omega), clN (by omega), clN (by omega)]
    unfold fCM_sameParams_b69
    rw [sc1]
    have e1 := (hM.2.2 m hm).2.2.2.2.2 k (by omega)
    have e2 := (hM.2.2 o ho).2.2.2.2.2 k (by omega)
    refine isB_ite (fun c => ?_) (fun c => ?_)
    · rw [i32eq, e1, e2] at c
      refine isB_iff (ih (k + 1) (f + 1) (by omega) (by omega)) ⟨fun h j h1 h2 => ?_, fun h j h1 h2 => h j (by omega) h2⟩
      rcases Nat.lt_or_ge k j with q | q
      · exact h j q h2
      · have : j = k := by omega
        subst this
        exact c
    · refine isB_iff (m_same_0 hM hW hm _ _ f) ⟨False.elim, fun h => ?_⟩
      exact c (by rw [i32eq, e1, e2]; exact h k (Nat.le_refl k) (by omega))
theorem m_same (hM : MM σ n d) (hW : WD T n d) {m o : Nat} (hm : m < n) (ho : o < n) : isB (fCM_sameParams σ (nI m) (nI o)) (SA d m o) := by
  have hn := hM.2.1
  have h1 := (hW m hm).2.2.2.1
  have h2 := (hW o ho).2.2.2.1
  unfold fCM_sameParams fCM_sameParams_b20
  rw [ifin (by omega) (by omega), ifin (by omega) (by omega), clN (by omega), clN (by omega), (hM.2.2 m hm).2.2.2.2.1, (hM.2.2 o ho).2.2.2.2.1]
  refine isB_ite (fun c => ?_) (fun c => ?_)
  · rw [eqN (by omega) (by omega)] at c
    refine isB_iff (m_same_loop hM hW hm ho c (cn d m) 0 gF (by omega) (by unfold gF; omega)) ⟨fun h => ⟨c, fun k hk => h k (Nat.zero_le k) hk⟩, fun h k _ hk => h.2 k hk⟩
  · refine isB_iff (m_same_0 hM hW hm _ _ 3999) ⟨False.elim, fun h => ?_⟩
    exact c (by rw [h.1])
end MEMX
