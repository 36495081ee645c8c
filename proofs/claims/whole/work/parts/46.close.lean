theorem ix24 (m k : Nat) : (24 : Int32) * nI m + nI k = nI (24 * m + k) := by
  show nI 24 * nI m + nI k = _
  rw [pk_mul, nI_add]
/-- one round over m -/
def W1 (D : Nat → Nat → Prop) (m s t : Nat) : Prop := D s t ∨ (D s m ∧ D m t)
def WI (B : Nat → Nat → Prop) : Nat → Nat → Nat → Prop
  | 0 => B
  | m + 1 => W1 (WI B m) m
theorem WI_mono {B : Nat → Nat → Prop} {s t : Nat} (h : B s t) : ∀ m, WI B m s t := by
  intro m
  induction m with
  | zero => exact h
  | succ m ih => exact Or.inl ih
theorem WI_trans {B : Nat → Nat → Prop} : ∀ m k i j, k < m → WI B m i k → WI B m k j → WI B m i j := by
  intro m
  induction m with
  | zero => intro k i j hk; omega
  | succ m ih =>
    intro k i j hk h1 h2
    by_cases hkm : k = m
    · subst hkm
      have a1 : WI B k i k := by
        rcases h1 with h | h
        · exact h
        · exact h.1
      have a2 : WI B k k j := by
        rcases h2 with h | h
        · exact h
        · exact h.2
      exact Or.inr ⟨a1, a2⟩
    · have hk2 : k < m := by omega
      rcases h1 with h1 | ⟨h1, h1'⟩ <;> rcases h2 with h2 | ⟨h2, h2'⟩
      · exact Or.inl (ih k i j hk2 h1 h2)
      · exact Or.inr ⟨ih k i m hk2 h1 h2, h2'⟩
      · exact Or.inr ⟨h1, ih k m j hk2 h1' h2⟩
      · exact Or.inr ⟨h1, h2'⟩
theorem WI_min {T : Nat} {B Q : Nat → Nat → Prop} (ht : ∀ i j k, i < T → j < T → k < T → Q i j → Q j k → Q i k) (hb : ∀ k j, k < T → j < T → B k j → Q k j) : ∀ m, m ≤ T → ∀ k j, k < T → j < T → WI B m k j → Q k j := by
  intro m
  induction m with
  | zero => intro _ k j hk hj h; exact hb k j hk hj h
  | succ m ih =>
    intro hm k j hk hj h
    rcases h with h | ⟨h1, h2⟩
    · exact ih (by omega) k j hk hj h
    · exact ht k m j hk (by omega) hj (ih (by omega) k m hk (by omega) h1) (ih (by omega) m j (by omega) hj h2)
theorem CL_WI (T : Nat) (E : Nat → Nat → Prop) : CL T E (WI (fun s t => s = t ∨ E s t) T) := by
  refine ⟨fun k _ => WI_mono (Or.inl rfl) T, fun i j k hi hj hk h1 h2 => WI_trans T j i k hj h1 h2, fun k j _ _ h => WI_mono (Or.inr h) T, fun Q q1 q2 q3 k j hk hj h => ?_⟩
  refine WI_min q2 (fun k j hk hj hb => ?_) T (Nat.le_refl T) k j hk hj h
  rcases hb with rfl | hb
  · exact q1 k hk
  · exact q3 k j hk hj hb
theorem CL_iff {T : Nat} {E R R' : Nat → Nat → Prop} (h : ∀ k j, k < T → j < T → (R k j ↔ R' k j)) (hC : CL T E R) : CL T E R' := by
  obtain ⟨c1, c2, c3, c4⟩ := hC
  exact ⟨fun k hk => (h k k hk hk).mp (c1 k hk), fun i j k hi hj hk h1 h2 => (h i k hi hk).mp (c2 i j k hi hj hk ((h i j hi hj).mpr h1) ((h j k hj hk).mpr h2)), fun k j hk hj he => (h k j hk hj).mp (c3 k j hk hj he), fun Q q1 q2 q3 k j hk hj hr => c4 Q q1 q2 q3 k j hk hj ((h k j hk hj).mpr hr)⟩
theorem CL_uniq {T : Nat} {E R R' : Nat → Nat → Prop} (h1 : CL T E R) (h2 : CL T E R') : ∀ k j, k < T → j < T → (R k j ↔ R' k j) := fun k j hk hj => ⟨fun h => h1.2.2.2 R' h2.1 h2.2.1 h2.2.2.1 k j hk hj h, fun h => h2.2.2.2 R h1.1 h1.2.1 h1.2.2.1 k j hk hj h⟩
/-- all but isOne is as it was -/
def K5 (τ τ' : xSt) : Prop := (∀ c, c ≠ 5 → τ'.1 c = τ.1 c) ∧ τ'.2 = τ.2
theorem K5_rf (τ : xSt) : K5 τ τ := ⟨fun _ _ => rfl, rfl⟩
theorem K5_tr {a b c : xSt} (h1 : K5 a b) (h2 : K5 b c) : K5 a c := ⟨fun q g => (h2.1 q g).trans (h1.1 q g), h2.2.trans h1.2⟩
theorem K5_I {τ : xSt} {j : Nat} {v : Int32} : K5 τ (sI τ 5 j v) := ⟨fun c g1 => sI_off g1, rfl⟩
section CLO
variable {T : Nat} {p : Nat → Int} {c : Nat → Nat} {g : Nat → Nat → Nat}
theorem K5_EM {τ τ' : xSt} (h : K5 τ τ') (hE : EM τ T p c g) : EM τ' T p c g := EM_of (h.1 2 (by decide)) (h.1 3 (by decide)) (h.1 4 (by decide)) hE
theorem m_cl_in (hT2 : T ≤ 24) (k6 : xSt → Int32 → Option xSt) (k16 : xSt → Int32 → Int32 → Option xSt) {s t : Nat} (hs : s < T) (ht : t < T) {P : Prop} : ∀ (r i f : Nat) (τ : xSt) (x3 : Int32), i + r = c s → r < f → EM τ T p c g → fl x3 (P ∨ ∃ j, j < i ∧ g s j = t) → ∃ v, fCM_closeTypes_b51 k6 k16 f τ (nI s) (nI t) x3 (nI i) = k16 (sI τ 5 (24 * s + t) v) (nI s) (nI (t + 1)) ∧ fl v (P ∨ ∃ j, j < c s ∧ g s j = t) := by
  intro r
  induction r with
  | zero =>
    intro i f τ x3 hi hf hE h3
    obtain ⟨f, rfl⟩ : ∃ z, f = z + 1 := ⟨f - 1, by omega⟩
    have e : i = c s := by omega
    subst e
    have hc := (hE s hs).2.2.2.1
    rw [fCM_closeTypes_b51, ifin (by omega) (by omega), clN (by omega), (hE s hs).2.2.1, if_pos (by rw [leN (by omega) (by omega)]; omega), ix24, ifin (by omega) (by omega), nmE, clN (by omega), nbf h3, sc1]
    exact ⟨x3, rfl, h3⟩
  | succ r ih =>
    intro i f τ x3 hi hf hE h3
    obtain ⟨f, rfl⟩ : ∃ z, f = z + 1 := ⟨f - 1, by omega⟩
    obtain ⟨a1, a2, a3, a4, a5⟩ := hE s hs
    obtain ⟨b1, b2⟩ := a5 i (by omega)
    rw [fCM_closeTypes_b51, ifin (by omega) (by omega), clN (by omega), a3, if_neg (by rw [leN (by omega) (by omega)]; omega), ix4', ifin (by omega) (by omega), clN (by omega), b1, add16N]
    unfold fCM_closeTypes_b84 fCM_closeTypes_b89
    rw [sc1]
    have one : (P ∨ ∃ j, j < i + 1 ∧ g s j = t) → ∃ v, fCM_closeTypes_b51 k6 k16 f τ (nI s) (nI t) 1 (nI (i + 1)) = k16 (sI τ 5 (24 * s + t) v) (nI s) (nI (t + 1)) ∧ fl v (P ∨ ∃ j, j < c s ∧ g s j = t) := fun h => ih (i + 1) f τ 1 (by omega) (by omega) hE (Or.inl ⟨rfl, h⟩)
    rcases h3 with ⟨rfl, h3⟩ | ⟨rfl, h3⟩
    · rw [if_neg z10]
      refine one ?_
      rcases h3 with h3 | ⟨j, h3, h4⟩
      · exact Or.inl h3
      · exact Or.inr ⟨j, by omega, h4⟩
    · rw [if_pos rfl]
      by_cases hg : g s i = t
      · rw [if_pos (by rw [hg])]
        exact one (Or.inr ⟨i, by omega, hg⟩)
      · rw [if_neg (by rw [eqN (by omega) (by omega)]; omega)]
        refine ih (i + 1) f τ 0 (by omega) (by omega) hE (Or.inr ⟨rfl, fun h => ?_⟩)
        rcases h with h | ⟨j, h, h4⟩
        · exact h3 (Or.inl h)
        · by_cases q : j = i
          · subst q; exact hg h4
          · exact h3 (Or.inr ⟨j, by omega, h4⟩)
theorem m_cl_row (hT2 : T ≤ 24) (k6 : xSt → Int32 → Option xSt) {s : Nat} (hs : s < T) : ∀ (r t f : Nat) (τ : xSt), t + r = T → r < f → τ.1 0 0 = nI T → EM τ T p c g → (∀ s' t', s' < T → t' < T → (s' < s ∨ (s' = s ∧ t' < t)) → fl (τ.1 5 (24 * s' + t')) (s' = t' ∨ ED p c g s' t')) → ∃ τ', fCM_closeTypes_b16 k6 f τ (nI s) (nI t) = k6 τ' (nI (s + 1)) ∧ K5 τ τ' ∧ (∀ s' t', s' < T → t' < T → s' < s + 1 → fl (τ'.1 5 (24 * s' + t')) (s' = t' ∨ ED p c g s' t')) := by
  intro r
  induction r with
  | zero =>
    intro t f τ ht hf h0 hE hI
    obtain ⟨f, rfl⟩ : ∃ z, f = z + 1 := ⟨f - 1, by omega⟩
    rw [fCM_closeTypes_b16, h0, if_pos (by rw [leN (by omega) (by omega)]; omega), sc1]
    exact ⟨τ, rfl, K5_rf τ, fun s' t' h1 h2 h3 => hI s' t' h1 h2 (by omega)⟩
  | succ r ih =>
    intro t f τ ht hf h0 hE hI
    obtain ⟨f, rfl⟩ : ∃ z, f = z + 1 := ⟨f - 1, by omega⟩
    obtain ⟨a1, a2, a3, a4, a5⟩ := id (hE s hs)
    rw [fCM_closeTypes_b16, h0, if_neg (by rw [leN (by omega) (by omega)]; omega), ifin (by omega) (by omega), clN (by omega), add16N]
    unfold fCM_closeTypes_b42 fCM_closeTypes_b47
    have go : ∀ x3 : Int32, fl x3 (s = t ∨ p s = ((16 + t : Nat) : Int)) → ∃ τ', fCM_closeTypes_b51 k6 (fCM_closeTypes_b16 k6 f) gF τ (nI s) (nI t) x3 0 = k6 τ' (nI (s + 1)) ∧ K5 τ τ' ∧ (∀ s' t', s' < T → t' < T → s' < s + 1 → fl (τ'.1 5 (24 * s' + t')) (s' = t' ∨ ED p c g s' t')) := by
      intro x3 h3
      obtain ⟨v, e1, e2⟩ := m_cl_in (c := c) (g := g) (p := p) hT2 k6 (fCM_closeTypes_b16 k6 f) hs (t := t) (by omega) (P := s = t ∨ p s = ((16 + t : Nat) : Int)) (c s) 0 gF τ x3 (by omega) (by unfold gF; omega) hE (fl_iff h3 ⟨fun h => Or.inl h, fun h => h.elim id (fun ⟨j, hj, _⟩ => by omega)⟩)
      have e1' : fCM_closeTypes_b51 k6 (fCM_closeTypes_b16 k6 f) gF τ (nI s) (nI t) x3 0 = _ := e1
      rw [e1']
      obtain ⟨τ', k1, k2, k3⟩ := ih (t + 1) f (sI τ 5 (24 * s + t) v) (by omega) (by omega) (by rw [sI_off (by decide)]; exact h0) (K5_EM K5_I hE) (fun s' t' h1 h2 h3 => by
        by_cases q : s' = s ∧ t' = t
        · rw [q.1, q.2, sI_on]
          exact fl_iff e2 ⟨fun h => by
            rcases h with (h | h) | h
            · exact Or.inl h
            · exact Or.inr (Or.inl h)
            · exact Or.inr (Or.inr h), fun h => by
            rcases h with h | h | h
            · exact Or.inl (Or.inl h)
            · exact Or.inl (Or.inr h)
            · exact Or.inr h⟩
        · rw [sI_ne (by omega)]
          exact hI s' t' h1 h2 (by omega))
      exact ⟨τ', k1, K5_tr K5_I k2, k3⟩
    by_cases hst : s = t
    · rw [if_pos (by rw [hst])]
      exact go 1 (Or.inl ⟨rfl, Or.inl hst⟩)
    · rw [if_neg (by rw [eqN (by omega) (by omega)]; exact hst)]
      by_cases hp : p s = ((16 + t : Nat) : Int)
      · rw [if_pos (by rw [i32eq, a1, hp, nIt (by omega)])]
        exact go 1 (Or.inl ⟨rfl, Or.inr hp⟩)
      · rw [if_neg (by rw [i32eq, a1, nIt (by omega)]; exact hp)]
        exact go 0 (Or.inr ⟨rfl, fun h => h.elim hst hp⟩)
theorem m_cl_base (hT2 : T ≤ 24) : ∀ (r s f : Nat) (τ : xSt), s + r = T → r < f → τ.1 0 0 = nI T → EM τ T p c g → (∀ s' t', s' < T → t' < T → s' < s → fl (τ.1 5 (24 * s' + t')) (s' = t' ∨ ED p c g s' t')) → ∃ τ', fCM_closeTypes_b6 f τ (nI s) = fCM_closeTypes_b122 gF τ' 0 ∧ K5 τ τ' ∧ (∀ s' t', s' < T → t' < T → fl (τ'.1 5 (24 * s' + t')) (s' = t' ∨ ED p c g s' t')) := by
  intro r
  induction r with
  | zero =>
    intro s f τ hs hf h0 hE hI
    obtain ⟨f, rfl⟩ : ∃ z, f = z + 1 := ⟨f - 1, by omega⟩
    rw [fCM_closeTypes_b6, h0, if_pos (by rw [leN (by omega) (by omega)]; omega)]
    exact ⟨τ, rfl, K5_rf τ, fun s' t' h1 h2 => hI s' t' h1 h2 (by omega)⟩
  | succ r ih =>
    intro s f τ hs hf h0 hE hI
    obtain ⟨f, rfl⟩ : ∃ z, f = z + 1 := ⟨f - 1, by omega⟩
    rw [fCM_closeTypes_b6, h0, if_neg (by rw [leN (by omega) (by omega)]; omega)]
    obtain ⟨τ1, k1, k2, k3⟩ := m_cl_row hT2 (fCM_closeTypes_b6 f) (s := s) (by omega) T 0 gF τ (by omega) (by unfold gF; omega) h0 hE (fun s' t' h1 h2 h3 => hI s' t' h1 h2 (by omega))
    have k1' : fCM_closeTypes_b16 (fCM_closeTypes_b6 f) gF τ (nI s) 0 = fCM_closeTypes_b6 f τ1 (nI (s + 1)) := k1
    rw [k1']
    obtain ⟨τ', l1, l2, l3⟩ := ih (s + 1) f τ1 (by omega) (by omega) (by rw [k2.1 0 (by decide)]; exact h0) (K5_EM k2 hE) k3
    exact ⟨τ', l1, K5_tr k2 l2, l3⟩
theorem m_w_in (hT2 : T ≤ 24) (k122 : xSt → Int32 → Option xSt) (k132 : xSt → Int32 → Int32 → Option xSt) {D : Nat → Nat → Prop} {m s : Nat} (hm : m < T) (hs : s < T) : ∀ (r t f : Nat) (τ : xSt), t + r = T → r < f → τ.1 0 0 = nI T → (∀ s' t', s' < T → t' < T → (s' < s ∨ (s' = s ∧ t' < t)) → fl (τ.1 5 (24 * s' + t')) (W1 D m s' t')) → (∀ s' t', s' < T → t' < T → ¬ (s' < s ∨ (s' = s ∧ t' < t)) → fl (τ.1 5 (24 * s' + t')) (D s' t')) → ∃ τ', fCM_closeTypes_b142 k122 k132 f τ (nI m) (nI s) (nI t) = k132 τ' (nI m) (nI (s + 1)) ∧ K5 τ τ' ∧ (∀ s' t', s' < T → t' < T → s' < s + 1 → fl (τ'.1 5 (24 * s' + t')) (W1 D m s' t')) ∧ (∀ s' t', s' < T → t' < T → ¬ s' < s + 1 → fl (τ'.1 5 (24 * s' + t')) (D s' t')) := by
  intro r
  induction r with
  | zero =>
    intro t f τ ht hf h0 h1 h2
    obtain ⟨f, rfl⟩ : ∃ z, f = z + 1 := ⟨f - 1, by omega⟩
    rw [fCM_closeTypes_b142, h0, if_pos (by rw [leN (by omega) (by omega)]; omega), sc1]
    exact ⟨τ, rfl, K5_rf τ, fun s' t' g1 g2 g3 => h1 s' t' g1 g2 (by omega), fun s' t' g1 g2 g3 => h2 s' t' g1 g2 (by omega)⟩
  | succ r ih =>
    intro t f τ ht hf h0 h1 h2
    obtain ⟨f, rfl⟩ : ∃ z, f = z + 1 := ⟨f - 1, by omega⟩
    have rd : fl (τ.1 5 (24 * s + t)) (D s t) := h2 s t hs (by omega) (by omega)
    have rm : fl (τ.1 5 (24 * s + m)) (D s m) := by
      by_cases q : m < t
      · exact fl_iff (h1 s m hs hm (Or.inr ⟨rfl, q⟩)) ⟨fun h => h.elim id (fun z => z.1), Or.inl⟩
      · exact h2 s m hs hm (by omega)
    have rt : fl (τ.1 5 (24 * m + t)) (D m t) := by
      by_cases q : m < s
      · exact fl_iff (h1 m t hm (by omega) (Or.inl q)) ⟨fun h => h.elim id (fun z => z.2), Or.inl⟩
      · exact h2 m t hm (by omega) (by omega)
    rw [fCM_closeTypes_b142, h0, if_neg (by rw [leN (by omega) (by omega)]; omega), ix24, ix24, ix24, ifin (by omega) (by omega), ifin (by omega) (by omega), ifin (by omega) (by omega), clN (by omega), clN (by omega), clN (by omega)]
    unfold fCM_closeTypes_b206 fCM_closeTypes_b202 fCM_closeTypes_b207
    rw [ifin (by omega) (by omega), nmE, ifin (by omega) (by omega), nmE, clN (by omega), nb1, nb0, sc1]
    have go : ∀ v : Int32, fl v (W1 D m s t) → ∃ τ', fCM_closeTypes_b142 k122 k132 f (sI τ 5 (24 * s + t) v) (nI m) (nI s) (nI (t + 1)) = k132 τ' (nI m) (nI (s + 1)) ∧ K5 τ τ' ∧ (∀ s' t', s' < T → t' < T → s' < s + 1 → fl (τ'.1 5 (24 * s' + t')) (W1 D m s' t')) ∧ (∀ s' t', s' < T → t' < T → ¬ s' < s + 1 → fl (τ'.1 5 (24 * s' + t')) (D s' t')) := by
      intro v hv
      obtain ⟨τ', k1, k2, k3, k4⟩ := ih (t + 1) f (sI τ 5 (24 * s + t) v) (by omega) (by omega) (by rw [sI_off (by decide)]; exact h0) (fun s' t' g1 g2 g3 => by
        by_cases q : s' = s ∧ t' = t
        · rw [q.1, q.2, sI_on]; exact hv
        · rw [sI_ne (by omega)]; exact h1 s' t' g1 g2 (by omega)) (fun s' t' g1 g2 g3 => by
        rw [sI_ne (by omega)]; exact h2 s' t' g1 g2 (by omega))
      exact ⟨τ', k1, K5_tr K5_I k2, k3, k4⟩
    rcases rd with ⟨d1, d2⟩ | ⟨d1, d2⟩
    · rw [if_neg (by rw [d1]; exact z10)]
      exact go 1 (Or.inl ⟨rfl, Or.inl d2⟩)
    · rw [if_pos d1]
      rcases rm with ⟨e1, e2⟩ | ⟨e1, e2⟩
      · rw [if_neg (by rw [e1]; exact z10)]
        rcases rt with ⟨f1, f2⟩ | ⟨f1, f2⟩
        · rw [if_neg (by rw [f1]; exact z10)]
          exact go 1 (Or.inl ⟨rfl, Or.inr ⟨e2, f2⟩⟩)
        · rw [if_pos f1]
          exact go 0 (Or.inr ⟨rfl, fun z => z.elim d2 (fun y => f2 y.2)⟩)
      · rw [if_pos e1]
        exact go 0 (Or.inr ⟨rfl, fun z => z.elim d2 (fun y => e2 y.1)⟩)
theorem m_w_mid (hT2 : T ≤ 24) (k122 : xSt → Int32 → Option xSt) {D : Nat → Nat → Prop} {m : Nat} (hm : m < T) : ∀ (r s f : Nat) (τ : xSt), s + r = T → r < f → τ.1 0 0 = nI T → (∀ s' t', s' < T → t' < T → s' < s → fl (τ.1 5 (24 * s' + t')) (W1 D m s' t')) → (∀ s' t', s' < T → t' < T → ¬ s' < s → fl (τ.1 5 (24 * s' + t')) (D s' t')) → ∃ τ', fCM_closeTypes_b132 k122 f τ (nI m) (nI s) = k122 τ' (nI (m + 1)) ∧ K5 τ τ' ∧ (∀ s' t', s' < T → t' < T → fl (τ'.1 5 (24 * s' + t')) (W1 D m s' t')) := by
  intro r
  induction r with
  | zero =>
    intro s f τ hs hf h0 h1 h2
    obtain ⟨f, rfl⟩ : ∃ z, f = z + 1 := ⟨f - 1, by omega⟩
    rw [fCM_closeTypes_b132, h0, if_pos (by rw [leN (by omega) (by omega)]; omega), sc1]
    exact ⟨τ, rfl, K5_rf τ, fun s' t' g1 g2 => h1 s' t' g1 g2 (by omega)⟩
  | succ r ih =>
    intro s f τ hs hf h0 h1 h2
    obtain ⟨f, rfl⟩ : ∃ z, f = z + 1 := ⟨f - 1, by omega⟩
    rw [fCM_closeTypes_b132, h0, if_neg (by rw [leN (by omega) (by omega)]; omega)]
    obtain ⟨τ1, k1, k2, k3, k4⟩ := m_w_in hT2 k122 (fCM_closeTypes_b132 k122 f) (D := D) hm (s := s) (by omega) T 0 gF τ (by omega) (by unfold gF; omega) h0 (fun s' t' g1 g2 g3 => h1 s' t' g1 g2 (by omega)) (fun s' t' g1 g2 g3 => h2 s' t' g1 g2 (by omega))
    have k1' : fCM_closeTypes_b142 k122 (fCM_closeTypes_b132 k122 f) gF τ (nI m) (nI s) 0 = fCM_closeTypes_b132 k122 f τ1 (nI m) (nI (s + 1)) := k1
    rw [k1']
    obtain ⟨τ', l1, l2, l3⟩ := ih (s + 1) f τ1 (by omega) (by omega) (by rw [k2.1 0 (by decide)]; exact h0) k3 k4
    exact ⟨τ', l1, K5_tr k2 l2, l3⟩
theorem m_w_out (hT2 : T ≤ 24) {B : Nat → Nat → Prop} : ∀ (r m f : Nat) (τ : xSt), m + r = T → r < f → τ.1 0 0 = nI T → (∀ s' t', s' < T → t' < T → fl (τ.1 5 (24 * s' + t')) (WI B m s' t')) → ∃ τ', fCM_closeTypes_b122 f τ (nI m) = some τ' ∧ K5 τ τ' ∧ (∀ s' t', s' < T → t' < T → fl (τ'.1 5 (24 * s' + t')) (WI B T s' t')) := by
  intro r
  induction r with
  | zero =>
    intro m f τ hm hf h0 h1
    obtain ⟨f, rfl⟩ : ∃ z, f = z + 1 := ⟨f - 1, by omega⟩
    have e : m = T := by omega
    subst e
    rw [fCM_closeTypes_b122, h0, if_pos (by rw [leN (by omega) (by omega)]; omega)]
    exact ⟨τ, rfl, K5_rf τ, h1⟩
  | succ r ih =>
    intro m f τ hm hf h0 h1
    obtain ⟨f, rfl⟩ : ∃ z, f = z + 1 := ⟨f - 1, by omega⟩
    rw [fCM_closeTypes_b122, h0, if_neg (by rw [leN (by omega) (by omega)]; omega)]
    obtain ⟨τ1, k1, k2, k3⟩ := m_w_mid hT2 (fCM_closeTypes_b122 f) (D := WI B m) (m := m) (by omega) T 0 gF τ (by omega) (by unfold gF; omega) h0 (fun s' t' g1 g2 g3 => by omega) (fun s' t' g1 g2 g3 => h1 s' t' g1 g2)
    have k1' : fCM_closeTypes_b132 (fCM_closeTypes_b122 f) gF τ (nI m) 0 = fCM_closeTypes_b122 f τ1 (nI (m + 1)) := k1
    rw [k1']
    obtain ⟨τ', l1, l2, l3⟩ := ih (m + 1) f τ1 (by omega) (by omega) (by rw [k2.1 0 (by decide)]; exact h0) k3
    exact ⟨τ', l1, K5_tr k2 l2, l3⟩
theorem m_close (hT2 : T ≤ 24) {τ : xSt} (h0 : τ.1 0 0 = nI T) (hE : EM τ T p c g) : ∃ τ', fCM_closeTypes τ = some τ' ∧ (∀ c, c ≠ 5 → c ≠ 19 → τ'.1 c = τ.1 c) ∧ (∀ j, j < 24 → τ'.1 19 j = -2) ∧ CL T (ED p c g) (Rm τ') := by
  unfold fCM_closeTypes
  obtain ⟨τ1, f1, f2, f3, f4⟩ := m_forget τ
  rw [f1, Option.bind_some]
  obtain ⟨τ2, k1, k2, k3⟩ := m_cl_base hT2 T 0 gF τ1 (by omega) (by unfold gF; omega) (by rw [f3 0 (by decide)]; exact h0) (EM_of (f3 2 (by decide)) (f3 3 (by decide)) (f3 4 (by decide)) hE) (fun s' t' _ _ h => by omega)
  have k1' : fCM_closeTypes_b6 gF τ1 0 = fCM_closeTypes_b122 gF τ2 0 := k1
  rw [k1']
  obtain ⟨τ3, l1, l2, l3⟩ := m_w_out hT2 (B := fun s t => s = t ∨ ED p c g s t) T 0 gF τ2 (by omega) (by unfold gF; omega) (by rw [k2.1 0 (by decide), f3 0 (by decide)]; exact h0) k3
  have l1' : fCM_closeTypes_b122 gF τ2 0 = some τ3 := l1
  refine ⟨τ3, l1', fun c g1 g2 => by rw [l2.1 c g1, k2.1 c g1, f3 c g2], fun j hj => by rw [l2.1 19 (by decide), k2.1 19 (by decide)]; exact f2 j hj, CL_iff (fun k j hk hj => ?_) (CL_WI T (ED p c g))⟩
  unfold Rm
  rcases l3 k j hk hj with ⟨q1, q2⟩ | ⟨q1, q2⟩
  · rw [q1]; exact ⟨fun _ => z10, fun _ => q2⟩
  · rw [q1]; exact ⟨fun z => absurd z q2, fun z => absurd rfl z⟩
end CLO
