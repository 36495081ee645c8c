def QB (R : Nat → Nat → Prop) (k j m l : Nat) : Prop := R m l ∨ (R m k ∧ R j l)
theorem CL_below {T k j : Nat} {E E' R : Nat → Nat → Prop} (hk : k < T) (hj : j < T) (hC : CL T E R) (hE : ∀ m l, m < T → l < T → (E' m l ↔ (E m l ∨ (m = k ∧ l = j)))) : CL T E' (QB R k j) := by
  obtain ⟨c1, c2, c3, c4⟩ := hC
  refine ⟨fun m hm => Or.inl (c1 m hm), fun x y z hx hy hz h1 h2 => ?_, fun m l hm hl h => ?_, fun Q q1 q2 q3 m l hm hl h => ?_⟩
  · rcases h1 with h1 | ⟨h1, h1'⟩ <;> rcases h2 with h2 | ⟨h2, h2'⟩
    · exact Or.inl (c2 x y z hx hy hz h1 h2)
    · exact Or.inr ⟨c2 x y k hx hy hk h1 h2, h2'⟩
    · exact Or.inr ⟨h1, c2 j y z hj hy hz h1' h2⟩
    · exact Or.inr ⟨h1, h2'⟩
  · rcases (hE m l hm hl).mp h with h | ⟨rfl, rfl⟩
    · exact Or.inl (c3 m l hm hl h)
    · exact Or.inr ⟨c1 m hm, c1 l hl⟩
  · have low : ∀ m l, m < T → l < T → R m l → Q m l := c4 Q q1 q2 (fun m l hm hl he => q3 m l hm hl ((hE m l hm hl).mpr (Or.inl he)))
    rcases h with h | ⟨h1, h2⟩
    · exact low m l hm hl h
    · exact q2 m j l hm hj hl (q2 m k j hm hk hj (low m k hm hk h1) (q3 k j hk hj ((hE k j hk hj).mpr (Or.inr ⟨rfl, rfl⟩)))) (low j l hj hl h2)
theorem XB_congr {σ : xSt} {T : Nat} {R R' : Nat → Nat → Prop} (h : ∀ m l, m < T → l < T → (R m l ↔ R' m l)) (hX : XB σ T R) : XB σ T R' := by
  intro s t hs ht
  rw [hX s t hs ht]
  by_cases h1 : s ≤ 10
  · exact isP_low h1 t
  · obtain ⟨k, hk, rfl⟩ : ∃ k, k < T ∧ s = 16 + k := ⟨s - 16, by omega, by omega⟩
    rw [isP_told, isP_told]
    constructor
    · rintro (g | g | ⟨g1, g2, g3, g4⟩)
      · exact Or.inl g
      · exact Or.inr (Or.inl g)
      · exact Or.inr (Or.inr ⟨g1, g2, g3, (h k (t - 16) hk (by omega)).mp g4⟩)
    · rintro (g | g | ⟨g1, g2, g3, g4⟩)
      · exact Or.inl g
      · exact Or.inr (Or.inl g)
      · exact Or.inr (Or.inr ⟨g1, g2, g3, (h k (t - 16) hk (by omega)).mpr g4⟩)
section BEL
variable {T n a : Nat} {d : MD} {fc : Nat → Prop} {R : Nat → Nat → Prop} {e : AD} {p : Nat → Int} {c : Nat → Nat} {g : Nat → Nat → Nat}
def RT (R : Nat → Nat → Prop) (k j t m l : Nat) : Prop := R m l ∨ (m < t ∧ R m k ∧ R j l)
theorem x_below_loop (hT2 : T ≤ 24) {k j : Nat} (hk : k < T) (hj : j < T) (hr : ∀ m, m < T → R m m) (hjk : ¬ R j k) {w : Int32} (hw : fJI_bitCount (fun _ _ => 0, fun _ _ => 0) w = some (nI (c k + 1))) : ∀ (r t f : Nat) (σ : xSt), t + r = T → r < f → σ.1 1 3 = nI T → σ.1 7 k = w → XB σ T (RT R k j t) → ∃ σ', fC1_putBelow_b96 f σ (nI (16 + k)) (nI (16 + j)) (nI k) (nI (16 + t)) = some (nI (c k + 1), σ') ∧ XB σ' T (RT R k j T) ∧ σ'.1 = σ.1 ∧ (∀ q, q ≠ 6 → σ'.2 q = σ.2 q) := by
  intro r
  induction r with
  | zero =>
    intro t f σ ht hf h3 h7 hX
    obtain ⟨f, rfl⟩ : ∃ z, f = z + 1 := ⟨f - 1, by omega⟩
    have e : t = T := by omega
    subst e
    rw [fC1_putBelow_b96, h3, add16N, if_pos (by rw [leN (by omega) (by omega)]; omega), ifin (by omega) (by omega), clN (by omega), h7]
    have hw' : fJI_bitCount σ w = some (nI (c k + 1)) := hw
    rw [hw', Option.bind_some]
    exact ⟨σ, rfl, hX, rfl, fun _ _ => rfl⟩
  | succ r ih =>
    intro t f σ ht hf h3 h7 hX
    obtain ⟨f, rfl⟩ : ∃ z, f = z + 1 := ⟨f - 1, by omega⟩
    rw [fC1_putBelow_b96, h3, add16N, if_neg (by rw [leN (by omega) (by omega)]; omega), ifin (by omega) (by omega), ifin (by omega) (by omega), clN (by omega), clN (by omega)]
    unfold fC1_putBelow_b134
    rw [sc1]
    have ha := x_isA hX hT2 (nI (16 + t)) (nI (16 + k)) (to_ty (ix_to (by omega) hT2)) (to_ty (ix_to hk hT2))
    rw [nIt (by omega), nIt (by omega), isI_told hT2 (by omega) hk] at ha
    have ek : (t = k ∨ RT R k j t t k) ↔ R t k := by
      constructor
      · rintro (z | z | z)
        · rw [z]; exact hr k hk
        · exact z
        · omega
      · intro z; exact Or.inr (Or.inl z)
    rcases isB_iff ha ek with ⟨q, e1⟩ | ⟨q, e1⟩
    · rw [e1, Option.bind_some, if_neg z10, ifin2 (by omega) (by omega), nmE]
      obtain ⟨σ', k1, k2, k3, k4⟩ := ih (t + 1) f (sL σ 6 (16 + t) ((σ.2 6 (16 + t)) ||| (σ.2 6 (16 + j)))) (by omega) (by omega) h3 h7 (by
        intro s u hs hu
        rw [sL_2]
        by_cases hst : s = 16 + t
        · subst hst
          rw [if_pos ⟨rfl, rfl⟩, b64_or, Bool.or_eq_true, hX (16 + t) u hs hu, hX (16 + j) u (Or.inr ⟨by omega, by omega⟩) hu, isP_told, isP_told, isP_told]
          constructor
          · rintro ((z | z | ⟨z1, z2, z3, z4⟩) | (z | z | ⟨z1, z2, z3, z4⟩))
            · exact Or.inl z
            · exact Or.inr (Or.inl z)
            · refine Or.inr (Or.inr ⟨z1, z2, z3, ?_⟩)
              rcases z4 with z4 | z4
              · exact Or.inl z4
              · omega
            · refine Or.inr (Or.inr ⟨by omega, by omega, by omega, Or.inr ⟨by omega, q, ?_⟩⟩)
              rw [z, show 16 + j - 16 = j by omega]
              exact hr j hj
            · exact Or.inr (Or.inl z)
            · refine Or.inr (Or.inr ⟨by omega, z2, z3, Or.inr ⟨by omega, q, ?_⟩⟩)
              rcases z4 with z4 | z4
              · exact z4
              · exact absurd z4.2.1 hjk
          · rintro (z | z | ⟨z1, z2, z3, z4⟩)
            · exact Or.inl (Or.inl z)
            · exact Or.inl (Or.inr (Or.inl z))
            · rcases z4 with z4 | ⟨_, _, z4⟩
              · exact Or.inl (Or.inr (Or.inr ⟨z1, z2, z3, Or.inl z4⟩))
              · exact Or.inr (Or.inr (Or.inr ⟨hj, z2, z3, Or.inl z4⟩))
        · rw [if_neg (fun z => hst z.2), hX s u hs hu]
          by_cases h1 : s ≤ 10
          · exact isP_low h1 u
          · obtain ⟨m, hm, rfl⟩ : ∃ k, k < T ∧ s = 16 + k := ⟨s - 16, by omega, by omega⟩
            rw [isP_told, isP_told]
            have er : RT R k j t m (u - 16) ↔ RT R k j (t + 1) m (u - 16) := by
              unfold RT
              constructor
              · rintro (z | ⟨z1, z2⟩)
                · exact Or.inl z
                · exact Or.inr ⟨by omega, z2⟩
              · rintro (z | ⟨z1, z2⟩)
                · exact Or.inl z
                · exact Or.inr ⟨by omega, z2⟩
            rw [er])
      exact ⟨σ', k1, k2, k3, fun q hq => by rw [k4 q hq, sL_off hq]⟩
    · rw [e1, Option.bind_some, if_pos rfl]
      exact ih (t + 1) f σ (by omega) (by omega) h3 h7 (XB_congr (fun m l hm hl => by
        unfold RT
        constructor
        · rintro (z | ⟨z1, z2⟩)
          · exact Or.inl z
          · exact Or.inr ⟨by omega, z2⟩
        · rintro (z | ⟨z1, z2, z3⟩)
          · exact Or.inl z
          · by_cases y : m = t
            · subst y; exact absurd z2 q
            · exact Or.inr ⟨by omega, z2, z3⟩) hX)
theorem m_below_loop (hT2 : T ≤ 24) {k j : Nat} (hk : k < T) (hj : j < T) {τ : xSt} (hE : EM τ T p c g) : ∀ (r i f : Nat) (x4 : Int32), i + r = c k → r < f → fl x4 (∃ l, l < i ∧ g k l = j) → ∃ f' x, fCM_below_b62 f τ (nI (16 + j)) (nI k) x4 (nI i) = fCM_below_b62 (f' + 1) τ (nI (16 + j)) (nI k) x (nI (c k)) ∧ fl x (∃ l, l < c k ∧ g k l = j) := by
  intro r
  induction r with
  | zero =>
    intro i f x4 hi hf h4
    obtain ⟨f, rfl⟩ : ∃ z, f = z + 1 := ⟨f - 1, by omega⟩
    have e : i = c k := by omega
    rw [e] at h4 ⊢
    exact ⟨f, x4, rfl, h4⟩
  | succ r ih =>
    intro i f x4 hi hf h4
    obtain ⟨f, rfl⟩ : ∃ z, f = z + 1 := ⟨f - 1, by omega⟩
    obtain ⟨a1, a2, a3, a4, a5⟩ := hE k hk
    obtain ⟨b1, b2⟩ := a5 i (by omega)
    have one : (∃ l, l < i + 1 ∧ g k l = j) → ∃ f' x, fCM_below_b62 f τ (nI (16 + j)) (nI k) 1 (nI (i + 1)) = fCM_below_b62 (f' + 1) τ (nI (16 + j)) (nI k) x (nI (c k)) ∧ fl x (∃ l, l < c k ∧ g k l = j) := fun h => ih (i + 1) f 1 (by omega) (by omega) (Or.inl ⟨rfl, h⟩)
    rw [fCM_below_b62, ifin (by omega) (by omega), clN (by omega), a3, if_neg (by rw [leN (by omega) (by omega)]; omega), ix4', ifin (by omega) (by omega), clN (by omega), b1]
    unfold fCM_below_b93 fCM_below_b98
    rw [sc1]
    rcases h4 with ⟨rfl, l, h1, h2⟩ | ⟨rfl, h4⟩
    · rw [if_neg z10]
      exact one ⟨l, by omega, h2⟩
    · rw [if_pos rfl]
      by_cases hg : g k i = j
      · rw [if_pos (by rw [hg])]
        exact one ⟨i, by omega, hg⟩
      · rw [if_neg (by rw [eqN (by omega) (by omega)]; omega)]
        refine ih (i + 1) f 0 (by omega) (by omega) (Or.inr ⟨rfl, fun ⟨l, h1, h2⟩ => ?_⟩)
        by_cases q : l = i
        · subst q; exact hg h2
        · exact h4 ⟨l, by omega, h2⟩
end BEL
