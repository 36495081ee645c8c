/-- the least relation with one more type, whose parent is pv -/
def QA (T : Nat) (R : Nat → Nat → Prop) (pv : Int) (k j : Nat) : Prop := (k < T ∧ j < T ∧ R k j) ∨ (k = T ∧ (j = T ∨ (j < T ∧ ∃ q, q < T ∧ pv = ((16 + q : Nat) : Int) ∧ R q j)))
theorem CL_add {T : Nat} {E E' R : Nat → Nat → Prop} {pv : Int} (hC : CL T E R) (h1 : ∀ k j, k < T → j < T → (E k j ↔ E' k j)) (h2 : ∀ k, k < T → ¬ E' k T) (h3 : ∀ j, j < T → (E' T j ↔ pv = ((16 + j : Nat) : Int))) : CL (T + 1) E' (QA T R pv) := by
  obtain ⟨c1, c2, c3, c4⟩ := hC
  refine ⟨fun k hk => ?_, fun i j k hi hj hk q1 q2 => ?_, fun k j hk hj he => ?_, fun Q g1 g2 g3 k j hk hj h => ?_⟩
  · by_cases z : k = T
    · exact Or.inr ⟨z, Or.inl z⟩
    · exact Or.inl ⟨by omega, by omega, c1 k (by omega)⟩
  · rcases q1 with ⟨a1, a2, a3⟩ | ⟨a1, a2 | ⟨a2, q, a3, a4, a5⟩⟩ <;> rcases q2 with ⟨b1, b2, b3⟩ | ⟨b1, b2⟩
    · exact Or.inl ⟨a1, b2, c2 i j k a1 a2 b2 a3 b3⟩
    · omega
    · omega
    · exact Or.inr ⟨a1, b2⟩
    · exact Or.inr ⟨a1, Or.inr ⟨b2, q, a3, a4, c2 q j k a3 a2 b2 a5 b3⟩⟩
    · omega
  · by_cases z : k = T
    · subst z
      by_cases y : j = k
      · exact Or.inr ⟨rfl, Or.inl y⟩
      · have hj' : j < k := by omega
        exact Or.inr ⟨rfl, Or.inr ⟨hj', j, hj', (h3 j hj').mp he, c1 j hj'⟩⟩
    · by_cases y : j = T
      · subst y
        exact absurd he (h2 k (by omega))
      · exact Or.inl ⟨by omega, by omega, c3 k j (by omega) (by omega) ((h1 k j (by omega) (by omega)).mpr he)⟩
  · have low : ∀ k j, k < T → j < T → R k j → Q k j := c4 Q (fun k hk => g1 k (by omega)) (fun i j k hi hj hk => g2 i j k (by omega) (by omega) (by omega)) (fun k j hk hj he => g3 k j (by omega) (by omega) ((h1 k j hk hj).mp he))
    rcases h with ⟨a1, a2, a3⟩ | ⟨a1, a2 | ⟨a2, q, a3, a4, a5⟩⟩
    · exact low k j a1 a2 a3
    · rw [a1, a2]; exact g1 T (by omega)
    · rw [a1]
      exact g2 T q j (by omega) (by omega) (by omega) (g3 T q (by omega) (by omega) ((h3 q a3).mpr a4)) (low q j a3 a2 a5)
theorem isP_low {R R' : Nat → Nat → Prop} {T T' : Nat} {s : Nat} (hs : s ≤ 10) (t : Nat) : isP R T (s : Int) (t : Int) ↔ isP R' T' (s : Int) (t : Int) := by
  unfold isP toI
  constructor
  · rintro (h | h | ⟨h1, h2, h3 | h3 | h3 | ⟨h3, _⟩⟩)
    · exact Or.inl h
    · exact Or.inr (Or.inl h)
    · exact Or.inr (Or.inr ⟨h1, h2, Or.inl h3⟩)
    · exact Or.inr (Or.inr ⟨h1, h2, Or.inr (Or.inl h3)⟩)
    · exact Or.inr (Or.inr ⟨h1, h2, Or.inr (Or.inr (Or.inl h3))⟩)
    · omega
  · rintro (h | h | ⟨h1, h2, h3 | h3 | h3 | ⟨h3, _⟩⟩)
    · exact Or.inl h
    · exact Or.inr (Or.inl h)
    · exact Or.inr (Or.inr ⟨h1, h2, Or.inl h3⟩)
    · exact Or.inr (Or.inr ⟨h1, h2, Or.inr (Or.inl h3)⟩)
    · exact Or.inr (Or.inr ⟨h1, h2, Or.inr (Or.inr (Or.inl h3))⟩)
    · omega
theorem isP_told {R : Nat → Nat → Prop} {T : Nat} (k t : Nat) : isP R T ((16 + k : Nat) : Int) (t : Int) ↔ (t = 16 + k ∨ t = 8 ∨ (k < T ∧ 16 ≤ t ∧ t < 16 + T ∧ R k (t - 16))) := by
  have e1 : (((16 + k : Nat) : Int) - 16).toNat = k := by omega
  have e2 : ((t : Int) - 16).toNat = t - 16 := by omega
  unfold isP toI
  rw [e1, e2]
  constructor
  · rintro (h | h | ⟨h1, h2, h3 | h3 | h3 | ⟨h3, h4, h5⟩⟩)
    · exact Or.inl (by omega)
    · omega
    · exact Or.inr (Or.inl (by omega))
    · omega
    · omega
    · exact Or.inr (Or.inr ⟨by omega, by omega, by omega, h5⟩)
  · rintro (h | h | ⟨h1, h2, h3, h4⟩)
    · exact Or.inl (by omega)
    · exact Or.inr (Or.inr ⟨by omega, by omega, Or.inl (by omega)⟩)
    · exact Or.inr (Or.inr ⟨by omega, by omega, Or.inr (Or.inr (Or.inr ⟨by omega, by omega, h4⟩))⟩)
theorem isP_8 {R : Nat → Nat → Prop} {T : Nat} (t : Nat) : isP R T ((8 : Nat) : Int) (t : Int) ↔ t = 8 := by
  unfold isP toI
  constructor
  · rintro (h | h | ⟨h1, h2, h3 | h3 | h3 | ⟨h3, h4, h5⟩⟩) <;> omega
  · intro h; exact Or.inl (by omega)
theorem isI_told {R : Nat → Nat → Prop} {T : Nat} (hT2 : T ≤ 24) {k j : Nat} (hk : k < T) (hj : j < T) : isI R T ((16 + k : Nat) : Int) ((16 + j : Nat) : Int) ↔ (k = j ∨ R k j) := by
  have h := isP_told (R := R) (T := T) k (16 + j)
  have e : 16 + j - 16 = j := by omega
  rw [e] at h
  unfold isI
  constructor
  · rintro (h1 | h1 | h1 | h1 | ⟨_, _, h1⟩)
    · exact Or.inl (by omega)
    · omega
    · omega
    · omega
    · rcases h.mp h1 with q | q | q
      · exact Or.inl (by omega)
      · omega
      · exact Or.inr q.2.2.2
  · rintro (h1 | h1)
    · exact Or.inl (by omega)
    · exact Or.inr (Or.inr (Or.inr (Or.inr ⟨by omega, by omega, h.mpr (Or.inr (Or.inr ⟨hk, by omega, by omega, h1⟩))⟩)))
section ADD
variable {T n : Nat} {d : MD} {fc fc' : Nat → Prop} {R R' : Nat → Nat → Prop}
theorem fnd_congr {P P' : Nat → Prop} {C : Nat → Nat → Prop} : ∀ (r m : Nat) (v : Int), (∀ j, m ≤ j → j < m + r → (P j ↔ P' j)) → fnd P C r m v = fnd P' C r m v := by
  intro r
  induction r with
  | zero => intro m v h; rfl
  | succ r ih =>
    intro m v h
    have hm := h m (Nat.le_refl m) (by omega)
    have hi : ∀ w, fnd P C r (m + 1) w = fnd P' C r (m + 1) w := fun w => ih (m + 1) w (fun j h1 h2 => h j (by omega) (by omega))
    rw [fnd, fnd]
    by_cases p : P m
    · rw [if_pos p, if_pos (hm.mp p), hi, hi]
    · rw [if_neg p, if_neg (fun z => p (hm.mpr z)), hi]
theorem fnd_none {P : Nat → Prop} {C : Nat → Nat → Prop} : ∀ (r m : Nat) (v : Int), (∀ j, m ≤ j → j < m + r → ¬ P j) → fnd P C r m v = v := by
  intro r
  induction r with
  | zero => intro m v h; rfl
  | succ r ih =>
    intro m v h
    rw [fnd, if_neg (h m (Nat.le_refl m) (by omega))]
    exact ih (m + 1) v (fun j h1 h2 => h j (by omega) (by omega))
theorem SN_congr {T' : Nat} (hW : WD T n d) (hI : ∀ i j, i < T → j < T → (isI R T ((16 + i : Nat) : Int) ((16 + j : Nat) : Int) ↔ isI R' T' ((16 + i : Nat) : Int) ((16 + j : Nat) : Int))) {k m : Nat} (hk : k < T) (hm : m < n) (f : Int) : SN d R T n ((16 + k : Nat) : Int) f m ↔ SN d R' T' n ((16 + k : Nat) : Int) f m := by
  unfold SN
  have ho : ∀ o, o < n → (OV d R T ((16 + k : Nat) : Int) m o ↔ OV d R' T' ((16 + k : Nat) : Int) m o) := by
    intro o hon
    unfold OV
    rw [hI k (ow d o) hk (hW o hon).1, hI (ow d o) (ow d m) (hW o hon).1 (hW m hm).1]
  rw [hI k (ow d m) hk (hW m hm).1]
  constructor
  · rintro ⟨h1, h2, h3⟩
    refine ⟨h1, h2, ?_⟩
    rcases h3 with h3 | h3 | h3
    · exact Or.inl h3
    · exact Or.inr (Or.inl h3)
    · exact Or.inr (Or.inr (fun o hon z => h3 o hon ((ho o hon).mpr z)))
  · rintro ⟨h1, h2, h3⟩
    refine ⟨h1, h2, ?_⟩
    rcases h3 with h3 | h3 | h3
    · exact Or.inl h3
    · exact Or.inr (Or.inl h3)
    · exact Or.inr (Or.inr (fun o hon z => h3 o hon ((ho o hon).mp z)))
theorem FN_congr {T' : Nat} (hT : T ≤ T') (hW : WD T n d) (hI : ∀ i j, i < T → j < T → (isI R T ((16 + i : Nat) : Int) ((16 + j : Nat) : Int) ↔ isI R' T' ((16 + i : Nat) : Int) ((16 + j : Nat) : Int))) {k : Nat} (hk : k < T) (hf : fc k ↔ fc' k) : FN d R T n fc ((16 + k : Nat) : Int) = FN d R' T' n fc' ((16 + k : Nat) : Int) := by
  have hU : FU d R T n ((16 + k : Nat) : Int) = FU d R' T' n ((16 + k : Nat) : Int) := by
    unfold FU
    refine fnd_congr n 0 (-1) (fun j _ hj => ?_)
    unfold AS
    rw [SN_congr hW hI hk (by omega)]
  by_cases h : fc k
  · rw [(FN_at hk).1 h, (FN_at (by omega)).1 (hf.mp h), hU]
  · rw [(FN_at hk).2 h, (FN_at (by omega)).2 (fun z => h (hf.mpr z))]
/-- a new type has no function -/
theorem FN_new (hW : WD T n d) (hT2 : T + 1 ≤ 24) (hf : fc' T → ∀ j, j < T → ¬ R' T j) : FN d R' (T + 1) n fc' ((16 + T : Nat) : Int) = -1 := by
  by_cases h : fc' T
  · rw [(FN_at (by omega)).1 h]
    unfold FU
    refine fnd_none n 0 (-1) (fun j _ hj => ?_)
    intro z
    have how := (hW j (by omega)).1
    have hi := (isI_told hT2 (show T < T + 1 by omega) (show ow d j < T + 1 by omega)).mp z.2.1
    rcases hi with q | q
    · omega
    · exact hf h _ how q
  · rw [(FN_at (by omega)).2 h]
theorem plu {z : Int} (h : plI T z) : plI (T + 1) z := by
  unfold plI toI at *
  omega
theorem vau {z : Int} (h : vaI T z) : vaI (T + 1) z := by
  unfold vaI at *
  rcases h with h | h
  · exact Or.inl (plu h)
  · exact Or.inr ⟨h.1, plu h.2⟩
theorem tyu {z : Int} (h : tyI T z) : tyI (T + 1) z := by
  unfold tyI at *
  rcases h with h | h | h
  · exact Or.inl (plu h)
  · exact Or.inr (Or.inl h)
  · exact Or.inr (Or.inr ⟨h.1, plu h.2⟩)
theorem WD_up (hW : WD T n d) : WD (T + 1) n d := by
  intro m hm
  obtain ⟨h1, h2, h3, h4, h5, h6, h7⟩ := hW m hm
  refine ⟨by omega, h2, h3, h4, ?_, fun k hk => vau (h6 k hk), h7⟩
  rcases h5 with h5 | h5
  · exact Or.inl h5
  · exact Or.inr (vau h5)
theorem WA_up {a : Nat} {e : AD} (hW : WA T a e) : WA (T + 1) a e := by
  intro i hi
  obtain ⟨h1, h2, h3⟩ := hW i hi
  refine ⟨h1, fun z => tyu (h2 z), fun z => ⟨?_, (h3 z).2⟩⟩
  rcases (h3 z).1 with h5 | h5
  · exact Or.inl h5
  · exact Or.inr (vau h5)
/-- the class's rows with one more type -/
theorem XB_add {σ σ' : xSt} {xr : Nat} {pv : Int} (hT2 : T < 24) (hX : XB σ T R) (hR : ∀ k j, k < T + 1 → j < T + 1 → (R' k j ↔ QA T R pv k j)) (hrf : ∀ k, k < T → R k k) (hx : (xr = 8 ∧ ∀ q, q < T → pv ≠ ((16 + q : Nat) : Int)) ∨ ∃ q, q < T ∧ xr = 16 + q ∧ pv = ((16 + q : Nat) : Int)) (h6 : ∀ s, s ≠ 16 + T → σ'.2 6 s = σ.2 6 s) (hn : σ'.2 6 (16 + T) = (σ.2 6 xr) ||| (jlshl (1 : Int64) (nI (16 + T)))) : XB σ' (T + 1) R' := by
  intro s t hs ht
  by_cases h1 : s ≤ 10
  · rw [h6 s (by omega), hX s t (Or.inl h1) ht]
    exact isP_low h1 t
  · obtain ⟨k, hk, rfl⟩ : ∃ k, k < T + 1 ∧ s = 16 + k := ⟨s - 16, by omega, by omega⟩
    rw [isP_told]
    by_cases h2 : k = T
    · subst h2
      rw [hn, b64_or, b64_bit (by omega)]
      have key : (b64 (σ.2 6 xr) t || decide (t = 16 + k)) = true ↔ (b64 (σ.2 6 xr) t = true ∨ t = 16 + k) := by simp
      rw [key]
      rcases hx with ⟨rfl, hq⟩ | ⟨q, hq, rfl, rfl⟩
      · rw [hX 8 t (Or.inl (by omega)) ht, isP_8]
        constructor
        · rintro (h | h)
          · exact Or.inr (Or.inl h)
          · exact Or.inl h
        · rintro (h | h | ⟨g1, g2, g3, g4⟩)
          · exact Or.inr h
          · exact Or.inl h
          · rcases (hR k (t - 16) (by omega) (by omega)).mp g4 with ⟨z, _⟩ | ⟨_, z | ⟨z, q, z1, z2, _⟩⟩
            · omega
            · exact Or.inr (by omega)
            · exact absurd z2 (hq q z1)
      · rw [hX (16 + q) t (Or.inr ⟨by omega, by omega⟩) ht, isP_told]
        constructor
        · rintro ((h | h | ⟨g1, g2, g3, g4⟩) | h)
          · refine Or.inr (Or.inr ⟨by omega, by omega, by omega, (hR k (t - 16) (by omega) (by omega)).mpr (Or.inr ⟨rfl, Or.inr ⟨by omega, q, hq, rfl, ?_⟩⟩)⟩)
            rw [h, show 16 + q - 16 = q by omega]
            exact hrf q hq
          · exact Or.inr (Or.inl h)
          · exact Or.inr (Or.inr ⟨by omega, by omega, by omega, (hR k (t - 16) (by omega) (by omega)).mpr (Or.inr ⟨rfl, Or.inr ⟨by omega, q, hq, rfl, g4⟩⟩)⟩)
          · exact Or.inl h
        · rintro (h | h | ⟨g1, g2, g3, g4⟩)
          · exact Or.inr h
          · exact Or.inl (Or.inr (Or.inl h))
          · rcases (hR k (t - 16) (by omega) (by omega)).mp g4 with ⟨z, _⟩ | ⟨_, z | ⟨z, q', z1, z2, z3⟩⟩
            · omega
            · exact Or.inr (by omega)
            · have : q' = q := by omega
              subst this
              exact Or.inl (Or.inr (Or.inr ⟨hq, g2, by omega, z3⟩))
    · rw [h6 _ (by omega), hX (16 + k) t (Or.inr ⟨by omega, by omega⟩) ht, isP_told]
      constructor
      · rintro (h | h | ⟨g1, g2, g3, g4⟩)
        · exact Or.inl h
        · exact Or.inr (Or.inl h)
        · exact Or.inr (Or.inr ⟨hk, g2, by omega, (hR k (t - 16) hk (by omega)).mpr (Or.inl ⟨g1, by omega, g4⟩)⟩)
      · rintro (h | h | ⟨g1, g2, g3, g4⟩)
        · exact Or.inl h
        · exact Or.inr (Or.inl h)
        · rcases (hR k (t - 16) hk (by omega)).mp g4 with ⟨z1, z2, z3⟩ | ⟨z, _⟩
          · exact Or.inr (Or.inr ⟨z1, g2, by omega, z3⟩)
          · exact absurd z h2
end ADD
