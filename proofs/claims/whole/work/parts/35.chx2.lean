theorem lgc (x y : Int64) : lg_cmp x y = 0 ↔ x = y := by
  unfold lg_cmp
  by_cases h : x > y
  · rw [if_pos h]
    constructor
    · intro e; exact absurd e (by decide)
    · intro e; subst e; exact absurd h (Int64.lt_irrefl)
  · rw [if_neg h]
    by_cases g : x = y
    · rw [if_pos g]; exact ⟨fun _ => g, fun _ => rfl⟩
    · rw [if_neg g]
      constructor
      · intro e; exact absurd e (by decide)
      · intro e; exact absurd e g
/-- the one that is chosen of those with Mo, or -1 -/
noncomputable def pk (Mo : Nat → Prop) (d : MD) : Nat → Nat → Int → Int → Nat → Int
  | 0, _, v, c, cs => if v = -1 then -1 else if 1 < cs then -1 else if cs = 1 then c else v
  | r + 1, m, v, c, cs => @ite _ (Mo m) (Classical.propDecidable _) (@ite _ (v = -1 ∨ SA d v.toNat m) (Classical.propDecidable _) (pk Mo d r (m + 1) (if v = -1 then m else v) (@ite _ (AB d m) (Classical.propDecidable _) c m) (@ite _ (AB d m) (Classical.propDecidable _) cs (cs + 1))) (-1)) (pk Mo d r (m + 1) v c cs)
def MO (A : Nat → Prop) (S : Nat → Nat → Prop) (n m : Nat) : Prop := A m ∧ ∀ o, o < n → A o → S m o
section CHX2
variable {T n a : Nat} {d : MD} {fc : Nat → Prop} {R : Nat → Nat → Prop} {e : AD}
theorem x_cmp_inner {A : Nat → Prop} {ph : Nat} (hp : ph ≤ 3) (hA : ∀ k, k < n → A k → OKs d R T n a fc e k (ph = 3)) {m : Nat} (hm : m < n) (ham : A m) (k2 : xSt → Int32 → Option xSt) (x1 : Int32) : ∀ (r o f : Nat) (σ : xSt), o + r = n → r < f → CX σ T n a d fc R e → σ.1 4 9 = nI ph → σ.1 4 7 = nI (cntP A n) → (∀ k, k < n → A k → σ.1 22 (cntP A k) = nI k) → (∀ u, u < 64 → (b64 (σ.2 23 m) u = true ↔ (u < o ∧ A u ∧ SP d R T n a fc e m u (ph = 3)))) → ∃ σ', fC4_compareAll_b26 k2 f σ x1 (nI m) (nI (cntP A o)) = k2 σ' (x1 + (1 : Int32)) ∧ σ'.1 = σ.1 ∧ (∀ c, c ≠ 23 → σ'.2 c = σ.2 c) ∧ (∀ k, k ≠ m → σ'.2 23 k = σ.2 23 k) ∧ (∀ u, u < 64 → (b64 (σ'.2 23 m) u = true ↔ (u < n ∧ A u ∧ SP d R T n a fc e m u (ph = 3)))) := by
  have z1 : ¬ (1 : Int32) = 0 := by decide
  intro r
  induction r with
  | zero =>
    intro o f σ ho hf C h9 h7 h22 hb
    have hn := C.2.1.2.1
    obtain ⟨f, rfl⟩ : ∃ z, f = z + 1 := ⟨f - 1, by omega⟩
    have e : o = n := by omega
    subst e
    have := cnt_le (P := A) o
    rw [fC4_compareAll_b26, h7, if_pos (by rw [leN (by omega) (by omega)]; omega)]
    exact ⟨σ, rfl, rfl, fun _ _ => rfl, fun _ _ => rfl, hb⟩
  | succ r ih =>
    intro o f σ ho hf C h9 h7 h22 hb
    have hn := C.2.1.2.1
    have c1 := cnt_le (P := A) o
    by_cases ha : A o
    · obtain ⟨f, rfl⟩ : ∃ z, f = z + 1 := ⟨f - 1, by omega⟩
      have hlt := cnt_lt ha (show o < n by omega)
      have c3 := cnt_le (P := A) n
      rw [fC4_compareAll_b26, h7, if_neg (by rw [leN (by omega) (by omega)]; omega), ifin (by omega) (by omega), clN (by omega), h22 o (by omega) ha]
      unfold fC4_compareAll_b65
      rw [sc1]
      rcases x_special C h9 hp (hA m hm ham) (hA o (by omega) ha) with ⟨g, e1⟩ | ⟨g, e1⟩
      · rw [e1, Option.bind_some, if_neg z1, ifin (by omega) (by omega), ifin2 (by omega) (by omega), ifin (by omega) (by omega), nmE, clN (by omega)]
        have h := ih (o + 1) f (sL σ 23 m (σ.2 23 m ||| jlshl 1 (nI o))) (by omega) (by omega) (KX_CX (KX_L (Or.inr rfl)) C) h9 h7 h22 (fun u hu => by
          rw [sL_2, if_pos ⟨rfl, rfl⟩, b64_or, b64_bit (by omega)]
          by_cases q : u = o
          · subst q
            simp only [decide_true, Bool.or_true, true_iff]
            exact ⟨by omega, ha, g⟩
          · simp only [decide_eq_false q, Bool.or_false]
            rw [hb u hu]
            constructor
            · intro z; exact ⟨by omega, z.2⟩
            · intro z; exact ⟨by omega, z.2⟩)
        rw [cnt_y ha] at h
        obtain ⟨σ', k1, k2, k3, k4, k5⟩ := h
        exact ⟨σ', k1, k2, fun c hc => by rw [k3 c hc, sL_off hc], fun k hk => by rw [k4 k hk, sL_2, if_neg (fun z => hk z.2)], k5⟩
      · rw [e1, Option.bind_some, if_pos rfl]
        have h := ih (o + 1) f σ (by omega) (by omega) C h9 h7 h22 (fun u hu => by
          rw [hb u hu]
          constructor
          · intro z; exact ⟨by omega, z.2⟩
          · intro z; exact ⟨by have : u ≠ o := fun q => g (q ▸ z.2.2); omega, z.2⟩)
        rw [cnt_y ha] at h
        exact h
    · have h := ih (o + 1) f σ (by omega) (by omega) C h9 h7 h22 (fun u hu => by
        rw [hb u hu]
        constructor
        · intro z; exact ⟨by omega, z.2⟩
        · intro z; exact ⟨by have : u ≠ o := fun q => ha (q ▸ z.2.1); omega, z.2⟩)
      rw [cnt_n ha] at h
      exact h
theorem x_cmp_outer {A : Nat → Prop} {ph : Nat} (hp : ph ≤ 3) (hA : ∀ k, k < n → A k → OKs d R T n a fc e k (ph = 3)) : ∀ (r m f : Nat) (σ : xSt), m + r = n → r < f → CX σ T n a d fc R e → σ.1 4 9 = nI ph → σ.1 4 7 = nI (cntP A n) → (∀ k, k < n → A k → σ.1 22 (cntP A k) = nI k) → (∀ k, k < m → A k → ∀ u, u < 64 → (b64 (σ.2 23 k) u = true ↔ (u < n ∧ A u ∧ SP d R T n a fc e k u (ph = 3)))) → ∃ σ', fC4_compareAll_b2 f σ (nI (cntP A m)) = some σ' ∧ σ'.1 = σ.1 ∧ (∀ c, c ≠ 23 → σ'.2 c = σ.2 c) ∧ (∀ k, k < n → A k → ∀ u, u < 64 → (b64 (σ'.2 23 k) u = true ↔ (u < n ∧ A u ∧ SP d R T n a fc e k u (ph = 3)))) := by
  intro r
  induction r with
  | zero =>
    intro m f σ hm hf C h9 h7 h22 hb
    have hn := C.2.1.2.1
    obtain ⟨f, rfl⟩ : ∃ z, f = z + 1 := ⟨f - 1, by omega⟩
    have e : m = n := by omega
    subst e
    have := cnt_le (P := A) m
    rw [fC4_compareAll_b2, h7, if_pos (by rw [leN (by omega) (by omega)]; omega)]
    exact ⟨σ, rfl, rfl, fun _ _ => rfl, hb⟩
  | succ r ih =>
    intro m f σ hm hf C h9 h7 h22 hb
    have hn := C.2.1.2.1
    have c1 := cnt_le (P := A) m
    by_cases ha : A m
    · obtain ⟨f, rfl⟩ : ∃ z, f = z + 1 := ⟨f - 1, by omega⟩
      have hlt := cnt_lt ha (show m < n by omega)
      have c3 := cnt_le (P := A) n
      rw [fC4_compareAll_b2, h7, if_neg (by rw [leN (by omega) (by omega)]; omega), ifin (by omega) (by omega), nmE, clN (by omega), h22 m (by omega) ha, ifin (by omega) (by omega), nmE, clN (by omega)]
      obtain ⟨σ1, i1, i2, i3, i4, i5⟩ := x_cmp_inner hp hA (m := m) (by omega) ha (fC4_compareAll_b2 f) (nI (cntP A m)) n 0 gF (sL σ 23 m 0) (by omega) (by unfold gF; omega) (KX_CX (KX_L (Or.inr rfl)) C) h9 h7 h22 (fun u hu => by
        rw [sL_2, if_pos ⟨rfl, rfl⟩, b64_0]
        constructor
        · intro z; cases z
        · intro z; omega)
      have e0 : (0 : Int32) = nI (cntP A 0) := rfl
      rw [e0, i1, sc1]
      have K1 : KX σ σ1 := ⟨fun c _ _ _ => by rw [i2]; rfl, fun c g1 g2 => by rw [i3 c g2, sL_off g2]⟩
      have i2' : σ1.1 = σ.1 := i2
      have h := ih (m + 1) f σ1 (by omega) (by omega) (KX_CX K1 C) (by rw [i2']; exact h9) (by rw [i2']; exact h7) (by rw [i2']; exact h22) (fun k g1 g2 => by
        by_cases q : k = m
        · subst q; exact i5
        · intro u hu
          rw [i4 k q, sL_2, if_neg (fun z => q z.2)]
          exact hb k (by omega) g2 u hu)
      rw [cnt_y ha] at h
      obtain ⟨σ', k1, k2, k3, k4⟩ := h
      exact ⟨σ', k1, by rw [k2, i2'], fun c hc => by rw [k3 c hc, i3 c hc, sL_off hc], k4⟩
    · have h := ih (m + 1) f σ (by omega) (by omega) C h9 h7 h22 (fun k g1 g2 => by
        by_cases q : k = m
        · subst q; exact absurd g2 ha
        · exact hb k (by omega) g2)
      rw [cnt_n ha] at h
      exact h
/-- what the class answers: -6 for none -/
noncomputable def am (v : Int) : Int := if v = -1 then -6 else v
theorem x_pick_loop {A : Nat → Prop} {S : Nat → Nat → Prop} {σ : xSt} (hW : WD T n d) (hM : MX σ n d) (h7 : σ.1 4 7 = nI (cntP A n)) (h22 : ∀ k, k < n → A k → σ.1 22 (cntP A k) = nI k) (hb : ∀ u, u < 64 → (b64 (σ.2 4 8) u = true ↔ (u < n ∧ A u))) (hs : ∀ k, k < n → A k → ∀ u, u < 64 → (b64 (σ.2 23 k) u = true ↔ (u < n ∧ A u ∧ S k u))) : ∀ (r m f : Nat) (v c : Int32) (cs : Nat), m + r = n → r < f → cs ≤ m → (v.toInt = -1 ∨ (0 ≤ v.toInt ∧ v.toInt < m)) → (0 < cs → 0 ≤ c.toInt ∧ c.toInt < m) → isV (fC4_pick_b9 σ f v c (nI cs) (nI (cntP A m))) (am (pk (MO A S n) d r m v.toInt c.toInt cs)) := by
  have z1 : ¬ (1 : Int32) = 0 := by decide
  have hn := hM.2.1
  intro r
  induction r with
  | zero =>
    intro m f v c cs hm hf hcs hv hcc
    obtain ⟨f, rfl⟩ : ∃ z, f = z + 1 := ⟨f - 1, by omega⟩
    have e : m = n := by omega
    subst e
    have := cnt_le (P := A) m
    rw [fC4_pick_b9, h7, if_pos (by rw [leN (by omega) (by omega)]; omega)]
    unfold pk am
    by_cases h1 : v.toInt = -1
    · rw [if_pos (by rw [i32eq, tI_m1]; exact h1), if_pos h1, if_pos rfl]
      exact ⟨-6, rfl, tI_m6⟩
    · rw [if_neg (by rw [i32eq, tI_m1]; exact h1), if_neg h1]
      by_cases h2 : 1 < cs
      · rw [if_neg (by rw [i32le, nIt (by omega), tI_1]; omega), if_pos h2, if_pos rfl]
        exact ⟨-6, rfl, tI_m6⟩
      · rw [if_pos (by rw [i32le, nIt (by omega), tI_1]; omega), if_neg h2]
        by_cases h3 : cs = 1
        · rw [if_pos (by rw [i32eq, nIt (by omega), tI_1]; omega), if_pos h3]
          by_cases h4 : c.toInt = -1
          · exact absurd h4 (by have := hcc (by omega); omega)
          · rw [if_neg h4]; exact ⟨c, rfl, rfl⟩
        · rw [if_neg (by rw [i32eq, nIt (by omega), tI_1]; omega), if_neg h3, if_neg h1]
          exact ⟨v, rfl, rfl⟩
  | succ r ih =>
    intro m f v c cs hm hf hcs hv hcc
    have c1 := cnt_le (P := A) m
    by_cases ha : A m
    · obtain ⟨f, rfl⟩ : ∃ z, f = z + 1 := ⟨f - 1, by omega⟩
      have hlt := cnt_lt ha (show m < n by omega)
      have c3 := cnt_le (P := A) n
      rw [fC4_pick_b9, h7, if_neg (by rw [leN (by omega) (by omega)]; omega), ifin (by omega) (by omega), nmE, clN (by omega), h22 m (by omega) ha, ifin (by omega) (by omega), clN (by omega)]
      have word : (σ.2 23 m = σ.2 4 8) ↔ MO A S n m := by
        constructor
        · intro q
          refine ⟨ha, fun o ho hao => ?_⟩
          have h1 := (hb o (by omega)).mpr ⟨ho, hao⟩
          rw [← q] at h1
          exact ((hs m (by omega) ha o (by omega)).mp h1).2.2
        · intro q
          refine b64_ext (fun u hu => ?_)
          have h1 := hs m (by omega) ha u hu
          have h2 := hb u hu
          have h3 : (b64 (σ.2 23 m) u = true) ↔ (b64 (σ.2 4 8) u = true) := by
            rw [h1, h2]
            exact ⟨fun z => ⟨z.1, z.2.1⟩, fun z => ⟨z.1, z.2, q.2 u z.1 z.2⟩⟩
          cases g1 : b64 (σ.2 23 m) u <;> cases g2 : b64 (σ.2 4 8) u <;> simp_all
      unfold pk
      by_cases hmo : MO A S n m
      · rw [if_pos ((lgc _ _).mpr (word.mpr hmo)), if_pos hmo]
        have b72 : ∀ x1 : Int32, (0 ≤ x1.toInt ∧ x1.toInt < ((m + 1 : Nat) : Int)) → isV (fC4_pick_b72 (fC4_pick_b9 σ f) σ x1 c (nI cs) (nI (cntP A m)) (nI m)) (am (pk (MO A S n) d r (m + 1) x1.toInt (@ite _ (AB d m) (Classical.propDecidable _) c.toInt m) (@ite _ (AB d m) (Classical.propDecidable _) cs (cs + 1)))) := by
          intro x1 hx1
          unfold fC4_pick_b72 fC4_pick_b90
          rw [sc1, sc1]
          rcases x_isAbstract hM hW (m := m) (by omega) with ⟨g, e1⟩ | ⟨g, e1⟩
          · rw [e1, Option.bind_some, if_neg z1, if_pos g, if_pos g]
            have h := ih (m + 1) f x1 c cs (by omega) (by omega) (by omega) (Or.inr hx1) (fun q => by have := hcc q; omega)
            rw [cnt_y ha] at h
            exact h
          · rw [e1, Option.bind_some, if_pos rfl, if_neg g, if_neg g]
            have h := ih (m + 1) f x1 (nI m) (cs + 1) (by omega) (by omega) (by omega) (Or.inr hx1) (fun _ => by rw [nIt (by omega)]; omega)
            rw [cnt_y ha, nIt (n := m) (by omega)] at h
            exact h
        by_cases h1 : v.toInt = -1
        · rw [if_pos (by rw [i32eq, tI_m1]; exact h1), if_pos (Or.inl h1), if_pos h1]
          have h := b72 (nI m) (by rw [nIt (by omega)]; omega)
          rw [nIt (n := m) (by omega)] at h
          exact h
        · obtain ⟨j, hj, rfl⟩ : ∃ j : Nat, j < m ∧ v = nI j := ⟨v.toInt.toNat, by omega, by rw [i32eq, nIt (by omega)]; omega⟩
          rw [if_neg (by rw [i32eq, tI_m1]; exact h1), if_neg h1]
          have ej : (nI j).toInt.toNat = j := by rw [nIt (by omega)]; omega
          rw [ej]
          rcases x_same hM hW (m := j) (o := m) (by omega) (by omega) with ⟨g, e1⟩ | ⟨g, e1⟩
          · rw [e1, Option.bind_some, if_neg z1, if_pos (Or.inr g)]
            exact b72 (nI j) (by rw [nIt (by omega)]; omega)
          · rw [e1, Option.bind_some, if_pos rfl, if_neg (fun q => by rcases q with q | q; exact h1 q; exact g q)]
            exact ⟨-6, rfl, tI_m6⟩
      · rw [if_neg (fun q => hmo (word.mp ((lgc _ _).mp q))), if_neg hmo]
        unfold fC4_pick_b90
        rw [sc1]
        have h := ih (m + 1) f v c cs (by omega) (by omega) (by omega) (by omega) (fun q => by have := hcc q; omega)
        rw [cnt_y ha] at h
        exact h
    · unfold pk
      rw [if_neg (fun q : MO A S n m => ha q.1)]
      have h := ih (m + 1) f v c cs (by omega) (by omega) (by omega) (by omega) (fun q => by have := hcc q; omega)
      rw [cnt_n ha] at h
      exact h
end CHX2
