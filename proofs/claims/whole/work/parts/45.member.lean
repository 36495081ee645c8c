section MEMB
variable {σ τ : xSt} {T n a : Nat} {d : MD} {fc : Nat → Prop} {R : Nat → Nat → Prop} {e : AD}
theorem x_keep {x1 x2 x3 x4 x5 x6 x7 x8 x9 : Int32} (hn : n ≤ 60) (hW : WD T n d) {σ0 : xSt} (hM : MX σ0 n d) (hT : TX σ T fc R) (h29 : σ.1 2 9 = nI n) (hc : ∀ c i, 9 ≤ c → c ≤ 13 → i ≠ n → σ.1 c i = σ0.1 c i) (hp : ∀ i, i < 4 * n → σ.1 14 i = σ0.1 14 i) (h9 : σ.1 9 n = x1) (h10 : σ.1 10 n = x2) (h11 : σ.1 11 n = x3) (h12 : σ.1 12 n = x4) (h13 : σ.1 13 n = x5) (h14 : ∀ k, k < 4 → σ.1 14 (4 * n + k) = prm x6 x7 x8 x9 k) : ((GD T n fc x1.toInt x2.toInt x3.toInt x4.toInt x5.toInt (fun k => (prm x6 x7 x8 x9 k).toInt) ∧ ∀ m, m < n → ¬ TW d n (x1.toInt - 16).toNat x2.toInt.toNat x5.toInt.toNat (fun k => (prm x6 x7 x8 x9 k).toInt) m) ∧ fC2_keepDraft σ = some (nI n, sI (sI σ 2 8 0) 2 9 (nI (n + 1)))) ∨ (¬ (GD T n fc x1.toInt x2.toInt x3.toInt x4.toInt x5.toInt (fun k => (prm x6 x7 x8 x9 k).toInt) ∧ ∀ m, m < n → ¬ TW d n (x1.toInt - 16).toNat x2.toInt.toNat x5.toInt.toNat (fun k => (prm x6 x7 x8 x9 k).toInt) m) ∧ fC2_keepDraft σ = some (-2, σ)) := by
  have hT2 := hT.2.1
  unfold fC2_keepDraft
  rw [h29]
  by_cases h60 : n = 60
  · rw [if_pos (by rw [h60]; decide)]
    exact Or.inr ⟨fun z => by have := z.1.2.2.2.2.2.1; omega, rfl⟩
  rw [if_neg (by rw [i32le, tI_60, nIt (by omega)]; omega)]
  rcases x_goodHead hT hn h9 h10 h11 h12 with ⟨⟨g1, g2, ⟨g3, g4⟩, g5⟩, e1⟩ | ⟨g1, e1⟩
  · rw [e1, Option.bind_some, if_neg z10]
    obtain ⟨o, ho, rfl⟩ := to_ix g1
    have eo : ((nI (16 + o)).toInt - 16).toNat = o := by rw [nIt (by omega)]; omega
    obtain ⟨nm, hnm, rfl⟩ : ∃ q : Nat, q < 16 ∧ x2 = nI q := ⟨x2.toInt.toNat, by omega, by rw [i32eq, nIt (by omega)]; omega⟩
    obtain ⟨q, hq, rfl⟩ : ∃ q : Nat, q < 16 ∧ x3 = nI q := ⟨x3.toInt.toNat, by omega, by rw [i32eq, nIt (by omega)]; omega⟩
    have enm : (nI nm).toInt.toNat = nm := by rw [nIt (by omega)]; omega
    have eq : (nI q).toInt.toNat = q := by rw [nIt (by omega)]; omega
    unfold fC2_hasGoodParameters
    rw [ifin (by omega) (by omega), clN (by omega), h13]
    by_cases k0 : x5 < 0
    · rw [if_pos k0, Option.bind_some, if_pos rfl]
      rw [i32lt, tI_0] at k0
      exact Or.inr ⟨fun z => by have := z.1.2.2.2.2.1; omega, rfl⟩
    rw [if_neg k0, ifin2 (by omega) (by omega)]
    by_cases k1 : x5 ≤ 4
    · rw [if_pos k1]
      rw [i32lt, tI_0] at k0
      rw [i32le, tI_4] at k1
      obtain ⟨cc, hcc, rfl⟩ : ∃ q : Nat, q ≤ 4 ∧ x5 = nI q := ⟨x5.toInt.toNat, by omega, by rw [i32eq, nIt (by omega)]; omega⟩
      have ecc : (nI cc).toInt.toNat = cc := by rw [nIt (by omega)]; omega
      have icc : (nI cc).toInt = cc := by rw [nIt (by omega)]
      rw [eo, enm, ecc]
      have hgd : GD T n fc (nI (16 + o)).toInt (nI nm).toInt (nI q).toInt x4.toInt (nI cc).toInt (fun k => (prm x6 x7 x8 x9 k).toInt) ↔ ((∀ j, j < cc → vaI T (prm x6 x7 x8 x9 j).toInt) ∧ (q.testBit 3 = true → 0 < cc ∧ 64 ≤ (prm x6 x7 x8 x9 (cc - 1)).toInt)) := by
        unfold GD
        rw [eq, ecc, icc, eo]
        rw [eq, eo] at g4
        refine ⟨fun z => ⟨fun j hj => z.2.2.2.2.2.2.1 j (by omega), fun y => ⟨by have := (z.2.2.2.2.2.2.2.2 y).1; omega, (z.2.2.2.2.2.2.2.2 y).2⟩⟩, fun z => ⟨g1, g2, g3, g5, by omega, by omega, fun k hk => z.1 k (by omega), g4, fun y => ⟨by have := (z.2 y).1; omega, (z.2 y).2⟩⟩⟩
      have hgp := x_gp_loop hT hn hq h11 hcc h13 h14 cc 0 gF (by omega) (by unfold gF; omega) (fun j hj => by omega)
      have hgp' : isB (fC2_hasGoodParameters_b23 σ gF (nI n) 0) ((∀ j, j < cc → vaI T (prm x6 x7 x8 x9 j).toInt) ∧ (q.testBit 3 = true → 0 < cc ∧ 64 ≤ (prm x6 x7 x8 x9 (cc - 1)).toInt)) := hgp
      rcases hgp' with ⟨p1, e2⟩ | ⟨p1, e2⟩
      · rw [e2, Option.bind_some, if_neg z10]
        have hW' : WD T (n + 1) (DE d n o nm q cc x4.toInt (fun k => (prm x6 x7 x8 x9 k).toInt)) := WD_ext hW ho hnm hq hcc g5 p1.1 p1.2
        have hM' : MX (sI (sI σ 2 8 0) 2 9 (nI (n + 1))) (n + 1) (DE d n o nm q cc x4.toInt (fun k => (prm x6 x7 x8 x9 k).toInt)) := by
          refine MX_ext (by omega) hW hM sI_on (fun c i h1 h2 h3 => ?_) (fun i hi => ?_) ?_ ?_ ?_ ?_ ?_ (fun k hk => ?_)
          · rw [sI_off (by omega), sI_off (by omega)]; exact hc c i h1 h2 (by omega)
          · rw [sI_off (by omega), sI_off (by omega)]; exact hp i hi
          · rw [sI_off (by omega), sI_off (by omega)]; exact h9
          · rw [sI_off (by omega), sI_off (by omega)]; exact h10
          · rw [sI_off (by omega), sI_off (by omega)]; exact h11
          · rw [sI_off (by omega), sI_off (by omega), h12]
          · rw [sI_off (by omega), sI_off (by omega)]; exact h13
          · rw [sI_off (by omega), sI_off (by omega), h14 k (by omega)]
        have htw := x_twice (σ := σ) (by omega) hW' hM' hT2 h29 (fun c h1 h2 => by rw [sI_off (by omega), sI_off (by omega)]) n 0 gF (by omega) (by unfold gF; omega) (fun j hj => by omega)
        have htw' : isB (fC2_isToldTwice σ (nI n)) (∃ m, m < n ∧ TW d n o nm cc (fun k => (prm x6 x7 x8 x9 k).toInt) m) := htw
        rcases htw' with ⟨⟨m, t1, t2⟩, e3⟩ | ⟨t1, e3⟩
        · rw [e3, Option.bind_some, if_neg z10]
          exact Or.inr ⟨fun z => z.2 m t1 t2, rfl⟩
        · rw [e3, Option.bind_some, if_pos rfl]
          unfold fC2_forgetFunctions
          rw [nmE, Option.bind_some, nmE]
          have e29 : (sI σ 2 8 0).1 2 9 = nI n := by rw [sI_ne (by decide)]; exact h29
          rw [e29, sc1, sI_on, predN (n + 1) (by omega), Nat.add_sub_cancel]
          exact Or.inl ⟨⟨hgd.mpr p1, fun m hm z => t1 ⟨m, hm, z⟩⟩, rfl⟩
      · rw [e2, Option.bind_some, if_pos rfl]
        exact Or.inr ⟨fun z => p1 (hgd.mp z.1), rfl⟩
    · rw [if_neg k1, Option.bind_some, if_pos rfl]
      rw [i32le, tI_4] at k1
      exact Or.inr ⟨fun z => by have := z.1.2.2.2.2.1; omega, rfl⟩
  · rw [e1, Option.bind_some, if_pos rfl]
    exact Or.inr ⟨fun z => g1 ⟨z.1.1, z.1.2.1, ⟨z.1.2.2.1, z.1.2.2.2.2.2.2.2.1⟩, z.1.2.2.2.1⟩, rfl⟩
theorem m_b70_0 {x1 x2 x3 x4 x5 x6 x7 x8 x9 x11 : Int32} {f : Nat} : fCM_member_b70 (f + 1) τ x1 x2 x3 x4 x5 x6 x7 x8 x9 0 x11 = some (-2, τ) := by
  rw [fCM_member_b70]
  unfold fCM_member_b113
  rw [if_pos rfl, if_pos rfl]
  by_cases h : (4 : Int32) ≤ x11
  · rw [if_pos h]
  · rw [if_neg h]
theorem m_b64 {x1 x2 x3 x4 x5 x6 x7 x8 x9 : Int32} : fCM_member_b64 τ x1 x2 x3 x4 x5 x6 x7 x8 x9 = some (-2, τ) := by
  unfold fCM_member_b64 fCM_member_b65 gF
  exact m_b70_0 (f := 3999)
theorem m_b70 (hT : TM τ T fc R) {x1 x2 x3 x4 x6 x7 x8 x9 : Int32} {cc : Nat} (hcc : cc ≤ 4) : ∀ (r k f : Nat), k + r = cc → r + 1 < f → ((∀ j, k ≤ j → j < cc → vaI T (prm x6 x7 x8 x9 j).toInt) → fCM_member_b70 f τ x1 x2 x3 x4 (nI cc) x6 x7 x8 x9 1 (nI k) = fCM_member_b113 τ x1 x2 x3 x4 (nI cc) x6 x7 x8 x9 1) ∧ (¬ (∀ j, k ≤ j → j < cc → vaI T (prm x6 x7 x8 x9 j).toInt) → fCM_member_b70 f τ x1 x2 x3 x4 (nI cc) x6 x7 x8 x9 1 (nI k) = some (-2, τ)) := by
  intro r
  induction r with
  | zero =>
    intro k f hk hf
    obtain ⟨f, rfl⟩ : ∃ z, f = z + 1 := ⟨f - 1, by omega⟩
    refine ⟨fun _ => ?_, fun h => absurd (fun j h1 h2 => by omega) h⟩
    rw [fCM_member_b70, if_neg z10, if_pos (show nI cc ≤ nI k by rw [leN (by omega) (by omega)]; omega)]
    by_cases h : (4 : Int32) ≤ nI k
    · rw [if_pos h]
    · rw [if_neg h]
  | succ r ih =>
    intro k f hk hf
    obtain ⟨f, rfl⟩ : ∃ z, f = z + 1 := ⟨f - 1, by omega⟩
    rw [fCM_member_b70, if_neg (by rw [i32le, tI_4, nIt (by omega)]; omega), if_neg z10, if_neg (by rw [leN (by omega) (by omega)]; omega), m_param τ x6 x7 x8 x9 (by omega), Option.bind_some, sc1]
    rcases m_isValue hT.1 hT.2.1 (prm x6 x7 x8 x9 k) with ⟨g, e1⟩ | ⟨g, e1⟩
    · rw [e1, Option.bind_some]
      have h := ih (k + 1) f (by omega) (by omega)
      refine ⟨fun q => h.1 (fun j h1 h2 => q j (by omega) h2), fun q => h.2 (fun z => q (fun j h1 h2 => ?_))⟩
      by_cases y : j = k
      · subst y; exact g
      · exact z j (by omega) h2
    · rw [e1, Option.bind_some]
      obtain ⟨f, rfl⟩ : ∃ z, f = z + 1 := ⟨f - 1, by omega⟩
      rw [m_b70_0]
      exact ⟨fun q => absurd (q k (Nat.le_refl k) (by omega)) g, fun _ => rfl⟩
theorem m_b166 {x1 x2 x4 x6 x7 x8 x9 : Int32} {q cc : Nat} (hq : q < 16) (hcc : cc ≤ 4) : ((q.testBit 3 = true → 0 < cc ∧ 64 ≤ (prm x6 x7 x8 x9 (cc - 1)).toInt) → fCM_member_b166 τ x1 x2 (nI q) x4 (nI cc) x6 x7 x8 x9 = fCM_member_b204 gF τ x1 x2 (nI q) x4 (nI cc) x6 x7 x8 x9 0) ∧ (¬ (q.testBit 3 = true → 0 < cc ∧ 64 ≤ (prm x6 x7 x8 x9 (cc - 1)).toInt) → fCM_member_b166 τ x1 x2 (nI q) x4 (nI cc) x6 x7 x8 x9 = some (-2, τ)) := by
  unfold fCM_member_b166 fCM_member_b201
  have h := mk8 q hq
  by_cases b : q.testBit 3 = true
  · rw [if_neg (fun z => h.mp z b)]
    by_cases h0 : cc = 0
    · rw [if_pos (by rw [h0]; rfl)]
      exact ⟨fun z => by have := (z b).1; omega, fun _ => rfl⟩
    · rw [if_neg (by rw [i32eq, tI_0, nIt (by omega)]; omega), predN cc (by omega), m_param τ x6 x7 x8 x9 (by omega), Option.bind_some]
      by_cases h6 : (64 : Int32) ≤ prm x6 x7 x8 x9 (cc - 1)
      · rw [if_pos h6]
        rw [i32le, tI_64] at h6
        exact ⟨fun _ => rfl, fun z => absurd (fun _ => ⟨by omega, h6⟩) z⟩
      · rw [if_neg h6]
        rw [i32le, tI_64] at h6
        exact ⟨fun z => absurd (z b).2 h6, fun _ => rfl⟩
  · rw [if_pos (h.mpr b)]
    exact ⟨fun _ => rfl, fun z => absurd (fun y => absurd y b) z⟩
theorem m_b113 (hT : TM τ T fc R) {x2 x4 x6 x7 x8 x9 : Int32} {o q cc : Nat} (ho : o < T) (hq : q < 16) (hcc : cc ≤ 4) : (((q.testBit 2 = true → ¬ q.testBit 0 = true ∧ ¬ (fc o ∧ q.testBit 1 = true)) ∧ (q.testBit 3 = true → 0 < cc ∧ 64 ≤ (prm x6 x7 x8 x9 (cc - 1)).toInt)) → fCM_member_b113 τ (nI (16 + o)) x2 (nI q) x4 (nI cc) x6 x7 x8 x9 1 = fCM_member_b204 gF τ (nI (16 + o)) x2 (nI q) x4 (nI cc) x6 x7 x8 x9 0) ∧ (¬ ((q.testBit 2 = true → ¬ q.testBit 0 = true ∧ ¬ (fc o ∧ q.testBit 1 = true)) ∧ (q.testBit 3 = true → 0 < cc ∧ 64 ≤ (prm x6 x7 x8 x9 (cc - 1)).toInt)) → fCM_member_b113 τ (nI (16 + o)) x2 (nI q) x4 (nI cc) x6 x7 x8 x9 1 = some (-2, τ)) := by
  have hT2 := hT.2.1
  unfold fCM_member_b113 fCM_member_b132
  rw [if_neg z10, if_pos rfl, if_neg z10]
  have h4 := mk4 q hq
  have h1 := mk1 q hq
  have h2 := mk2 q hq
  have h6 := m_b166 (τ := τ) (x1 := nI (16 + o)) (x2 := x2) (x4 := x4) (x6 := x6) (x7 := x7) (x8 := x8) (x9 := x9) (q := q) (cc := cc) hq hcc
  by_cases b2 : q.testBit 2 = true
  · rw [if_neg (fun z => h4.mp z b2)]
    by_cases b0 : q.testBit 0 = true
    · rw [if_neg (fun z => h1.mp z b0)]
      exact ⟨fun z => absurd b0 (z.1 b2).1, fun _ => rfl⟩
    · rw [if_pos (h1.mpr b0), sub16N, ifin (by omega) (by omega), clN (by omega)]
      rcases hT.2.2.1 o ho with ⟨f1, f2⟩ | ⟨f1, f2⟩
      · rw [if_neg (by rw [f2]; exact z10)]
        by_cases b1 : q.testBit 1 = true
        · rw [if_neg (fun z => h2.mp z b1)]
          exact ⟨fun z => absurd ⟨f1, b1⟩ (z.1 b2).2, fun _ => rfl⟩
        · rw [if_pos (h2.mpr b1)]
          exact ⟨fun z => h6.1 z.2, fun z => h6.2 (fun y => z ⟨fun _ => ⟨b0, fun w => b1 w.2⟩, y⟩)⟩
      · rw [if_pos f2]
        exact ⟨fun z => h6.1 z.2, fun z => h6.2 (fun y => z ⟨fun _ => ⟨b0, fun w => f1 w.1⟩, y⟩)⟩
  · rw [if_pos (h4.mpr b2)]
    exact ⟨fun z => h6.1 z.2, fun z => h6.2 (fun y => z ⟨fun w => absurd w b2, y⟩)⟩
theorem m_mem_head (hT : TM τ T fc R) (h6 : τ.1 0 6 = nI n) (hn : n ≤ 60) (x1 x2 x3 x4 x5 x6 x7 x8 x9 : Int32) : (GD T n fc x1.toInt x2.toInt x3.toInt x4.toInt x5.toInt (fun k => (prm x6 x7 x8 x9 k).toInt) ∧ fCM_member τ x1 x2 x3 x4 x5 x6 x7 x8 x9 = fCM_member_b204 gF τ x1 x2 x3 x4 x5 x6 x7 x8 x9 0) ∨ (¬ GD T n fc x1.toInt x2.toInt x3.toInt x4.toInt x5.toInt (fun k => (prm x6 x7 x8 x9 k).toInt) ∧ fCM_member τ x1 x2 x3 x4 x5 x6 x7 x8 x9 = some (-2, τ)) := by
  have hT2 := hT.2.1
  unfold fCM_member
  rw [m_b64]
  rcases m_isTold hT.1 hT2 x1 with ⟨g1, e1⟩ | ⟨g1, e1⟩
  · rw [e1, Option.bind_some, if_neg z10]
    rcases m_isName (σ := τ) x2 with ⟨g2, e2⟩ | ⟨g2, e2⟩
    · rw [e2, Option.bind_some, if_neg z10]
      by_cases k3 : x3 < 0
      · rw [if_pos k3]
        rw [i32lt, tI_0] at k3
        exact Or.inr ⟨fun z => by have := z.2.2.1; omega, rfl⟩
      rw [if_neg k3]
      by_cases k4 : (15 : Int32) < x3
      · rw [if_pos k4]
        rw [i32lt, tI_15] at k4
        exact Or.inr ⟨fun z => by have := z.2.2.1; omega, rfl⟩
      rw [if_neg k4]
      rw [i32lt, tI_0] at k3
      rw [i32lt, tI_15] at k4
      have b40 : (x4.toInt = -1 ∨ vaI T x4.toInt) → (GD T n fc x1.toInt x2.toInt x3.toInt x4.toInt x5.toInt (fun k => (prm x6 x7 x8 x9 k).toInt) ∧ fCM_member_b40 τ x1 x2 x3 x4 x5 x6 x7 x8 x9 = fCM_member_b204 gF τ x1 x2 x3 x4 x5 x6 x7 x8 x9 0) ∨ (¬ GD T n fc x1.toInt x2.toInt x3.toInt x4.toInt x5.toInt (fun k => (prm x6 x7 x8 x9 k).toInt) ∧ fCM_member_b40 τ x1 x2 x3 x4 x5 x6 x7 x8 x9 = some (-2, τ)) := by
        intro g5
        unfold fCM_member_b40
        rw [m_b64, h6]
        by_cases k5 : x5 < 0
        · rw [if_pos k5]
          rw [i32lt, tI_0] at k5
          exact Or.inr ⟨fun z => by have := z.2.2.2.2.1; omega, rfl⟩
        rw [if_neg k5]
        by_cases k6 : (4 : Int32) < x5
        · rw [if_pos k6]
          rw [i32lt, tI_4] at k6
          exact Or.inr ⟨fun z => by have := z.2.2.2.2.1; omega, rfl⟩
        rw [if_neg k6]
        rw [i32lt, tI_0] at k5
        rw [i32lt, tI_4] at k6
        by_cases k7 : n = 60
        · rw [if_pos (by rw [k7]; decide)]
          exact Or.inr ⟨fun z => by have := z.2.2.2.2.2.1; omega, rfl⟩
        rw [if_neg (by rw [i32le, tI_60, nIt (by omega)]; omega)]
        unfold fCM_member_b65
        obtain ⟨o, ho, rfl⟩ := to_ix g1
        have eo : ((nI (16 + o)).toInt - 16).toNat = o := by rw [nIt (by omega)]; omega
        obtain ⟨q, hq, rfl⟩ : ∃ q : Nat, q < 16 ∧ x3 = nI q := ⟨x3.toInt.toNat, by omega, by rw [i32eq, nIt (by omega)]; omega⟩
        have eq : (nI q).toInt.toNat = q := by rw [nIt (by omega)]; omega
        obtain ⟨cc, hcc, rfl⟩ : ∃ q : Nat, q ≤ 4 ∧ x5 = nI q := ⟨x5.toInt.toNat, by omega, by rw [i32eq, nIt (by omega)]; omega⟩
        have ecc : (nI cc).toInt.toNat = cc := by rw [nIt (by omega)]; omega
        have icc : (nI cc).toInt = cc := by rw [nIt (by omega)]
        have hb := m_b70 hT (x1 := nI (16 + o)) (x2 := x2) (x3 := nI q) (x4 := x4) (x6 := x6) (x7 := x7) (x8 := x8) (x9 := x9) hcc cc 0 gF (by omega) (by unfold gF; omega)
        have hb3 := m_b113 hT (x2 := x2) (x4 := x4) (x6 := x6) (x7 := x7) (x8 := x8) (x9 := x9) ho hq hcc
        unfold GD
        rw [eq, eo, ecc, icc]
        by_cases p1 : ∀ j, 0 ≤ j → j < cc → vaI T (prm x6 x7 x8 x9 j).toInt
        · have hb' : fCM_member_b70 gF τ (nI (16 + o)) x2 (nI q) x4 (nI cc) x6 x7 x8 x9 1 0 = fCM_member_b113 τ (nI (16 + o)) x2 (nI q) x4 (nI cc) x6 x7 x8 x9 1 := hb.1 p1
          rw [hb']
          by_cases p2 : (q.testBit 2 = true → ¬ q.testBit 0 = true ∧ ¬ (fc o ∧ q.testBit 1 = true)) ∧ (q.testBit 3 = true → 0 < cc ∧ 64 ≤ (prm x6 x7 x8 x9 (cc - 1)).toInt)
          · rw [hb3.1 p2]
            exact Or.inl ⟨⟨g1, g2, by omega, g5, by omega, by omega, fun k hk => p1 k (Nat.zero_le k) (by omega), p2.1, fun y => ⟨by have := (p2.2 y).1; omega, (p2.2 y).2⟩⟩, rfl⟩
          · rw [hb3.2 p2]
            exact Or.inr ⟨fun z => p2 ⟨z.2.2.2.2.2.2.2.1, fun y => ⟨by have := (z.2.2.2.2.2.2.2.2 y).1; omega, (z.2.2.2.2.2.2.2.2 y).2⟩⟩, rfl⟩
        · have hb' : fCM_member_b70 gF τ (nI (16 + o)) x2 (nI q) x4 (nI cc) x6 x7 x8 x9 1 0 = some (-2, τ) := hb.2 p1
          rw [hb']
          exact Or.inr ⟨fun z => p1 (fun j _ hj => z.2.2.2.2.2.2.1 j (by omega)), rfl⟩
      by_cases k5 : x4 = -1
      · rw [if_pos k5]
        exact b40 (Or.inl (by rw [k5]; exact tI_m1))
      · rw [if_neg k5]
        have k6 : ¬ x4.toInt = -1 := fun z => k5 (i32eq.mpr (by rw [z, tI_m1]))
        rcases m_isValue hT.1 hT2 x4 with ⟨g5, e5⟩ | ⟨g5, e5⟩
        · rw [e5, Option.bind_some, if_neg z10]
          exact b40 (Or.inr g5)
        · rw [e5, Option.bind_some, if_pos rfl]
          exact Or.inr ⟨fun z => z.2.2.2.1.elim k6 g5, rfl⟩
    · rw [e2, Option.bind_some, if_pos rfl]
      exact Or.inr ⟨fun z => g2 z.2.1, rfl⟩
  · rw [e1, Option.bind_some, if_pos rfl]
    exact Or.inr ⟨fun z => g1 z.1, rfl⟩
end MEMB
theorem rel_member : rl_member Rel := by
  intro σ τ x1 x2 x3 x4 x5 x6 x7 x8 x9 ⟨T, n, a, d, fc, R, e, p, c, g, ph, A, S, hB, hX, hM⟩
  obtain ⟨⟨hW, hMX, hTX, hAX, hWA⟩, ⟨hMM, hTM, hAM⟩, hs, hj, hF, hEM, hEX, hC⟩ := id hB
  have hn := hMX.2.1
  have hT2 := hTX.2.1
  obtain ⟨σ1, σ2, d1, d2, d3, d4, d5, d6, r9, r10, r11, r12, r13, r14⟩ := x_draft (x1 := x1) (x2 := x2) (x3 := x3) (x4 := x4) (x5 := x5) (x6 := x6) (x7 := x7) (x8 := x8) (x9 := x9) hMX.1 hn
  have q2 := d4 2 (by decide)
  have T2 : TX σ2 T fc R := TX_of (by rw [d4 1 (by decide)]) (d4 8 (by decide)) (by rw [d3]) hTX
  have A2 : AX σ2 a e := AX_of (by rw [d4 3 (by decide)]) (fun c g1 g2 => d4 c (by omega)) hAX
  have M2 : MX σ2 n d := by
    refine ⟨by rw [q2]; exact hMX.1, hn, fun m hm => ?_⟩
    have h4 := (hW m hm).2.2.2.1
    rw [d5 9 m (by omega) (by omega) (by omega), d5 10 m (by omega) (by omega) (by omega), d5 11 m (by omega) (by omega) (by omega), d5 12 m (by omega) (by omega) (by omega), d5 13 m (by omega) (by omega) (by omega)]
    obtain ⟨b1, b2, b3, b4, b5, b6⟩ := hMX.2.2 m hm
    exact ⟨b1, b2, b3, b4, b5, fun k hk => by rw [d6 _ (by omega)]; exact b6 k hk⟩
  have B2 : RB σ2 τ T n a d fc R e p c g := by
    refine ⟨⟨hW, M2, T2, A2, hWA⟩, ⟨hMM, hTM, hAM⟩, ?_, ?_, hF, hEM, EX_of (d4 7 (by decide)) hEX, hC⟩
    · unfold FS
      rw [q2, d4 15 (by decide)]; exact hs
    · rw [d4 15 (by decide), d4 7 (by decide)]; exact hj
  have X2 : LX σ2 ph A S := LX_of (d4 4 (by decide)) (d4 22 (by decide)) d3 hX
  have bad : ∃ (v : Int32) (σ' : xSt) (τ' : xSt), some ((-2 : Int32), σ2) = some (v, σ') ∧ some ((-2 : Int32), τ) = some (v, τ') ∧ Rel σ' τ' := ⟨-2, σ2, τ, rfl, rfl, T, n, a, d, fc, R, e, p, c, g, ph, A, S, B2, X2, hM⟩
  unfold fC0_member
  rw [d1, Option.bind_some, d2, Option.bind_some]
  rcases x_keep (x1 := x1) (x2 := x2) (x3 := x3) (x4 := x4) (x5 := x5) (x6 := x6) (x7 := x7) (x8 := x8) (x9 := x9) hn hW hMX T2 (by rw [q2]; exact hMX.1) d5 d6 r9 r10 r11 r12 r13 r14 with ⟨⟨k1, k2⟩, e1⟩ | ⟨k1, e1⟩
  · rcases m_mem_head hTM hMM.1 hn x1 x2 x3 x4 x5 x6 x7 x8 x9 with ⟨l1, e2⟩ | ⟨l1, e2⟩
    · obtain ⟨c1, c2, c3, c4, c5, c6, c7, c8, c9⟩ := k1
      obtain ⟨o, ho, rfl⟩ := to_ix c1
      have eo : ((nI (16 + o)).toInt - 16).toNat = o := by rw [nIt (by omega)]; omega
      obtain ⟨nm, hnm, rfl⟩ : ∃ q : Nat, q < 16 ∧ x2 = nI q := ⟨x2.toInt.toNat, by omega, by rw [i32eq, nIt (by omega)]; omega⟩
      obtain ⟨q, hq, rfl⟩ : ∃ q : Nat, q < 16 ∧ x3 = nI q := ⟨x3.toInt.toNat, by omega, by rw [i32eq, nIt (by omega)]; omega⟩
      obtain ⟨cc, hcc, rfl⟩ : ∃ q : Nat, q ≤ 4 ∧ x5 = nI q := ⟨x5.toInt.toNat, by omega, by rw [i32eq, nIt (by omega)]; omega⟩
      have enm : (nI nm).toInt.toNat = nm := by rw [nIt (by omega)]; omega
      have eq : (nI q).toInt.toNat = q := by rw [nIt (by omega)]; omega
      have ecc : (nI cc).toInt.toNat = cc := by rw [nIt (by omega)]; omega
      have icc : (nI cc).toInt = cc := by rw [nIt (by omega)]
      rw [eo, enm, ecc] at k2
      have ho' := m_mem_out (q := q) (x4 := x4) (x6 := x6) (x7 := x7) (x8 := x8) (x9 := x9) hMM hW hT2 c6 (o := o) (nm := nm) (cc := cc) (by omega) hnm hcc n 0 gF (by omega) (by unfold gF; omega) (fun j hj => by omega)
      rcases ho' with ⟨⟨m, m1, m2⟩, _⟩ | ⟨_, e3⟩
      · exact absurd m2 (k2 m m1)
      have e3' : fCM_member_b204 gF τ (nI (16 + o)) (nI nm) (nI q) x4 (nI cc) x6 x7 x8 x9 0 = _ := e3
      rw [e1, b2S, e2, e3']
      generalize ht1 : sI (sI (sI (sI (sI τ 6 n (nI (16 + o))) 7 n (nI nm)) 8 n (nI q)) 9 n x4) 10 n (nI cc) = τ1
      have u06 : τ1.1 0 6 = nI n := by rw [← ht1, sI_off (by decide), sI_off (by decide), sI_off (by decide), sI_off (by decide), sI_off (by decide)]; exact hMM.1
      obtain ⟨τ2, w1, w2, w3, w4, w5, w6, w7⟩ := m_write (x6 := x6) (x7 := x7) (x8 := x8) (x9 := x9) c6 hcc cc 0 gF τ1 (by omega) (by unfold gF; omega) u06 (fun j hj => by omega)
      have w1' : fCM_member_b379 gF τ1 (nI cc) x6 x7 x8 x9 0 = some (nI n, τ2) := w1
      rw [w1']
      have t1 : ∀ c, (c < 6 ∨ 10 < c) → τ1.1 c = τ.1 c := fun c hc => by rw [← ht1, sI_off (by omega), sI_off (by omega), sI_off (by omega), sI_off (by omega), sI_off (by omega)]
      have t2 : ∀ c, c ≠ 0 → c ≠ 11 → c ≠ 19 → (c < 6 ∨ 10 < c) → τ2.1 c = τ.1 c := fun c g1 g2 g3 g4 => by rw [w2 c g1 g2 g3, t1 c g4]
      have t3 : ∀ j, j ≠ 6 → τ2.1 0 j = τ.1 0 j := fun j hj => by rw [w3 j hj, t1 0 (by decide)]
      have M2' : MM τ2 (n + 1) (DE d n o nm q cc x4.toInt (fun k => (prm x6 x7 x8 x9 k).toInt)) := by
        refine MM_ext c6 hW hMM w4 (fun c i h1 h2 h3 => ?_) (fun i hi => ?_) ?_ ?_ ?_ ?_ ?_ (fun k hk => by rw [w6 k hk])
        · rw [w2 c (by omega) (by omega) (by omega), ← ht1, sI_ne (by omega), sI_ne (by omega), sI_ne (by omega), sI_ne (by omega), sI_ne (by omega)]
        · rw [w5 i hi, t1 11 (by decide)]
        · rw [w2 6 (by decide) (by decide) (by decide), ← ht1, sI_off (by decide), sI_off (by decide), sI_off (by decide), sI_off (by decide), sI_on]
        · rw [w2 7 (by decide) (by decide) (by decide), ← ht1, sI_off (by decide), sI_off (by decide), sI_off (by decide), sI_on]
        · rw [w2 8 (by decide) (by decide) (by decide), ← ht1, sI_off (by decide), sI_off (by decide), sI_on]
        · rw [w2 9 (by decide) (by decide) (by decide), ← ht1, sI_off (by decide), sI_on]
        · rw [w2 10 (by decide) (by decide) (by decide), ← ht1, sI_on]
      have hW' : WD T (n + 1) (DE d n o nm q cc x4.toInt (fun k => (prm x6 x7 x8 x9 k).toInt)) := by
        rw [eq, ecc] at c9
        exact WD_ext hW ho hnm hq hcc c4 (fun k hk => c7 k (by omega)) (fun y => ⟨by have := (c9 y).1; omega, (c9 y).2⟩)
      generalize hs3 : sI (sI σ2 2 8 0) 2 9 (nI (n + 1)) = σ3
      have v1 : ∀ c, c ≠ 2 → σ3.1 c = σ2.1 c := fun c hc => by rw [← hs3, sI_off hc, sI_off hc]
      have v2 : σ3.2 = σ.2 := by rw [← hs3]; exact d3
      have v8 : σ3.1 2 8 = 0 := by rw [← hs3, sI_ne (by decide), sI_on]
      have M3 : MX σ3 (n + 1) (DE d n o nm q cc x4.toInt (fun k => (prm x6 x7 x8 x9 k).toInt)) := by
        refine MX_ext c6 hW hMX (by rw [← hs3, sI_on]) (fun c i h1 h2 h3 => ?_) (fun i hi => ?_) ?_ ?_ ?_ ?_ ?_ (fun k hk => ?_)
        · rw [v1 c (by omega)]; exact d5 c i h1 h2 (by omega)
        · rw [v1 14 (by decide)]; exact d6 i hi
        · rw [v1 9 (by decide)]; exact r9
        · rw [v1 10 (by decide)]; exact r10
        · rw [v1 11 (by decide)]; exact r11
        · rw [v1 12 (by decide), r12]
        · rw [v1 13 (by decide)]; exact r13
        · rw [v1 14 (by decide), r14 k (by omega)]
      refine ⟨nI n, σ3, τ2, rfl, rfl, T, n + 1, a, DE d n o nm q cc x4.toInt (fun k => (prm x6 x7 x8 x9 k).toInt), fc, R, e, p, c, g, ph, A, S, ⟨⟨hW', M3, TX_of (by rw [v1 1 (by decide)]) (v1 8 (by decide)) (by rw [v2, d3]) T2, AX_of (by rw [v1 3 (by decide)]) (fun c g1 g2 => v1 c (by omega)) A2, hWA⟩, ⟨M2', TM_of (t3 0 (by decide)) (t2 1 (by decide) (by decide) (by decide) (by decide)) (t2 5 (by decide) (by decide) (by decide) (by decide)) hTM, AM_of (t3 13 (by decide)) (fun c g1 g2 => t2 c (by omega) (by omega) (by omega) (by omega)) hAM⟩, Or.inr v8, fun j g1 g2 => ?_, fun k hk => Or.inl (w7 k (by omega)), EM_of (t2 2 (by decide) (by decide) (by decide) (by decide)) (t2 3 (by decide) (by decide) (by decide) (by decide)) (t2 4 (by decide) (by decide) (by decide) (by decide)) hEM, EX_of (by rw [v1 7 (by decide), d4 7 (by decide)]) hEX, hC⟩, LX_of (v1 4 (by decide)) (v1 22 (by decide)) (by rw [v2, d3]) X2, LM_of (t3 19 (by decide)) (t2 17 (by decide) (by decide) (by decide) (by decide)) (t2 18 (by decide) (by decide) (by decide) (by decide)) hM⟩
      rw [v1 15 (by decide), v1 7 (by decide), d4 15 (by decide), d4 7 (by decide)]
      exact hj j g1 g2
    · exact absurd k1 l1
  · rw [e1, b2S]
    rcases m_mem_head hTM hMM.1 hn x1 x2 x3 x4 x5 x6 x7 x8 x9 with ⟨l1, e2⟩ | ⟨l1, e2⟩
    · obtain ⟨c1, c2, c3, c4, c5, c6, c7, c8, c9⟩ := id l1
      obtain ⟨o, ho, rfl⟩ := to_ix c1
      have eo : ((nI (16 + o)).toInt - 16).toNat = o := by rw [nIt (by omega)]; omega
      obtain ⟨nm, hnm, rfl⟩ : ∃ q : Nat, q < 16 ∧ x2 = nI q := ⟨x2.toInt.toNat, by omega, by rw [i32eq, nIt (by omega)]; omega⟩
      obtain ⟨q, hq, rfl⟩ : ∃ q : Nat, q < 16 ∧ x3 = nI q := ⟨x3.toInt.toNat, by omega, by rw [i32eq, nIt (by omega)]; omega⟩
      obtain ⟨cc, hcc, rfl⟩ : ∃ q : Nat, q ≤ 4 ∧ x5 = nI q := ⟨x5.toInt.toNat, by omega, by rw [i32eq, nIt (by omega)]; omega⟩
      have enm : (nI nm).toInt.toNat = nm := by rw [nIt (by omega)]; omega
      have ecc : (nI cc).toInt.toNat = cc := by rw [nIt (by omega)]; omega
      rw [eo, enm, ecc] at k1
      have ho' := m_mem_out (q := q) (x4 := x4) (x6 := x6) (x7 := x7) (x8 := x8) (x9 := x9) hMM hW hT2 c6 (o := o) (nm := nm) (cc := cc) (by omega) hnm hcc n 0 gF (by omega) (by unfold gF; omega) (fun j hj => by omega)
      rcases ho' with ⟨_, e3⟩ | ⟨m1, _⟩
      · have e3' : fCM_member_b204 gF τ (nI (16 + o)) (nI nm) (nI q) x4 (nI cc) x6 x7 x8 x9 0 = some (-2, τ) := e3
        rw [e2, e3']
        exact bad
      · exact absurd ⟨l1, m1⟩ k1
    · rw [e2]
      exact bad
