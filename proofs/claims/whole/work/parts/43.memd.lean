def prm (x6 x7 x8 x9 : Int32) (k : Nat) : Int32 := if k = 0 then x6 else if k = 1 then x7 else if k = 2 then x8 else x9
theorem m_param (σ : xSt) (x6 x7 x8 x9 : Int32) {k : Nat} (hk : k < 1000) : fCM_parameter σ (nI k) x6 x7 x8 x9 = some (prm x6 x7 x8 x9 k) := by
  unfold fCM_parameter prm
  by_cases h0 : k = 0
  · rw [if_pos h0, if_pos (by rw [h0]; rfl)]
  · rw [if_neg h0, if_neg (by rw [i32eq, tI_0, nIt (by omega)]; omega)]
    by_cases h1 : k = 1
    · rw [if_pos h1, if_pos (by rw [h1]; rfl)]
    · rw [if_neg h1, if_neg (by rw [i32eq, tI_1, nIt (by omega)]; omega)]
      by_cases h2 : k = 2
      · rw [if_pos h2, if_pos (by rw [h2]; rfl)]
      · rw [if_neg h2, if_neg (by rw [i32eq, tI_2, nIt (by omega)]; omega)]
/-- one more member -/
def DE (d : MD) (n o nm q cc : Nat) (r : Int) (pr : Nat → Int) : MD := (fun m => if m = n then o else ow d m, fun m => if m = n then nm else na d m, fun m => if m = n then q else mk d m, fun m => if m = n then cc else cn d m, fun m => if m = n then r else rs d m, fun m k => if m = n then pr k else pa d m k)
section MEMD
variable {T n : Nat} {d : MD} {fc : Nat → Prop} {R : Nat → Nat → Prop} {o nm q cc : Nat} {r : Int} {pr : Nat → Int}
theorem DE_on : ow (DE d n o nm q cc r pr) n = o ∧ na (DE d n o nm q cc r pr) n = nm ∧ mk (DE d n o nm q cc r pr) n = q ∧ cn (DE d n o nm q cc r pr) n = cc ∧ rs (DE d n o nm q cc r pr) n = r ∧ ∀ k, pa (DE d n o nm q cc r pr) n k = pr k := ⟨if_pos rfl, if_pos rfl, if_pos rfl, if_pos rfl, if_pos rfl, fun _ => if_pos rfl⟩
theorem DE_off {m : Nat} (h : m ≠ n) : ow (DE d n o nm q cc r pr) m = ow d m ∧ na (DE d n o nm q cc r pr) m = na d m ∧ mk (DE d n o nm q cc r pr) m = mk d m ∧ cn (DE d n o nm q cc r pr) m = cn d m ∧ rs (DE d n o nm q cc r pr) m = rs d m ∧ ∀ k, pa (DE d n o nm q cc r pr) m k = pa d m k := ⟨if_neg h, if_neg h, if_neg h, if_neg h, if_neg h, fun _ => if_neg h⟩
theorem WD_ext (hW : WD T n d) (h1 : o < T) (h2 : nm < 16) (h3 : q < 16) (h4 : cc ≤ 4) (h5 : r = -1 ∨ vaI T r) (h6 : ∀ k, k < cc → vaI T (pr k)) (h7 : q.testBit 3 = true → 0 < cc ∧ 64 ≤ pr (cc - 1)) : WD T (n + 1) (DE d n o nm q cc r pr) := by
  intro m hm
  by_cases hmn : m = n
  · subst hmn
    obtain ⟨e1, e2, e3, e4, e5, e6⟩ := DE_on (d := d) (n := m) (o := o) (nm := nm) (q := q) (cc := cc) (r := r) (pr := pr)
    unfold VA
    rw [e1, e2, e3, e4, e5, e6]
    exact ⟨h1, h2, h3, h4, h5, fun k hk => by rw [e6]; exact h6 k hk, h7⟩
  · obtain ⟨e1, e2, e3, e4, e5, e6⟩ := DE_off (d := d) (n := n) (o := o) (nm := nm) (q := q) (cc := cc) (r := r) (pr := pr) hmn
    have h := hW m (by omega)
    unfold VA at h ⊢
    rw [e1, e2, e3, e4, e5, e6]
    exact ⟨h.1, h.2.1, h.2.2.1, h.2.2.2.1, h.2.2.2.2.1, fun k hk => by rw [e6]; exact h.2.2.2.2.2.1 k hk, h.2.2.2.2.2.2⟩
theorem MX_ext {σ σ' : xSt} (hn : n < 60) (hW : WD T n d) (hM : MX σ n d) (h9 : σ'.1 2 9 = nI (n + 1)) (hc : ∀ c i, 9 ≤ c → c ≤ 13 → i < n → σ'.1 c i = σ.1 c i) (hp : ∀ i, i < 4 * n → σ'.1 14 i = σ.1 14 i) (k1 : σ'.1 9 n = nI (16 + o)) (k2 : σ'.1 10 n = nI nm) (k3 : σ'.1 11 n = nI q) (k4 : (σ'.1 12 n).toInt = r) (k5 : σ'.1 13 n = nI cc) (k6 : ∀ k, k < cc → (σ'.1 14 (4 * n + k)).toInt = pr k) : MX σ' (n + 1) (DE d n o nm q cc r pr) := by
  refine ⟨h9, by omega, fun m hm => ?_⟩
  by_cases hmn : m = n
  · subst hmn
    obtain ⟨e1, e2, e3, e4, e5, e6⟩ := DE_on (d := d) (n := m) (o := o) (nm := nm) (q := q) (cc := cc) (r := r) (pr := pr)
    rw [e1, e2, e3, e4, e5]
    exact ⟨k1, k2, k3, k4, k5, fun k hk => by rw [e6]; exact k6 k hk⟩
  · obtain ⟨e1, e2, e3, e4, e5, e6⟩ := DE_off (d := d) (n := n) (o := o) (nm := nm) (q := q) (cc := cc) (r := r) (pr := pr) hmn
    have h := hM.2.2 m (by omega)
    have hc4 := (hW m (by omega)).2.2.2.1
    rw [e1, e2, e3, e4, e5, hc 9 m (by omega) (by omega) (by omega), hc 10 m (by omega) (by omega) (by omega), hc 11 m (by omega) (by omega) (by omega), hc 12 m (by omega) (by omega) (by omega), hc 13 m (by omega) (by omega) (by omega)]
    exact ⟨h.1, h.2.1, h.2.2.1, h.2.2.2.1, h.2.2.2.2.1, fun k hk => by rw [e6, hp _ (by omega)]; exact h.2.2.2.2.2 k hk⟩
theorem MM_ext {τ τ' : xSt} (hn : n < 60) (hW : WD T n d) (hM : MM τ n d) (h9 : τ'.1 0 6 = nI (n + 1)) (hc : ∀ c i, 6 ≤ c → c ≤ 10 → i < n → τ'.1 c i = τ.1 c i) (hp : ∀ i, i < 4 * n → τ'.1 11 i = τ.1 11 i) (k1 : τ'.1 6 n = nI (16 + o)) (k2 : τ'.1 7 n = nI nm) (k3 : τ'.1 8 n = nI q) (k4 : (τ'.1 9 n).toInt = r) (k5 : τ'.1 10 n = nI cc) (k6 : ∀ k, k < cc → (τ'.1 11 (4 * n + k)).toInt = pr k) : MM τ' (n + 1) (DE d n o nm q cc r pr) := by
  refine ⟨h9, by omega, fun m hm => ?_⟩
  by_cases hmn : m = n
  · subst hmn
    obtain ⟨e1, e2, e3, e4, e5, e6⟩ := DE_on (d := d) (n := m) (o := o) (nm := nm) (q := q) (cc := cc) (r := r) (pr := pr)
    rw [e1, e2, e3, e4, e5]
    exact ⟨k1, k2, k3, k4, k5, fun k hk => by rw [e6]; exact k6 k hk⟩
  · obtain ⟨e1, e2, e3, e4, e5, e6⟩ := DE_off (d := d) (n := n) (o := o) (nm := nm) (q := q) (cc := cc) (r := r) (pr := pr) hmn
    have h := hM.2.2 m (by omega)
    have hc4 := (hW m (by omega)).2.2.2.1
    rw [e1, e2, e3, e4, e5, hc 6 m (by omega) (by omega) (by omega), hc 7 m (by omega) (by omega) (by omega), hc 8 m (by omega) (by omega) (by omega), hc 9 m (by omega) (by omega) (by omega), hc 10 m (by omega) (by omega) (by omega)]
    exact ⟨h.1, h.2.1, h.2.2.1, h.2.2.2.1, h.2.2.2.2.1, fun k hk => by rw [e6, hp _ (by omega)]; exact h.2.2.2.2.2 k hk⟩
/-- a member like it is told already -/
def TW (d : MD) (n o nm cc : Nat) (pr : Nat → Int) (m : Nat) : Prop := ow d m = o ∧ na d m = nm ∧ cn d m = cc ∧ ∀ k, k < cc → pa d m k = pr k
theorem m_forget_loop : ∀ (r k f : Nat) (τ : xSt), k + r = 24 → r < f → (∀ j, j < k → τ.1 19 j = -2) → ∃ τ', fCM_forgetFunctions_b2 f τ (nI k) = some τ' ∧ (∀ j, j < 24 → τ'.1 19 j = -2) ∧ (∀ c, c ≠ 19 → τ'.1 c = τ.1 c) ∧ τ'.2 = τ.2 := by
  intro r
  induction r with
  | zero =>
    intro k f τ hk hf h
    obtain ⟨f, rfl⟩ : ∃ z, f = z + 1 := ⟨f - 1, by omega⟩
    have e : k = 24 := by omega
    subst e
    rw [fCM_forgetFunctions_b2, if_pos (by decide)]
    exact ⟨τ, rfl, h, fun _ _ => rfl, rfl⟩
  | succ r ih =>
    intro k f τ hk hf h
    obtain ⟨f, rfl⟩ : ∃ z, f = z + 1 := ⟨f - 1, by omega⟩
    rw [fCM_forgetFunctions_b2, if_neg (by rw [i32le, tI_24, nIt (by omega)]; omega), ifin (by omega) (by omega), nmE, clN (by omega), sc1]
    obtain ⟨τ', g1, g2, g3, g4⟩ := ih (k + 1) f (sI τ 19 k (-2)) (by omega) (by omega) (fun j hj => by
      by_cases q : j = k
      · subst q; exact sI_on
      · rw [sI_ne (fun z => q z.2)]; exact h j (by omega))
    exact ⟨τ', g1, g2, fun c hc => by rw [g3 c hc, sI_off hc], by rw [g4]; rfl⟩
theorem m_forget (τ : xSt) : ∃ τ', fCM_forgetFunctions τ = some τ' ∧ (∀ j, j < 24 → τ'.1 19 j = -2) ∧ (∀ c, c ≠ 19 → τ'.1 c = τ.1 c) ∧ τ'.2 = τ.2 := m_forget_loop 24 0 gF τ rfl (by unfold gF; omega) (fun j hj => by omega)
theorem m_write {x6 x7 x8 x9 : Int32} (hn : n < 60) (hcc : cc ≤ 4) : ∀ (r k f : Nat) (τ : xSt), k + r = cc → r < f → τ.1 0 6 = nI n → (∀ j, j < k → τ.1 11 (4 * n + j) = prm x6 x7 x8 x9 j) → ∃ τ', fCM_member_b379 f τ (nI cc) x6 x7 x8 x9 (nI k) = some (nI n, τ') ∧ (∀ c, c ≠ 0 → c ≠ 11 → c ≠ 19 → τ'.1 c = τ.1 c) ∧ (∀ j, j ≠ 6 → τ'.1 0 j = τ.1 0 j) ∧ τ'.1 0 6 = nI (n + 1) ∧ (∀ i, i < 4 * n → τ'.1 11 i = τ.1 11 i) ∧ (∀ j, j < cc → τ'.1 11 (4 * n + j) = prm x6 x7 x8 x9 j) ∧ (∀ j, j < 24 → τ'.1 19 j = -2) := by
  intro r
  induction r with
  | zero =>
    intro k f τ hk hf h6 h11
    obtain ⟨f, rfl⟩ : ∃ z, f = z + 1 := ⟨f - 1, by omega⟩
    have e : k = cc := by omega
    subst e
    rw [fCM_member_b379, if_pos (by rw [leN (by omega) (by omega)]; omega), nmE, h6, sc1]
    obtain ⟨τ', g1, g2, g3, g4⟩ := m_forget (sI τ 0 6 (nI (n + 1)))
    have e6 : τ'.1 0 6 = nI (n + 1) := by rw [g3 0 (by decide), sI_on]
    rw [g1, Option.bind_some, e6, predN (n + 1) (by omega), Nat.add_sub_cancel]
    exact ⟨τ', rfl, fun c h1 h2 h3 => by rw [g3 c h3, sI_off h1], fun j hj => by rw [g3 0 (by decide), sI_ne (fun z => hj z.2)], e6, fun i hi => by rw [g3 11 (by decide), sI_off (by decide)], fun j hj => by rw [g3 11 (by decide), sI_off (by decide)]; exact h11 j hj, g2⟩
  | succ r ih =>
    intro k f τ hk hf h6 h11
    obtain ⟨f, rfl⟩ : ∃ z, f = z + 1 := ⟨f - 1, by omega⟩
    rw [fCM_member_b379, if_neg (by rw [leN (by omega) (by omega)]; omega), m_param τ x6 x7 x8 x9 (by omega), Option.bind_some, h6, ix4', ifin (by omega) (by omega), nmE, clN (by omega), sc1]
    obtain ⟨τ', g1, g2, g3, g4, g5, g6, g7⟩ := ih (k + 1) f (sI τ 11 (4 * n + k) (prm x6 x7 x8 x9 k)) (by omega) (by omega) (by rw [sI_off (by decide)]; exact h6) (fun j hj => by
      by_cases z : j = k
      · subst z; exact sI_on
      · rw [sI_ne (by omega)]; exact h11 j (by omega))
    exact ⟨τ', g1, fun c h1 h2 h3 => by rw [g2 c h1 h2 h3, sI_off h2], fun j hj => by rw [g3 j hj, sI_off (by decide)], g4, fun i hi => by rw [g5 i hi, sI_ne (by omega)], g6, g7⟩
theorem m_mem_0 (k204 : xSt → Int32 → Int32 → Int32 → Int32 → Int32 → Int32 → Int32 → Int32 → Int32 → Int32 → Option (Int32 × xSt)) {x1 x2 x3 x4 x5 x6 x7 x8 x9 x14 : Int32} {m f : Nat} {τ : xSt} : fCM_member_b257 k204 (f + 1) τ x1 x2 x3 x4 x5 x6 x7 x8 x9 (nI m) 0 x14 = k204 τ x1 x2 x3 x4 x5 x6 x7 x8 x9 (nI (m + 1)) := by
  rw [fCM_member_b257]
  unfold fCM_member_b310
  rw [if_pos rfl, if_pos rfl, sc1]
  by_cases h : x5 ≤ x14
  · rw [if_pos h]
  · rw [if_neg h]
theorem m_mem_in (k204 : xSt → Int32 → Int32 → Int32 → Int32 → Int32 → Int32 → Int32 → Int32 → Int32 → Int32 → Option (Int32 × xSt)) {x1 x2 x3 x4 x6 x7 x8 x9 : Int32} {τ : xSt} (hM : MM τ n d) {m : Nat} (hm : m < n) (hcc : cc ≤ 4) (hc : cn d m = cc) : ∀ (r k f : Nat), k + r = cc → r + 1 < f → ((∀ j, k ≤ j → j < cc → pa d m j = (prm x6 x7 x8 x9 j).toInt) → fCM_member_b257 k204 f τ x1 x2 x3 x4 (nI cc) x6 x7 x8 x9 (nI m) 1 (nI k) = some (-2, τ)) ∧ (¬ (∀ j, k ≤ j → j < cc → pa d m j = (prm x6 x7 x8 x9 j).toInt) → fCM_member_b257 k204 f τ x1 x2 x3 x4 (nI cc) x6 x7 x8 x9 (nI m) 1 (nI k) = k204 τ x1 x2 x3 x4 (nI cc) x6 x7 x8 x9 (nI (m + 1))) := by
  have hn := hM.2.1
  intro r
  induction r with
  | zero =>
    intro k f hk hf
    obtain ⟨f, rfl⟩ : ∃ z, f = z + 1 := ⟨f - 1, by omega⟩
    rw [fCM_member_b257, if_pos (by rw [leN (by omega) (by omega)]; omega)]
    unfold fCM_member_b310
    rw [if_neg z10]
    exact ⟨fun _ => rfl, fun h => absurd (fun j h1 h2 => by omega) h⟩
  | succ r ih =>
    intro k f hk hf
    obtain ⟨f, rfl⟩ : ∃ z, f = z + 1 := ⟨f - 1, by omega⟩
    rw [fCM_member_b257, if_neg (by rw [leN (by omega) (by omega)]; omega), if_neg z10, ix4', ifin (by omega) (by omega), clN (by omega), m_param τ x6 x7 x8 x9 (by omega), Option.bind_some]
    unfold fCM_member_b302
    rw [sc1]
    have e1 := (hM.2.2 m hm).2.2.2.2.2 k (by omega)
    by_cases g : τ.1 11 (4 * m + k) = prm x6 x7 x8 x9 k
    · rw [if_pos g]
      have h := ih (k + 1) f (by omega) (by omega)
      have ek : pa d m k = (prm x6 x7 x8 x9 k).toInt := by rw [← e1, g]
      refine ⟨fun q => h.1 (fun j h1 h2 => q j (by omega) h2), fun q => h.2 (fun z => q (fun j h1 h2 => ?_))⟩
      by_cases y : j = k
      · subst y; exact ek
      · exact z j (by omega) h2
    · rw [if_neg g]
      obtain ⟨f, rfl⟩ : ∃ z, f = z + 1 := ⟨f - 1, by omega⟩
      rw [m_mem_0]
      refine ⟨fun q => absurd (q k (Nat.le_refl k) (by omega)) (fun z => g ?_), fun _ => rfl⟩
      rw [i32eq, e1, z]
/-- the reference's loop over the told ones, and what it writes -/
theorem m_mem_out {x4 x6 x7 x8 x9 : Int32} {τ : xSt} (hM : MM τ n d) (hW : WD T n d) (hT2 : T ≤ 24) (hn : n < 60) (ho : o < 24) (hnm : nm < 16) (hcc : cc ≤ 4) : ∀ (r m f : Nat), m + r = n → r < f → (∀ j, j < m → ¬ TW d n o nm cc (fun k => (prm x6 x7 x8 x9 k).toInt) j) → ((∃ j, j < n ∧ TW d n o nm cc (fun k => (prm x6 x7 x8 x9 k).toInt) j) ∧ fCM_member_b204 f τ (nI (16 + o)) (nI nm) (nI q) x4 (nI cc) x6 x7 x8 x9 (nI m) = some (-2, τ)) ∨ ((∀ j, j < n → ¬ TW d n o nm cc (fun k => (prm x6 x7 x8 x9 k).toInt) j) ∧ fCM_member_b204 f τ (nI (16 + o)) (nI nm) (nI q) x4 (nI cc) x6 x7 x8 x9 (nI m) = fCM_member_b379 gF (sI (sI (sI (sI (sI τ 6 n (nI (16 + o))) 7 n (nI nm)) 8 n (nI q)) 9 n x4) 10 n (nI cc)) (nI cc) x6 x7 x8 x9 0) := by
  intro r
  induction r with
  | zero =>
    intro m f hm hf hno
    obtain ⟨f, rfl⟩ : ∃ z, f = z + 1 := ⟨f - 1, by omega⟩
    have e : m = n := by omega
    subst e
    have h6 := hM.1
    refine Or.inr ⟨hno, ?_⟩
    rw [fCM_member_b204, h6, if_pos (by rw [leN (by omega) (by omega)]; omega), ifin (by omega) (by omega), nmE, clN (by omega)]
    rw [sI_off (show (0 : Nat) ≠ 6 by decide), h6, ifin (by omega) (by omega), nmE, clN (by omega)]
    rw [sI_off (show (0 : Nat) ≠ 7 by decide), sI_off (show (0 : Nat) ≠ 6 by decide), h6, ifin (by omega) (by omega), nmE, clN (by omega)]
    rw [sI_off (show (0 : Nat) ≠ 8 by decide), sI_off (show (0 : Nat) ≠ 7 by decide), sI_off (show (0 : Nat) ≠ 6 by decide), h6, ifin (by omega) (by omega), nmE, clN (by omega)]
    rw [sI_off (show (0 : Nat) ≠ 9 by decide), sI_off (show (0 : Nat) ≠ 8 by decide), sI_off (show (0 : Nat) ≠ 7 by decide), sI_off (show (0 : Nat) ≠ 6 by decide), h6, ifin (by omega) (by omega), nmE, clN (by omega)]
  | succ r ih =>
    intro m f hm hf hno
    obtain ⟨f, rfl⟩ : ∃ z, f = z + 1 := ⟨f - 1, by omega⟩
    obtain ⟨a1, a2, a3, a4, a5, a6⟩ := hM.2.2 m (by omega)
    obtain ⟨w1, w2, w3, w4, _⟩ := hW m (by omega)
    rw [fCM_member_b204, hM.1, if_neg (by rw [leN (by omega) (by omega)]; omega), ifin (by omega) (by omega), ifin (by omega) (by omega), ifin (by omega) (by omega), clN (by omega), a1, a2, a5]
    unfold fCM_member_b251 fCM_member_b252
    have go : ¬ TW d n o nm cc (fun k => (prm x6 x7 x8 x9 k).toInt) m → ((∃ j, j < n ∧ TW d n o nm cc (fun k => (prm x6 x7 x8 x9 k).toInt) j) ∧ fCM_member_b204 f τ (nI (16 + o)) (nI nm) (nI q) x4 (nI cc) x6 x7 x8 x9 (nI (m + 1)) = some (-2, τ)) ∨ ((∀ j, j < n → ¬ TW d n o nm cc (fun k => (prm x6 x7 x8 x9 k).toInt) j) ∧ fCM_member_b204 f τ (nI (16 + o)) (nI nm) (nI q) x4 (nI cc) x6 x7 x8 x9 (nI (m + 1)) = fCM_member_b379 gF (sI (sI (sI (sI (sI τ 6 n (nI (16 + o))) 7 n (nI nm)) 8 n (nI q)) 9 n x4) 10 n (nI cc)) (nI cc) x6 x7 x8 x9 0) := by
      intro hno2
      refine ih (m + 1) f (by omega) (by omega) (fun j hj => ?_)
      by_cases y : j = m
      · subst y; exact hno2
      · exact hno j (by omega)
    have zero : fCM_member_b257 (fCM_member_b204 f) gF τ (nI (16 + o)) (nI nm) (nI q) x4 (nI cc) x6 x7 x8 x9 (nI m) 0 0 = fCM_member_b204 f τ (nI (16 + o)) (nI nm) (nI q) x4 (nI cc) x6 x7 x8 x9 (nI (m + 1)) := m_mem_0 (fCM_member_b204 f) (f := 3999)
    rw [zero]
    by_cases c1 : ow d m = o
    · rw [if_pos (by rw [c1])]
      by_cases c2 : na d m = nm
      · rw [if_pos (by rw [c2])]
        by_cases c3 : cn d m = cc
        · rw [if_pos (by rw [c3])]
          have h := m_mem_in (fCM_member_b204 f) (x1 := nI (16 + o)) (x2 := nI nm) (x3 := nI q) (x4 := x4) (x6 := x6) (x7 := x7) (x8 := x8) (x9 := x9) hM (m := m) (by omega) hcc c3 cc 0 gF (by omega) (by unfold gF; omega)
          by_cases c4 : ∀ j, 0 ≤ j → j < cc → pa d m j = (prm x6 x7 x8 x9 j).toInt
          · have h2 : fCM_member_b257 (fCM_member_b204 f) gF τ (nI (16 + o)) (nI nm) (nI q) x4 (nI cc) x6 x7 x8 x9 (nI m) 1 0 = some (-2, τ) := h.1 c4
            rw [h2]
            exact Or.inl ⟨⟨m, by omega, c1, c2, c3, fun k hk => c4 k (Nat.zero_le k) hk⟩, rfl⟩
          · have h2 : fCM_member_b257 (fCM_member_b204 f) gF τ (nI (16 + o)) (nI nm) (nI q) x4 (nI cc) x6 x7 x8 x9 (nI m) 1 0 = fCM_member_b204 f τ (nI (16 + o)) (nI nm) (nI q) x4 (nI cc) x6 x7 x8 x9 (nI (m + 1)) := h.2 c4
            rw [h2]
            exact go (fun z => c4 (fun j _ hj => z.2.2.2 j hj))
        · rw [if_neg (by rw [eqN (by omega) (by omega)]; exact c3)]
          exact go (fun z => c3 z.2.2.1)
      · rw [if_neg (by rw [eqN (by omega) (by omega)]; exact c2)]
        exact go (fun z => c2 z.2.1)
    · rw [if_neg (by rw [eqN (by omega) (by omega)]; omega)]
      exact go (fun z => c1 z.1)
end MEMD
