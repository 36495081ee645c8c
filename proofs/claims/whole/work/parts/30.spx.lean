section SPX
variable {σ : xSt} {T n a : Nat} {d : MD} {fc : Nat → Prop} {R : Nat → Nat → Prop} {e : AD}
/-- what is known of a member that applies, with the last array spread or not -/
def OKs (d : MD) (R : Nat → Nat → Prop) (T n a : Nat) (fc : Nat → Prop) (e : AD) (m : Nat) (sp : Prop) : Prop := m < n ∧ (sp → VA d m ∧ cn d m ≤ a + 1) ∧ (¬ sp → cn d m = a) ∧ ∀ i, i < a → la e i = 2 → SH d R T n fc e (FA d m i sp) i
theorem OKs_ix {m : Nat} {sp : Prop} (h : OKs d R T n a fc e m sp) {k : Nat} (hk : k < a) : ¬ (sp ∧ cn d m ≤ k + 1) → k < cn d m := by
  intro q
  by_cases g : sp
  · have h9 : ¬ cn d m ≤ k + 1 := fun z => q ⟨g, z⟩
    omega
  · have := h.2.2.1 g; omega
theorem AP_OKs {m ph : Nat} (hm : m < n) (hme : cn d m = a ∨ (VA d m ∧ cn d m ≤ a + 1)) (h : AP d R T n a fc e m ph) : OKs d R T n a fc e m (ph = 3) := by
  refine ⟨hm, fun q => ?_, fun q => ?_, fun i hi hl => ?_⟩
  · have h1 := h.1
    rw [if_pos q] at h1
    exact ⟨h1, by rcases hme with g | g; omega; exact g.2⟩
  · have h1 := h.1
    rw [if_neg q] at h1
    exact h1
  · rcases h.2 i hi with g | g
    · omega
    · exact g.2.1
theorem x_spreadType (hM : MX σ n d) (hW : WD T n d) {m : Nat} (hm : m < n) (hv : VA d m) : isV (fC2_spreadType σ (nI m)) (pa d m (cn d m - 1) - 64) := by
  have := hM.2.1
  obtain ⟨g1, g2⟩ := (hW m hm).2.2.2.2.2.2 hv
  have := (hW m hm).2.2.2.1
  unfold fC2_spreadType
  rw [ifin (by omega) (by omega), clN (by omega), (hM.2.2 m hm).2.2.2.2.1, predN _ g1]
  obtain ⟨w, hw, hw2⟩ := x_facing hM hW hm (i := cn d m - 1) (by omega) (sp := True) (s := 1) (Or.inl ⟨rfl, trivial⟩) (fun _ => hv) (fun q => by omega)
  rw [hw, Option.bind_some]
  refine ⟨w, rfl, ?_⟩
  rw [hw2]
  unfold FA
  rw [if_pos ⟨trivial, by omega⟩]
theorem el_ty (hT2 : T ≤ 24) (hW : WD T n d) {m : Nat} (hm : m < n) (hv : VA d m) : tyI T (pa d m (cn d m - 1) - 64) := by
  have h := FA_ty hT2 hW hm (i := cn d m - 1) (sp := True) (fun _ => hv) (fun q => absurd ⟨trivial, by omega⟩ q)
  unfold FA at h
  rw [if_pos ⟨trivial, by omega⟩] at h
  exact h
theorem x_sp_loop (C : CX σ T n a d fc R e) {m o : Nat} {sp : Prop} (hm : OKs d R T n a fc e m sp) (ho : OKs d R T n a fc e o sp) {s : Int32} (hs : s = 1 ∧ sp ∨ s = 0 ∧ ¬ sp) : ∀ (r k f : Nat), k + r = a → r < f → isB (fC4_isAsSpecialAs_b17 σ f (nI m) (nI o) s (nI k)) ((∀ i, k ≤ i → i < a → isI R T (FA d m i sp) (FA d o i sp) ∨ FR d R T n fc e (FA d m i sp) (FA d o i sp) i) ∧ (sp → isI R T (pa d m (cn d m - 1) - 64) (pa d o (cn d o - 1) - 64))) := by
  have C' := C
  obtain ⟨hW, hM, hT, hA, hWA, hF⟩ := C'
  have := hM.2.1
  have := hA.2.1
  have z1 : ¬ (1 : Int32) = 0 := by decide
  intro r
  induction r with
  | zero =>
    intro k f hk hf
    obtain ⟨f, rfl⟩ : ∃ z, f = z + 1 := ⟨f - 1, by omega⟩
    rw [fC4_isAsSpecialAs_b17]
    unfold fC3_size
    rw [hA.1, Option.bind_some, if_pos (by rw [leN (by omega) (by omega)]; omega)]
    rcases hs with ⟨rfl, hs⟩ | ⟨rfl, hs⟩
    · rw [if_neg z1]
      have v1 := (hm.2.1 hs).1
      have v2 := (ho.2.1 hs).1
      obtain ⟨u, hu, hu2⟩ := x_spreadType hM hW hm.1 v1
      obtain ⟨w, hw, hw2⟩ := x_spreadType hM hW ho.1 v2
      rw [hu, Option.bind_some, hw, Option.bind_some]
      have hI := x_isA hT.2.2.2 hT.2.1 u w (by rw [hu2]; exact el_ty hT.2.1 hW hm.1 v1) (by rw [hw2]; exact el_ty hT.2.1 hW ho.1 v2)
      rw [hu2, hw2] at hI
      refine isB_bind hI (fun h1 => ?_) (fun h1 => ?_)
      · rw [if_neg z1]; exact isB_1 ⟨fun i g1 g2 => by omega, fun _ => h1⟩
      · rw [if_pos rfl]; exact isB_0 (fun h => h1 (h.2 hs))
    · rw [if_pos rfl]
      exact isB_1 ⟨fun i g1 g2 => by omega, fun q => absurd q hs⟩
  | succ r ih =>
    intro k f hk hf
    obtain ⟨f, rfl⟩ : ∃ z, f = z + 1 := ⟨f - 1, by omega⟩
    rw [fC4_isAsSpecialAs_b17]
    unfold fC3_size fC4_isAsSpecialAs_b84
    rw [hA.1, Option.bind_some, if_neg (by rw [leN (by omega) (by omega)]; omega), sc1]
    have next := ih (k + 1) f (by omega) (by omega)
    have i1 := OKs_ix hm (k := k) (by omega)
    have i2 := OKs_ix ho (k := k) (by omega)
    obtain ⟨u, hu, hu2⟩ := x_facing hM hW hm.1 (i := k) (by omega) hs (fun q => (hm.2.1 q).1) i1
    obtain ⟨w, hw, hw2⟩ := x_facing hM hW ho.1 (i := k) (by omega) hs (fun q => (ho.2.1 q).1) i2
    rw [hu, Option.bind_some, hw, Option.bind_some]
    have t1 : tyI T u.toInt := by rw [hu2]; exact FA_ty hT.2.1 hW hm.1 (fun q => (hm.2.1 q).1) i1
    have t2 : tyI T w.toInt := by rw [hw2]; exact FA_ty hT.2.1 hW ho.1 (fun q => (ho.2.1 q).1) i2
    have hI := x_isA hT.2.2.2 hT.2.1 u w t1 t2
    have hFr := x_finer C t1 t2 (i := k) (by omega) (fun q => by rw [hu2]; exact hm.2.2.2 k (by omega) q)
    rw [hu2, hw2] at hI hFr
    have go : (isI R T (FA d m k sp) (FA d o k sp) ∨ FR d R T n fc e (FA d m k sp) (FA d o k sp) k) → isB (fC4_isAsSpecialAs_b17 σ f (nI m) (nI o) s (nI (k + 1))) ((∀ i, k ≤ i → i < a → isI R T (FA d m i sp) (FA d o i sp) ∨ FR d R T n fc e (FA d m i sp) (FA d o i sp) i) ∧ (sp → isI R T (pa d m (cn d m - 1) - 64) (pa d o (cn d o - 1) - 64))) := by
      intro g
      refine isB_iff next ⟨fun h => ⟨fun i g2 g3 => ?_, h.2⟩, fun h => ⟨fun i g2 g3 => h.1 i (by omega) g3, h.2⟩⟩
      rcases Nat.lt_or_ge k i with q | q
      · exact h.1 i q g3
      · have : i = k := by omega
        subst this; exact g
    refine isB_bind hI (fun h1 => ?_) (fun h1 => ?_)
    · rw [if_neg z1]; exact go (Or.inl h1)
    · rw [if_pos rfl]
      refine isB_bind hFr (fun h2 => ?_) (fun h2 => ?_)
      · rw [if_neg z1]; exact go (Or.inr h2)
      · rw [if_pos rfl]
        exact isB_0 (fun h => by rcases h.1 k (Nat.le_refl k) (by omega) with q | q; exact h1 q; exact h2 q)
theorem x_special (C : CX σ T n a d fc R e) {m o ph : Nat} (hph : σ.1 4 9 = nI ph) (hp : ph ≤ 3) (hm : OKs d R T n a fc e m (ph = 3)) (ho : OKs d R T n a fc e o (ph = 3)) : isB (fC4_isAsSpecialAs σ (nI m) (nI o)) (SP d R T n a fc e m o (ph = 3)) := by
  have ha := C.2.2.2.1.2.1
  unfold fC4_isAsSpecialAs fC4_isAsSpecialAs_b13 SP
  rw [hph]
  refine isB_ite (fun c => ?_) (fun c => ?_)
  · have c : ph = 3 := by rw [i32eq, nIt (by omega), tI_3] at c; omega
    exact isB_iff (x_sp_loop C hm ho (Or.inl ⟨rfl, c⟩) a 0 gF (by omega) (by unfold gF; omega)) ⟨fun h => ⟨fun i hi => h.1 i (Nat.zero_le i) hi, h.2⟩, fun h => ⟨fun i _ hi => h.1 i hi, h.2⟩⟩
  · have c : ¬ ph = 3 := by rw [i32eq, nIt (by omega), tI_3] at c; omega
    exact isB_iff (x_sp_loop C hm ho (Or.inr ⟨rfl, c⟩) a 0 gF (by omega) (by unfold gF; omega)) ⟨fun h => ⟨fun i hi => h.1 i (Nat.zero_le i) hi, h.2⟩, fun h => ⟨fun i _ hi => h.1 i hi, h.2⟩⟩
end SPX
