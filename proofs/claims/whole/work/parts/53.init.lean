def tabP (s t : Nat) : Prop := s = t ∨ (s < 4 ∧ ((s = 1 ∧ (t = 2 ∨ t = 3)) ∨ (s = 2 ∧ t = 3))) ∨ (4 ≤ s ∧ 4 ≤ t ∧ (t = 8 ∨ s = 10 ∨ (t = 9 ∧ (s = 5 ∨ s = 6 ∨ s = 7))))
def tabB (s t : Nat) : Bool := Nat.beq s t || ((Nat.beq s 1 && (Nat.beq t 2 || Nat.beq t 3)) || (Nat.beq s 2 && Nat.beq t 3)) || (Nat.ble 4 s && Nat.ble 4 t && (Nat.beq t 8 || Nat.beq s 10 || (Nat.beq t 9 && (Nat.beq s 5 || Nat.beq s 6 || Nat.beq s 7))))
theorem tab_ok1 : ∀ s, s < 11 → ∀ t, t < 40 → ((10 < t ∧ t < 16) ∨ b64 (tabF s) t = tabB s t) := by decide +kernel
theorem tab_ok2 (s t : Nat) : tabB s t = true ↔ tabP s t := by
  unfold tabB tabP
  simp only [Bool.or_eq_true, Bool.and_eq_true, Nat.beq_eq, Nat.ble_eq]
  omega
theorem fill_m1 : ∀ j, j < 24 → fill1.1 0 j = -1 := by decide +kernel
theorem rel_init : Rel sig0 tau0 := by
  have hno : cntP (fun _ => False) 60 = 0 := (cnt_none 60).mpr (fun _ _ h => h)
  refine ⟨0, 0, 0, (fun _ => 0, fun _ => 0, fun _ => 0, fun _ => 0, fun _ => 0, fun _ _ => 0), fun _ => False, Rm tau0, (fun _ => 0, fun _ => 0, fun _ => 0, fun _ _ => 0), fun _ => 0, fun _ => 0, fun _ _ => 0, 0, fun _ => False, fun _ _ => False, ⟨⟨fun m hm => by omega, ⟨rfl, by omega, fun m hm => by omega⟩, ⟨rfl, by omega, fun k hk => by omega, ?_⟩, ⟨rfl, by omega, fun i hi => by omega⟩, fun i hi => by omega⟩, ⟨⟨rfl, by omega, fun m hm => by omega⟩, ⟨rfl, by omega, fun k hk => by omega, rfl⟩, ⟨rfl, by omega, fun i hi => by omega⟩⟩, Or.inr rfl, fun j _ hj => ⟨fill_m1 j hj, rfl⟩, fun k hk => by omega, fun k hk => by omega, fun k hk => by omega, ⟨fun k hk => by omega, fun i j k hi => by omega, fun k j hk => by omega, fun Q _ _ _ k j hk => by omega⟩⟩, ⟨rfl, by rw [hno]; rfl, fun k h => h.elim, fun k h => h.elim, fun u hu => ?_, fun k h => h.elim⟩, ⟨rfl, fun k hk => Or.inr ⟨rfl, id⟩, fun k o h => h.elim⟩⟩
  · intro s t hs ht
    have hs' : s < 11 := by omega
    have h : b64 (tabF s) t = tabB s t := by
      rcases tab_ok1 s hs' t (by omega) with q | q
      · omega
      · exact q
    show b64 (tabF s) t = true ↔ _
    rw [h, tab_ok2]
    unfold isP toI tabP
    constructor
    · rintro (q | q | ⟨q1, q2, q3 | q3 | q3⟩)
      · exact Or.inl (by omega)
      · exact Or.inr (Or.inl (by omega))
      · exact Or.inr (Or.inr ⟨by omega, by omega, Or.inl (by omega)⟩)
      · exact Or.inr (Or.inr ⟨by omega, by omega, Or.inr (Or.inl (by omega))⟩)
      · exact Or.inr (Or.inr ⟨by omega, by omega, Or.inr (Or.inr (Or.inl (by omega)))⟩)
    · rintro (q | q | ⟨q1, q2, q3 | q3 | q3 | ⟨q3, _⟩⟩)
      · exact Or.inl (by omega)
      · exact Or.inr (Or.inl (by omega))
      · exact Or.inr (Or.inr ⟨by omega, by omega, Or.inl (by omega)⟩)
      · exact Or.inr (Or.inr ⟨by omega, by omega, Or.inr (Or.inl (by omega))⟩)
      · exact Or.inr (Or.inr ⟨by omega, by omega, Or.inr (Or.inr (by omega))⟩)
      · omega
  · show b64 0 u = true ↔ False
    rw [b64_0]
    exact ⟨fun h => Bool.noConfusion h, False.elim⟩
theorem rel_all : ∃ Rel : xSt → xSt → Prop, rl_all Rel ∧ Rel sig0 tau0 := ⟨Rel, ⟨rel_cls, rel_face, rel_below, rel_member, rel_is, rel_fits, rel_function, rel_seen, rel_seenAt, rel_argument, rel_lambda, rel_wipe, rel_choose, rel_phase, rel_applied, rel_special, rel_count⟩, rel_init⟩
