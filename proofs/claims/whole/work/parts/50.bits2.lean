theorem chk_use : ∀ (j x r c : Nat), chk j x r c = true → ∀ u, u < 2 ^ j → cntP (fun i => u.testBit i = true) j ≤ r → bcB (x + u) = c + cntP (fun i => u.testBit i = true) j := by
  intro j
  induction j with
  | zero =>
    intro x r c h u hu hr
    have e : u = 0 := by omega
    subst e
    exact Nat.eq_of_beq_eq_true h
  | succ j ih =>
    intro x r c h u hu hr
    unfold chk at h
    rw [Bool.and_eq_true, Bool.or_eq_true] at h
    by_cases q : u < 2 ^ j
    · have hb : ¬ (fun i => u.testBit i = true) j := by
        show ¬ u.testBit j = true
        rw [Nat.testBit_lt_two_pow q]; decide
      rw [cnt_n hb] at hr ⊢
      exact ih x r c h.1 u q hr
    · obtain ⟨w, rfl⟩ : ∃ w, u = 2 ^ j + w := ⟨u - 2 ^ j, by omega⟩
      have hw : w < 2 ^ j := by
        have := Nat.pow_succ 2 j
        omega
      have hb : (fun i => (2 ^ j + w).testBit i = true) j := by
        show (2 ^ j + w).testBit j = true
        rw [Nat.testBit_two_pow_add_eq, Nat.testBit_lt_two_pow hw]; decide
      have hc : cntP (fun i => (2 ^ j + w).testBit i = true) j = cntP (fun i => w.testBit i = true) j := cnt_congr j (fun m hm => by rw [Nat.testBit_two_pow_add_gt hm])
      rw [cnt_y hb, hc] at hr ⊢
      rcases h.2 with h2 | h2
      · have := Nat.eq_of_beq_eq_true h2
        omega
      · have := ih (x + 2 ^ j) (r - 1) (c + 1) h2 w hw (by omega)
        rw [show x + (2 ^ j + w) = x + 2 ^ j + w by omega, this]
        omega
theorem ju (x : Int32) : (jiushr x 1).toBitVec = x.toBitVec >>> 1 ∧ (jiushr x 2).toBitVec = x.toBitVec >>> 2 ∧ (jiushr x 4).toBitVec = x.toBitVec >>> 4 ∧ (jiushr x 8).toBitVec = x.toBitVec >>> 8 ∧ (jiushr x 16).toBitVec = x.toBitVec >>> 16 := ⟨rfl, rfl, rfl, rfl, rfl⟩
def bcI (x0 : Int32) : Int32 :=
  (fun y1 : Int32 => (fun y2 : Int32 => (fun y3 : Int32 => (fun y4 : Int32 => (fun y5 : Int32 => y5 &&& 63) (y4 + jiushr y4 16)) (y3 + jiushr y3 8)) ((y2 + jiushr y2 4) &&& 252645135)) ((y1 &&& 858993459) + (jiushr y1 2 &&& 858993459))) (x0 - (jiushr x0 1 &&& 1431655765))
theorem bc_some (σ : xSt) (x : Int32) : fJI_bitCount σ x = some (bcI x) := rfl
theorem bc_nat (x : Int32) : (bcI x).toBitVec.toNat = bcB x.toBitVec.toNat := by
  unfold bcI bcB
  have s1 : (x - (jiushr x 1 &&& 1431655765)).toBitVec.toNat = (4294967296 - ((x.toBitVec.toNat >>> 1) &&& 1431655765) + x.toBitVec.toNat) % 4294967296 := by
    rw [Int32.toBitVec_sub, Int32.toBitVec_and, (ju x).1, BitVec.toNat_sub, BitVec.toNat_and, BitVec.toNat_ushiftRight]
    rfl
  rw [← s1]
  generalize x - (jiushr x 1 &&& 1431655765) = y1
  have s2 : ((y1 &&& 858993459) + (jiushr y1 2 &&& 858993459)).toBitVec.toNat = ((y1.toBitVec.toNat &&& 858993459) + ((y1.toBitVec.toNat >>> 2) &&& 858993459)) % 4294967296 := by
    rw [Int32.toBitVec_add, Int32.toBitVec_and, Int32.toBitVec_and, (ju y1).2.1, BitVec.toNat_add, BitVec.toNat_and, BitVec.toNat_and, BitVec.toNat_ushiftRight]
    rfl
  show ((fun y2 : Int32 => (fun y3 : Int32 => (fun y4 : Int32 => (fun y5 : Int32 => y5 &&& 63) (y4 + jiushr y4 16)) (y3 + jiushr y3 8)) ((y2 + jiushr y2 4) &&& 252645135)) ((y1 &&& 858993459) + (jiushr y1 2 &&& 858993459))).toBitVec.toNat = (fun y2 => (fun y3 => (fun y4 => (fun y5 => y5 &&& 63) ((y4 + (y4 >>> 16)) % 4294967296)) ((y3 + (y3 >>> 8)) % 4294967296)) (((y2 + (y2 >>> 4)) % 4294967296) &&& 252645135)) (((y1.toBitVec.toNat &&& 858993459) + ((y1.toBitVec.toNat >>> 2) &&& 858993459)) % 4294967296)
  rw [← s2]
  generalize (y1 &&& 858993459) + (jiushr y1 2 &&& 858993459) = y2
  have s3 : ((y2 + jiushr y2 4) &&& 252645135).toBitVec.toNat = ((y2.toBitVec.toNat + (y2.toBitVec.toNat >>> 4)) % 4294967296) &&& 252645135 := by
    rw [Int32.toBitVec_and, Int32.toBitVec_add, (ju y2).2.2.1, BitVec.toNat_and, BitVec.toNat_add, BitVec.toNat_ushiftRight]
    rfl
  show ((fun y3 : Int32 => (fun y4 : Int32 => (fun y5 : Int32 => y5 &&& 63) (y4 + jiushr y4 16)) (y3 + jiushr y3 8)) ((y2 + jiushr y2 4) &&& 252645135)).toBitVec.toNat = (fun y3 => (fun y4 => (fun y5 => y5 &&& 63) ((y4 + (y4 >>> 16)) % 4294967296)) ((y3 + (y3 >>> 8)) % 4294967296)) (((y2.toBitVec.toNat + (y2.toBitVec.toNat >>> 4)) % 4294967296) &&& 252645135)
  rw [← s3]
  generalize (y2 + jiushr y2 4) &&& 252645135 = y3
  have s4 : (y3 + jiushr y3 8).toBitVec.toNat = (y3.toBitVec.toNat + (y3.toBitVec.toNat >>> 8)) % 4294967296 := by
    rw [Int32.toBitVec_add, (ju y3).2.2.2.1, BitVec.toNat_add, BitVec.toNat_ushiftRight]
  show ((fun y4 : Int32 => (fun y5 : Int32 => y5 &&& 63) (y4 + jiushr y4 16)) (y3 + jiushr y3 8)).toBitVec.toNat = (fun y4 => (fun y5 => y5 &&& 63) ((y4 + (y4 >>> 16)) % 4294967296)) ((y3.toBitVec.toNat + (y3.toBitVec.toNat >>> 8)) % 4294967296)
  rw [← s4]
  generalize y3 + jiushr y3 8 = y4
  show ((y4 + jiushr y4 16) &&& 63).toBitVec.toNat = ((y4.toBitVec.toNat + (y4.toBitVec.toNat >>> 16)) % 4294967296) &&& 63
  rw [Int32.toBitVec_and, Int32.toBitVec_add, (ju y4).2.2.2.2, BitVec.toNat_and, BitVec.toNat_add, BitVec.toNat_ushiftRight]
  rfl
/-- bitCount of a word with at most four bits, all below 24 -/
theorem x_bits (σ : xSt) {w : Int32} {F : Nat → Prop} (hF : ∀ u, u < 32 → (b32 w u = true ↔ F u)) (hlt : ∀ u, F u → u < 24) (hc : cntP F 24 ≤ 4) : fJI_bitCount σ w = some (nI (cntP F 24)) := by
  rw [bc_some]
  have tb : ∀ i, w.toBitVec.toNat.testBit i = b32 w i := fun i => by
    unfold b32
    rw [BitVec.testBit_toNat]
  have big : w.toBitVec.toNat < 2 ^ 24 := by
    apply Nat.lt_pow_two_of_testBit
    intro i hi
    rw [tb]
    by_cases h : i < 32
    · cases q : b32 w i with
      | false => rfl
      | true => have := hlt i ((hF i h).mp q); omega
    · unfold b32
      exact BitVec.getLsbD_of_ge _ _ (by omega)
  have ce : cntP (fun i => w.toBitVec.toNat.testBit i = true) 24 = cntP F 24 := cnt_congr 24 (fun m hm => by rw [tb]; exact hF m (by omega))
  have h := chk_use 24 0 4 0 chk_all w.toBitVec.toNat big (by rw [ce]; exact hc)
  rw [ce, Nat.zero_add, Nat.zero_add] at h
  have e : (bcI w).toBitVec.toNat = cntP F 24 := by rw [bc_nat, h]
  have e2 : bcI w = nI (cntP F 24) := by
    apply Int32.toBitVec_inj.mp
    apply BitVec.eq_of_toNat_eq
    rw [e]
    have : ∀ k, k ≤ 4 → (nI k).toBitVec.toNat = k := by decide
    exact (this _ hc).symm
  rw [e2]
theorem b32_or (w v : Int32) (u : Nat) : b32 (w ||| v) u = (b32 w u || b32 v u) := by
  unfold b32
  rw [Int32.toBitVec_or, BitVec.getLsbD_or]
theorem b32_and0 {w v : Int32} {m : Nat} (hv : ∀ u, u < 32 → b32 v u = decide (u = m)) (hm : m < 32) : (w &&& v = 0) ↔ b32 w m = false := by
  constructor
  · intro h
    have h1 : b32 (w &&& v) m = b32 0 m := by rw [h]
    unfold b32 at h1
    rw [Int32.toBitVec_and, BitVec.getLsbD_and] at h1
    have h2 := hv m hm
    unfold b32 at h2
    rw [h2] at h1
    simpa [b32] using h1
  · intro h
    apply Int32.toBitVec_inj.mp
    apply BitVec.eq_of_getLsbD_eq
    intro i hi
    rw [Int32.toBitVec_and, BitVec.getLsbD_and]
    have h2 := hv i hi
    unfold b32 at h2 h
    rw [h2]
    by_cases q : i = m
    · subst q; rw [h]; simp
    · simp [q]
theorem sh1 : ∀ m, m < 24 → ∀ u, u < 32 → b32 ((1 : Int32) <<< ((nI m) &&& 31)) u = decide (u = m) := by decide
