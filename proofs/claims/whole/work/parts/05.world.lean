def xW (ad : Nat → Nat) (cA : Nat → ClassId) (σ : xSt) : va_W := [
  (ad 0, .inr (0, [.ref (ad 1), .ref (ad 2), .ref (ad 3), .ref (ad 4), .ref (ad 5)])),
  (ad 1, .inr (1, [.ref (ad 6), .ref (ad 7), .ref (ad 8), .int (σ.1 1 3)])),
  (ad 2, .inr (2, [.ref (ad 1), .ref (ad 9), .ref (ad 10), .ref (ad 11), .ref (ad 12), .ref (ad 13), .ref (ad 14), .ref (ad 15), .int (σ.1 2 8), .int (σ.1 2 9)])),
  (ad 3, .inr (3, [.ref (ad 16), .ref (ad 17), .ref (ad 18), .ref (ad 19), .ref (ad 20), .int (σ.1 3 5)])),
  (ad 4, .inr (4, [.ref (ad 1), .ref (ad 2), .ref (ad 3), .ref (ad 21), .ref (ad 22), .ref (ad 23), .int (σ.1 4 6), .int (σ.1 4 7), .long (σ.2 4 8), .int (σ.1 4 9)])),
  (ad 5, .inl (cA 5, 60, .inl (σ.1 5))),
  (ad 6, .inl (cA 6, 40, .inr (.inl (σ.2 6)))),
  (ad 7, .inl (cA 7, 24, .inl (σ.1 7))),
  (ad 8, .inl (cA 8, 24, .inl (σ.1 8))),
  (ad 9, .inl (cA 9, 61, .inl (σ.1 9))),
  (ad 10, .inl (cA 10, 61, .inl (σ.1 10))),
  (ad 11, .inl (cA 11, 61, .inl (σ.1 11))),
  (ad 12, .inl (cA 12, 61, .inl (σ.1 12))),
  (ad 13, .inl (cA 13, 61, .inl (σ.1 13))),
  (ad 14, .inl (cA 14, 244, .inl (σ.1 14))),
  (ad 15, .inl (cA 15, 24, .inl (σ.1 15))),
  (ad 16, .inl (cA 16, 5, .inl (σ.1 16))),
  (ad 17, .inl (cA 17, 5, .inl (σ.1 17))),
  (ad 18, .inl (cA 18, 5, .inl (σ.1 18))),
  (ad 19, .inl (cA 19, 5, .inl (σ.1 19))),
  (ad 20, .inl (cA 20, 10, .inl (σ.1 20))),
  (ad 21, .inl (cA 21, 60, .inl (σ.1 21))),
  (ad 22, .inl (cA 22, 60, .inl (σ.1 22))),
  (ad 23, .inl (cA 23, 60, .inr (.inl (σ.2 23))))]
def xT (cA : Nat → ClassId) : List (ClassId × FieldType) := [(cA 5, .int), (cA 6, .long), (cA 7, .int), (cA 8, .boolean), (cA 9, .int), (cA 10, .int), (cA 11, .int), (cA 12, .int), (cA 13, .int), (cA 14, .int), (cA 15, .int), (cA 16, .boolean), (cA 17, .boolean), (cA 18, .int), (cA 19, .int), (cA 20, .int), (cA 21, .int), (cA 22, .int), (cA 23, .long)]
def xA (ad : Nat → Nat) : Nat → Prop := fun q => ∃ k : Nat, k < 24 ∧ q = ad k
theorem xkeys {ad : Nat → Nat} {cA : Nat → ClassId} : ∀ σ σ2 : xSt, (xW ad cA σ).map Prod.fst = (xW ad cA σ2).map Prod.fst := fun _ _ => rfl
def mW (ad : Nat → Nat) (cA : Nat → ClassId) (σ : xSt) : va_W := [
  (ad 0, .inr (5, [.int (σ.1 0 0), .ref (ad 1), .ref (ad 2), .ref (ad 3), .ref (ad 4), .ref (ad 5), .int (σ.1 0 6), .ref (ad 6), .ref (ad 7), .ref (ad 8), .ref (ad 9), .ref (ad 10), .ref (ad 11), .int (σ.1 0 13), .ref (ad 12), .ref (ad 13), .ref (ad 14), .ref (ad 15), .ref (ad 16), .int (σ.1 0 19), .ref (ad 17), .ref (ad 18), .ref (ad 19)])),
  (ad 1, .inl (cA 1, 24, .inl (σ.1 1))),
  (ad 2, .inl (cA 2, 24, .inl (σ.1 2))),
  (ad 3, .inl (cA 3, 24, .inl (σ.1 3))),
  (ad 4, .inl (cA 4, 96, .inl (σ.1 4))),
  (ad 5, .inl (cA 5, 576, .inl (σ.1 5))),
  (ad 6, .inl (cA 6, 60, .inl (σ.1 6))),
  (ad 7, .inl (cA 7, 60, .inl (σ.1 7))),
  (ad 8, .inl (cA 8, 60, .inl (σ.1 8))),
  (ad 9, .inl (cA 9, 60, .inl (σ.1 9))),
  (ad 10, .inl (cA 10, 60, .inl (σ.1 10))),
  (ad 11, .inl (cA 11, 240, .inl (σ.1 11))),
  (ad 12, .inl (cA 12, 5, .inl (σ.1 12))),
  (ad 13, .inl (cA 13, 5, .inl (σ.1 13))),
  (ad 14, .inl (cA 14, 5, .inl (σ.1 14))),
  (ad 15, .inl (cA 15, 10, .inl (σ.1 15))),
  (ad 16, .inl (cA 16, 5, .inl (σ.1 16))),
  (ad 17, .inl (cA 17, 60, .inl (σ.1 17))),
  (ad 18, .inl (cA 18, 3600, .inl (σ.1 18))),
  (ad 19, .inl (cA 19, 24, .inl (σ.1 19)))]
def mT (cA : Nat → ClassId) : List (ClassId × FieldType) := [(cA 1, .boolean), (cA 2, .int), (cA 3, .int), (cA 4, .int), (cA 5, .boolean), (cA 6, .int), (cA 7, .int), (cA 8, .int), (cA 9, .int), (cA 10, .int), (cA 11, .int), (cA 12, .int), (cA 13, .int), (cA 14, .int), (cA 15, .int), (cA 16, .int), (cA 17, .boolean), (cA 18, .boolean), (cA 19, .int)]
def mA (ad : Nat → Nat) : Nat → Prop := fun q => ∃ k : Nat, k < 20 ∧ q = ad k
theorem mkeys {ad : Nat → Nat} {cA : Nat → ClassId} : ∀ σ σ2 : xSt, (mW ad cA σ).map Prod.fst = (mW ad cA σ2).map Prod.fst := fun _ _ => rfl
