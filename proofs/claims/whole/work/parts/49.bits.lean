/-- bitCount, on Nat -/
def bcB (x : Nat) : Nat :=
  (fun y1 => (fun y2 => (fun y3 => (fun y4 => (fun y5 => y5 &&& 63) ((y4 + (y4 >>> 16)) % 4294967296)) ((y3 + (y3 >>> 8)) % 4294967296)) (((y2 + (y2 >>> 4)) % 4294967296) &&& 252645135)) (((y1 &&& 858993459) + ((y1 >>> 2) &&& 858993459)) % 4294967296)) ((4294967296 - ((x >>> 1) &&& 1431655765) + x) % 4294967296)
def chk : Nat → Nat → Nat → Nat → Bool
  | 0, x, _, c => Nat.beq (bcB x) c
  | j + 1, x, r, c => chk j x r c && (Nat.beq r 0 || chk j (x + 2 ^ j) (r - 1) (c + 1))
set_option maxRecDepth 100000 in
theorem chk_all : chk 24 0 4 0 = true := by decide +kernel
