/-! bits: Integer.bitCount and the reference's size agree on 16 bits -/
theorem nI_and (a b : Nat) : nI a &&& nI b = nI (a &&& b) := by
  apply Int32.toBitVec_inj.mp
  show BitVec.ofNat 32 a &&& BitVec.ofNat 32 b = BitVec.ofNat 32 (a &&& b)
  exact BitVec.ofNat_and.symm
def bP1 (n : Nat) : Nat := Nat.sub n (Nat.land (Nat.div n 2) 1431655765)
def bP2 (n : Nat) : Nat := Nat.add (Nat.land n 858993459) (Nat.land (Nat.div n 4) 858993459)
def bP3 (n : Nat) : Nat := Nat.land (Nat.add n (Nat.div n 16)) 252645135
def bP4 (n : Nat) : Nat := Nat.add n (Nat.div n 256)
def bP5 (n : Nat) : Nat := Nat.land (Nat.add n (Nat.div n 65536)) 63
def bN (n : Nat) : Nat → Nat
  | 0 => 0
  | k + 1 => Nat.add (bN n k) (Nat.mod (Nat.div n (Nat.pow 2 k)) 2)
def bX (n : Nat) : Nat := Nat.add (Nat.add (Nat.add (Nat.add (Nat.add (Nat.add (Nat.add (Nat.add (Nat.add (Nat.add (Nat.add (Nat.add (Nat.add (Nat.add (Nat.add (Nat.mod n 2) (Nat.mod (Nat.div n 2) 2)) (Nat.mod (Nat.div n 4) 2)) (Nat.mod (Nat.div n 8) 2)) (Nat.mod (Nat.div n 16) 2)) (Nat.mod (Nat.div n 32) 2)) (Nat.mod (Nat.div n 64) 2)) (Nat.mod (Nat.div n 128) 2)) (Nat.mod (Nat.div n 256) 2)) (Nat.mod (Nat.div n 512) 2)) (Nat.mod (Nat.div n 1024) 2)) (Nat.mod (Nat.div n 2048) 2)) (Nat.mod (Nat.div n 4096) 2)) (Nat.mod (Nat.div n 8192) 2)) (Nat.mod (Nat.div n 16384) 2)) (Nat.mod (Nat.div n 32768) 2)
def ckL (h : Nat) : Nat → Bool
  | 0 => true
  | l + 1 => (Nat.beq (bP5 (bP4 (bP3 (bP2 (bP1 (Nat.add (Nat.mul h 256) l)))))) (bX (Nat.add (Nat.mul h 256) l))) && ckL h l
def ckH : Nat → Bool
  | 0 => true
  | h + 1 => ckL h 256 && ckH h
set_option maxRecDepth 100000 in
theorem ckH_t : ckH 256 = true := by decide +kernel
