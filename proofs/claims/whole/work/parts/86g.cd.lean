section PCD
variable {S : CS} {M : MS} {x0 n : Nat} {gs : Nat → Nat} {hs : Nat → Int32}
theorem lN_clear {f g : Nat → Bool} {i : Nat} (hi : i < 64) (h : ∀ k, k < 64 → g k = (f k && !decide (i = k))) : lN (pm f 64) &&& (((1 : Int64) <<< ((nI i).toInt64 &&& 63)) ^^^ (-1 : Int64)) = lN (pm g 64) := by
  have e1 : (1 : Int64) <<< ((nI i).toInt64 &&& 63) = lN (2 ^ i) := by
    have := wb_shl 1 (k := i) hi
    rw [Nat.one_mul] at this
    exact this
  rw [e1]
  apply Int64.toBitVec_inj.mp
  rw [Int64.toBitVec_and, Int64.toBitVec_xor, wb_tb (pm f 64), wb_tb (2 ^ i), wb_tb (pm g 64)]
  apply BitVec.eq_of_getLsbD_eq
  intro k hk
  have em : (-1 : Int64).toBitVec.getLsbD k = true := by
    rw [show (-1 : Int64).toBitVec = BitVec.allOnes 64 by decide, BitVec.getLsbD_allOnes]
    exact decide_eq_true hk
  rw [BitVec.getLsbD_and, BitVec.getLsbD_xor, em, BitVec.getLsbD_ofNat, BitVec.getLsbD_ofNat, BitVec.getLsbD_ofNat, decide_eq_true hk, Bool.true_and, Bool.true_and, Bool.true_and, pm_bit, pm_bit, decide_eq_true hk, Bool.true_and, Bool.true_and, h k hk, Nat.testBit_two_pow, Bool.xor_true]
end PCD
