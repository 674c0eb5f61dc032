theorem char_ii (i : Int32) : ∃ n : Nat, n < 65536 ∧ (i.toUInt32 % 65536).toInt32 = ii n := by
  have h : (i.toUInt32 % 65536).toNat < 65536 := by
    rw [UInt32.toNat_mod]
    exact Nat.mod_lt _ (by decide)
  refine ⟨(i.toUInt32 % 65536).toNat, h, ?_⟩
  rw [← ii_nI]
  apply Int32.toBitVec_inj.1
  show (i.toUInt32 % 65536).toBitVec = (Int32.ofNat _).toBitVec
  apply BitVec.eq_of_toNat_eq
  show (i.toUInt32 % 65536).toNat = (BitVec.ofNat 32 (i.toUInt32 % 65536).toNat).toNat
  rw [BitVec.toNat_ofNat]
  omega
theorem nar_ii {n : Nat} (h : n < 65536) : vp_nar .char (ii n) = ii n := by
  rw [vp_nar_char, ← ii_nI]
  apply Int32.toBitVec_inj.1
  apply BitVec.eq_of_toNat_eq
  show ((BitVec.ofNat 32 n).setWidth 16 |>.setWidth 32).toNat = (BitVec.ofNat 32 n).toNat
  rw [BitVec.toNat_setWidth, BitVec.toNat_setWidth, BitVec.toNat_ofNat]
  omega
