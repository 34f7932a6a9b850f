/-! typed bytes -/
theorem sh_l (x : Int64) {k : Nat} (hk : k < 64) : (lush x (nI k)).toBitVec = x.toBitVec >>> k := by
  unfold lush
  rw [wb_cu k hk]
  show (x.toUInt64 >>> UInt64.ofNat k).toBitVec = _
  rw [UInt64.toBitVec_shiftRight]
  have e : ((UInt64.ofNat k).toBitVec % 64).toNat = k := by
    rw [BitVec.toNat_umod, show (64 : BitVec 64).toNat = 64 from rfl, UInt64.toNat_toBitVec, UInt64.toNat_ofNat']
    omega
  show x.toBitVec >>> ((UInt64.ofNat k).toBitVec % 64).toNat = _
  rw [e]
theorem sh_r (x : Int64) {k : Nat} (hk : k < 64) : (lshr x (nI k)).toBitVec = x.toBitVec.sshiftRight k := by
  unfold lshr
  rw [wb_c k hk, Int64.toBitVec_shiftRight, wb_tb, wb_sm k hk]
  show x.toBitVec.sshiftRight (BitVec.ofNat 64 k).toNat = _
  rw [BitVec.toNat_ofNat, Nat.mod_eq_of_lt (by omega)]
theorem sh_b (x : Int64) {k : Nat} (hk : k < 8) : nb (((lush x (8 * nI k)).toInt32) &&& 255) = nb ((lshr x (8 * nI k)).toInt32) := by
  have e8 : (8 : Int32) * nI k = nI (8 * k) := by
    show nI 8 * nI k = nI (8 * k)
    exact (Int32.ofNat_mul 8 k).symm
  rw [e8]
  unfold nb
  congr 1
  apply Int8.toBitVec_inj.mp
  apply BitVec.eq_of_getLsbD_eq
  intro i hi
  rw [Int32.toBitVec_toInt8, Int32.toBitVec_toInt8, Int32.toBitVec_and, Int64.toBitVec_toInt32, Int64.toBitVec_toInt32, sh_l x (by omega), sh_r x (by omega)]
  have h255 : ∀ i, i < 8 → (255 : Int32).toBitVec.getLsbD i = true := by decide
  rw [BitVec.getLsbD_signExtend, BitVec.getLsbD_signExtend, if_pos (show i < 32 by omega), if_pos (show i < 32 by omega), BitVec.getLsbD_and, h255 i hi, Bool.and_true, BitVec.getLsbD_signExtend, BitVec.getLsbD_signExtend, if_pos (show i < 64 by omega), if_pos (show i < 64 by omega), BitVec.getLsbD_ushiftRight, BitVec.getLsbD_sshiftRight, if_pos (show 8 * k + i < 64 by omega)]
  rw [decide_eq_false (show ¬ 64 ≤ i by omega)]
  rfl
