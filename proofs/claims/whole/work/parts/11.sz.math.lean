theorem bb (x : BitVec 64) (n : Nat) (hn : n ≤ 56) : (x >>> n) &&& 255#64 = (x.sshiftRight n) &&& 255#64 := by
  apply BitVec.eq_of_getLsbD_eq
  intro i hi
  simp only [BitVec.getLsbD_and, BitVec.getLsbD_ushiftRight, BitVec.getLsbD_sshiftRight]
  by_cases h : i < 8
  · have h1 : n + i < 64 := by omega
    simp [h1, show ¬ 64 ≤ i by omega]
  · have : (255#64).getLsbD i = false := by
      have : (255#64) = BitVec.ofNat 64 (2^8-1) := rfl
      rw [this, BitVec.getLsbD_ofNat, Nat.testBit_two_pow_sub_one]
      simp [h]
    simp [this]
def byteC (w : Int64) (k : Int32) : Int32 := ((w.toUInt64 >>> (((8 * k)).toInt64.toUInt64 &&& Int64.toUInt64 63)).toInt64 &&& (255 : Int64)).toInt32
theorem byteC_M (w : Int64) {k : Nat} (hk : k < 8) : byteC w (nI k) = byteM w k := by
  unfold byteC byteM
  congr 1
  match k, hk with
  | 0, _ =>
    apply Int64.toBitVec_inj.mp
    show (w.toBitVec >>> (0 : Nat)) &&& 255#64 = (w.toBitVec.sshiftRight 0) &&& 255#64
    exact bb _ _ (by decide)
  | 1, _ =>
    apply Int64.toBitVec_inj.mp
    show (w.toBitVec >>> (8 : Nat)) &&& 255#64 = (w.toBitVec.sshiftRight 8) &&& 255#64
    exact bb _ _ (by decide)
  | 2, _ =>
    apply Int64.toBitVec_inj.mp
    show (w.toBitVec >>> (16 : Nat)) &&& 255#64 = (w.toBitVec.sshiftRight 16) &&& 255#64
    exact bb _ _ (by decide)
  | 3, _ =>
    apply Int64.toBitVec_inj.mp
    show (w.toBitVec >>> (24 : Nat)) &&& 255#64 = (w.toBitVec.sshiftRight 24) &&& 255#64
    exact bb _ _ (by decide)
  | 4, _ =>
    apply Int64.toBitVec_inj.mp
    show (w.toBitVec >>> (32 : Nat)) &&& 255#64 = (w.toBitVec.sshiftRight 32) &&& 255#64
    exact bb _ _ (by decide)
  | 5, _ =>
    apply Int64.toBitVec_inj.mp
    show (w.toBitVec >>> (40 : Nat)) &&& 255#64 = (w.toBitVec.sshiftRight 40) &&& 255#64
    exact bb _ _ (by decide)
  | 6, _ =>
    apply Int64.toBitVec_inj.mp
    show (w.toBitVec >>> (48 : Nat)) &&& 255#64 = (w.toBitVec.sshiftRight 48) &&& 255#64
    exact bb _ _ (by decide)
  | 7, _ =>
    apply Int64.toBitVec_inj.mp
    show (w.toBitVec >>> (56 : Nat)) &&& 255#64 = (w.toBitVec.sshiftRight 56) &&& 255#64
    exact bb _ _ (by decide)
