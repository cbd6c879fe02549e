/-! ===== LEVEL 3: the sheet: the nearest symbol ===== -/
theorem us_n {x : Int32} {k : Nat} {y : Int32} (h : (y.toUInt32 &&& Int32.toUInt32 31).toBitVec.toNat = k) (hk : k < 32) : (iushr x y).toBitVec.toNat = x.toBitVec.toNat >>> k := by
  show ((x.toUInt32 >>> (y.toUInt32 &&& Int32.toUInt32 31)).toInt32).toBitVec.toNat = _
  show (x.toBitVec >>> ((y.toUInt32 &&& Int32.toUInt32 31).toBitVec.toNat % 32)).toNat = _
  rw [h, BitVec.toNat_ushiftRight, Nat.mod_eq_of_lt hk]
theorem pc_n (x : Int32) : (pc x).toBitVec.toNat = pcN x.toBitVec.toNat := by
  unfold pc pcN
  simp only [Int32.toBitVec_and, Int32.toBitVec_add, Int32.toBitVec_sub, BitVec.toNat_and, BitVec.toNat_add, BitVec.toNat_sub, us_n (x := x) (k := 1) (y := cI 1) (by decide) (by decide)]
  rw [us_n (k := 2) (y := cI 2) (by decide) (by decide), us_n (k := 4) (y := cI 4) (by decide) (by decide), us_n (k := 8) (y := cI 8) (by decide) (by decide), us_n (k := 16) (y := cI 16) (by decide) (by decide)]
  simp only [Int32.toBitVec_and, Int32.toBitVec_add, Int32.toBitVec_sub, BitVec.toNat_and, BitVec.toNat_add, BitVec.toNat_sub, us_n (k := 1) (y := cI 1) (by decide) (by decide), us_n (k := 2) (y := cI 2) (by decide) (by decide), us_n (k := 4) (y := cI 4) (by decide) (by decide), us_n (k := 8) (y := cI 8) (by decide) (by decide)]
  rfl
