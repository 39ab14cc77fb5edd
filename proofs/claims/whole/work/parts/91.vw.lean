def vw (l e : Int32) : Int64 := (e.toInt64 <<< ((32 : Int32).toInt64 &&& 63)) ||| (l.toInt64 &&& (4294967295 : Int64))
theorem sh32 : ((32 : Int32).toInt64 &&& 63) = (32 : Int64) := by decide
theorem ones64 (i : Nat) : (4294967295#64).getLsbD i = decide (i < 32) := by
  have h1 : (4294967295#64) = BitVec.setWidth 64 (BitVec.allOnes 32) := by decide
  rw [h1]
  rw [BitVec.getLsbD_setWidth, BitVec.getLsbD_allOnes]
  by_cases h : i < 32 <;> simp [h]; omega
theorem vw_lead (l e : Int32) : (vw l e).toInt32 = l := by
  unfold vw
  rw [sh32]
  apply Int32.toBitVec_inj.1
  ext i hi
  have h1 : (4294967295#32) = BitVec.allOnes 32 := by decide
  have h2 : i < 64 := by omega
  have h3 : (4294967295#32)[i] = true := by rw [show (4294967295#32)[i] = (BitVec.allOnes 32)[i] from by rw [← h1]]; exact BitVec.getElem_allOnes i hi
  simp [Int64.toBitVec_toInt32, Int64.toBitVec_or, Int64.toBitVec_shiftLeft, Int64.toBitVec_and, BitVec.getElem_signExtend, h2, hi, h3]
theorem vw_sess (l e : Int32) : ((vw l e) >>> ((32 : Int32).toInt64 &&& 63)).toInt32 = e := by
  unfold vw
  rw [sh32]
  apply Int32.toBitVec_inj.1
  ext i hi
  have h2 : i < 64 := by omega
  have h3 : 32 + i < 64 := by omega
  have h4 : (4294967295#64)[32 + i] = false := by
    have := ones64 (32 + i)
    rw [BitVec.getLsbD_eq_getElem h3] at this
    rw [this]; simp
  simp [BitVec.getElem_signExtend, BitVec.getElem_sshiftRight, h2, h3, hi, h4]
theorem and64 {l : Int32} (h : 0 ≤ l.toInt) : (l.toInt64 &&& (4294967295 : Int64)) = l.toInt64 := by
  have hm : l.toBitVec.msb = false := by
    rw [BitVec.msb_eq_toInt]; simpa using h
  apply Int64.toBitVec_inj.1
  ext i hi
  have h4 := ones64 i
  rw [BitVec.getLsbD_eq_getElem hi] at h4
  simp [BitVec.getElem_signExtend, hm, h4]
  intro x _; exact x
theorem or_add (E L : BitVec 64) (h : ∀ i, 32 ≤ i → L.getLsbD i = false) : (E <<< 32) ||| L = (E <<< 32) + L := by
  refine (BitVec.add_eq_or_of_and_eq_zero _ _ ?_).symm
  apply BitVec.eq_of_getLsbD_eq
  intro i hi
  rw [BitVec.getLsbD_and, BitVec.getLsbD_shiftLeft]
  by_cases h1 : i < 32
  · simp [h1]
  · rw [h i (by omega)]; simp
theorem sh_mul (E : BitVec 64) : (E <<< 32) = E * 4294967296#64 := by
  rw [BitVec.shiftLeft_eq_mul_twoPow]
  congr 1
theorem vw_toInt {l : Int32} (e : Int32) (h : 0 ≤ l.toInt) : (vw l e).toInt = e.toInt * 4294967296 + l.toInt := by
  have hb := Int32.toInt_lt l
  have he := Int32.toInt_lt e
  have he2 := Int32.le_toInt e
  have hm : l.toBitVec.msb = false := by
    rw [BitVec.msb_eq_toInt]; simpa using h
  unfold vw
  rw [sh32, and64 h]
  have h5 : (e.toInt64 <<< 32 ||| l.toInt64) = e.toInt64 * 4294967296 + l.toInt64 := by
    apply Int64.toBitVec_inj.1
    have h6 : (e.toInt64 <<< 32).toBitVec = e.toInt64.toBitVec <<< 32 := by
      rw [Int64.toBitVec_shiftLeft]; rfl
    rw [Int64.toBitVec_or, Int64.toBitVec_add, Int64.toBitVec_mul, h6, or_add, sh_mul]
    · rfl
    · intro i hi
      rw [Int32.toBitVec_toInt64, BitVec.getLsbD_signExtend, hm]
      simp; intros; omega
  rw [h5, Int64.toInt_add, Int64.toInt_mul, Int32.toInt_toInt64, Int32.toInt_toInt64]
  have h7 : (4294967296 : Int64).toInt = 4294967296 := by decide
  rw [h7]
  rw [Int.bmod_eq_of_le (n := e.toInt * 4294967296) (by omega) (by omega)]
  rw [Int.bmod_eq_of_le (by omega) (by omega)]
