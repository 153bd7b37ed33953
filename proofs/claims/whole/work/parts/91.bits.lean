/-! Sets of senses as numbers. -/
theorem z32_a (M S b : Int32) : (M &&& (S ^^^ (-1))) &&& (b ^^^ (-1)) = M &&& ((S ||| b) ^^^ (-1)) := by
  apply Int32.toBitVec.inj
  simp only [Int32.toBitVec_and, Int32.toBitVec_or, Int32.toBitVec_xor]
  have e : (-1 : Int32).toBitVec = BitVec.allOnes 32 := by decide
  rw [e]
  apply BitVec.eq_of_getLsbD_eq
  intro i hi
  simp only [BitVec.getLsbD_and, BitVec.getLsbD_or, BitVec.getLsbD_xor, BitVec.getLsbD_allOnes, hi, decide_true]
  cases M.toBitVec.getLsbD i <;> cases S.toBitVec.getLsbD i <;> cases b.toBitVec.getLsbD i <;> rfl
theorem z32_1 (M : Int32) : M &&& (-1) = M := by
  apply Int32.toBitVec.inj
  simp only [Int32.toBitVec_and]
  have e : (-1 : Int32).toBitVec = BitVec.allOnes 32 := by decide
  rw [e]
  apply BitVec.eq_of_getLsbD_eq
  intro i hi
  simp only [BitVec.getLsbD_and, BitVec.getLsbD_allOnes, hi, decide_true, Bool.and_true]
theorem z32_o (S X b : Int32) : S ||| (X ||| b) = (S ||| X) ||| b := by
  apply Int32.toBitVec.inj
  simp only [Int32.toBitVec_or]
  apply BitVec.eq_of_getLsbD_eq
  intro i hi
  simp only [BitVec.getLsbD_or]
  cases S.toBitVec.getLsbD i <;> cases X.toBitVec.getLsbD i <;> cases b.toBitVec.getLsbD i <;> rfl
theorem z32_0 (S : Int32) : S ||| 0 = S := by
  apply Int32.toBitVec.inj
  simp only [Int32.toBitVec_or]
  have e : (0 : Int32).toBitVec = BitVec.zero 32 := by decide
  rw [e]
  apply BitVec.eq_of_getLsbD_eq
  intro i hi
  simp
theorem zand_not (M S b : Int) : ziand (ziand M (zixor S (-1))) (zixor b (-1)) = ziand M (zixor (zior S b) (-1)) := by
  unfold ziand zixor zior
  simp only [Int32.ofInt_toInt]
  rw [show Int32.ofInt (-1) = -1 from rfl, z32_a]
theorem zand_m1 (M S : Int) : ziand (ziand M S) (-1) = ziand M S := by
  unfold ziand
  simp only [Int32.ofInt_toInt]
  rw [show Int32.ofInt (-1) = -1 from rfl, z32_1]
theorem zior_as (S X b : Int) : zior S (zior X b) = zior (zior S X) b := by
  unfold zior
  simp only [Int32.ofInt_toInt]
  rw [z32_o]
theorem zior_0 (S X : Int) : zior (zior S X) 0 = zior S X := by
  unfold zior
  simp only [Int32.ofInt_toInt]
  rw [show Int32.ofInt 0 = 0 from rfl, z32_0]
theorem zall_1 : ∀ n : Fin 9, ziand (zsub (zishl 1 ((n : Nat) : Int)) 1) (zixor 0 (-1)) = zsub (zishl 1 ((n : Nat) : Int)) 1 := by decide
