def tb (x : Int32) (j : Nat) : Bool := x.toBitVec.getLsbD j
theorem tb_ext {x y : Int32} (h : ∀ j, j < 32 → tb x j = tb y j) : x = y := Int32.toBitVec_inj.mp (BitVec.eq_of_getLsbD_eq (fun j hj => h j hj))
theorem tb_ge (x : Int32) {j : Nat} (h : 32 ≤ j) : tb x j = false := BitVec.getLsbD_of_ge _ _ h
theorem tb_or (x y : Int32) (j : Nat) : tb (x ||| y) j = (tb x j || tb y j) := by unfold tb; rw [Int32.toBitVec_or, BitVec.getLsbD_or]
theorem tb_and (x y : Int32) (j : Nat) : tb (x &&& y) j = (tb x j && tb y j) := by unfold tb; rw [Int32.toBitVec_and, BitVec.getLsbD_and]
theorem tb_0 (j : Nat) : tb 0 j = false := by unfold tb; exact BitVec.getLsbD_zero
theorem tb_not (x : Int32) {j : Nat} (h : j < 32) : tb (x ^^^ (-1)) j = !tb x j := by
  have h1 : ∀ j, j < 32 → (-1 : Int32).toBitVec.getLsbD j = true := by decide
  unfold tb; rw [Int32.toBitVec_xor, BitVec.getLsbD_xor, h1 j h]; simp
theorem shl1_e : ∀ m, m < 32 → (1 : Int32) <<< (nI m &&& 31) = Int32.ofBitVec (1#32 <<< m) := by decide +kernel
theorem tb_shl1 {m : Nat} (hm : m < 32) (j : Nat) : tb ((1 : Int32) <<< (nI m &&& 31)) j = decide (j = m) := by
  rw [shl1_e m hm]
  unfold tb
  rw [Int32.toBitVec_ofBitVec, BitVec.getLsbD_shiftLeft]
  by_cases h : j < 32
  · by_cases h2 : j < m
    · simp [h, h2]; omega
    · by_cases h3 : j = m
      · subst h3; simp [h]
      · have : j - m ≠ 0 := by omega
        simp [h, h2, h3, BitVec.getLsbD_one, this]
  · have : j ≠ m := by omega
    simp [h, this]
theorem shr_k : ∀ m, m < 32 → ((nI m &&& 31).toBitVec.smod 32).toNat = m := by decide +kernel
theorem has_tb (x : Int32) {m : Nat} (hm : m < 32) : (x >>> (nI m &&& 31)) &&& 1 = if tb x m then 1 else 0 := by
  have h1 : ∀ j, j < 32 → (1 : Int32).toBitVec.getLsbD j = decide (j = 0) := by decide
  apply tb_ext
  intro j hj
  rw [tb_and]
  unfold tb
  rw [h1 j hj, Int32.toBitVec_shiftRight, BitVec.sshiftRight_eq', shr_k m hm, BitVec.getLsbD_sshiftRight]
  by_cases h0 : j = 0
  · subst h0
    have h2 : (!decide (32 ≤ 0) && if m + 0 < 32 then x.toBitVec.getLsbD (m + 0) else x.toBitVec.msb) = x.toBitVec.getLsbD m := by simp [hm]
    rw [h2]
    cases x.toBitVec.getLsbD m <;> decide
  · simp only [h0, decide_false, Bool.and_false]
    split
    · exact (h1 j hj).trans (by simp [h0]) |>.symm
    · exact BitVec.getLsbD_zero.symm
theorem has_tb1 (x : Int32) {m : Nat} (hm : m < 32) : ((x >>> (nI m &&& 31)) &&& 1 = 1) ↔ tb x m = true := by
  rw [has_tb x hm]; cases tb x m <;> simp
def zBt (v : Int32) (f : Nat → Int32) (n : Nat) : Prop := ∀ j, j < 32 → tb v j = decide (j < n ∧ f j = 1)
theorem x_has {M : zM} (v : Int32) {m : Nat} (hm : m < 32) : f_X10_has M v (nI m) = some (if tb v m then 1 else 0) := by
  have hi := nI_toInt (n := m) (by omega)
  have h1 : ¬ nI m < 0 := by rw [i_lt, hi]; show ¬ (m : Int) < 0; omega
  have h2 : ¬ (32 : Int32) ≤ nI m := by rw [i_le, hi]; show ¬ (32 : Int) ≤ _; omega
  unfold f_X10_has
  simp only [h1, h2, if_false, has_tb1 v hm]
  split <;> rfl
theorem tb_small {v : Int32} {n : Nat} (hn : n ≤ 31) (h : ∀ j, n ≤ j → j < 32 → tb v j = false) : ∃ x, x < 2 ^ n ∧ v = nI x := by
  have hlt : v.toBitVec.toNat < 2 ^ n := by
    apply Nat.lt_pow_two_of_testBit
    intro i hi
    rcases Nat.lt_or_ge i 32 with q | q
    · exact h i hi q
    · exact BitVec.getLsbD_of_ge _ _ q
  refine ⟨v.toBitVec.toNat, hlt, Int32.toBitVec_inj.mp (BitVec.eq_of_toNat_eq ?_)⟩
  show _ = (Int32.ofNat _).toBitVec.toNat
  rw [Int32.toBitVec_ofNat', BitVec.toNat_ofNat, Nat.mod_eq_of_lt v.toBitVec.isLt]
