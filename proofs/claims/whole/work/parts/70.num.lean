theorem i_add {a b : Int32} (h1 : -2147483648 ≤ a.toInt + b.toInt) (h2 : a.toInt + b.toInt ≤ 2147483647) : (a + b).toInt = a.toInt + b.toInt := by
  rw [Int32.toInt_add]; exact Int.bmod_eq_of_le (by omega) (by omega)
theorem i_sub {a b : Int32} (h1 : -2147483648 ≤ a.toInt - b.toInt) (h2 : a.toInt - b.toInt ≤ 2147483647) : (a - b).toInt = a.toInt - b.toInt := by
  rw [Int32.toInt_sub]; exact Int.bmod_eq_of_le (by omega) (by omega)
theorem i_mul {a b : Int32} (h1 : -2147483648 ≤ a.toInt * b.toInt) (h2 : a.toInt * b.toInt ≤ 2147483647) : (a * b).toInt = a.toInt * b.toInt := by
  rw [Int32.toInt_mul]; exact Int.bmod_eq_of_le (by omega) (by omega)
theorem i_lo (a : Int32) : -2147483648 ≤ a.toInt := Int32.le_toInt a
theorem i_hi (a : Int32) : a.toInt ≤ 2147483647 := by have := Int32.toInt_lt a; omega
theorem i_div {a b : Int32} (h1 : 0 ≤ a.toInt) (h2 : 0 < b.toInt) : (a / b).toInt = a.toInt / b.toInt := by
  rw [Int32.toInt_div]
  have ha := i_hi a
  have h3 : a.toInt.tdiv b.toInt = a.toInt / b.toInt := Int.tdiv_eq_ediv_of_nonneg h1
  have h4 : 0 ≤ a.toInt / b.toInt := Int.ediv_nonneg h1 (by omega)
  have h5 : a.toInt / b.toInt ≤ a.toInt := Int.ediv_le_self _ h1
  rw [h3]; exact Int.bmod_eq_of_le (by omega) (by omega)
theorem i_rem {a b : Int32} (h1 : 0 ≤ a.toInt) (h2 : 0 < b.toInt) : (a - a / b * b).toInt = a.toInt % b.toInt := by
  have hd := i_div h1 h2
  have ha := i_hi a
  have h4 : 0 ≤ a.toInt / b.toInt := Int.ediv_nonneg h1 (by omega)
  have h6 : a.toInt / b.toInt * b.toInt + a.toInt % b.toInt = a.toInt := by rw [Int.mul_comm]; exact Int.mul_ediv_add_emod _ _
  have h7 := Int.emod_nonneg a.toInt (show b.toInt ≠ 0 by omega)
  have h8 : 0 ≤ a.toInt / b.toInt * b.toInt := Int.mul_nonneg h4 (by omega)
  have hm : (a / b * b).toInt = a.toInt / b.toInt * b.toInt := by
    rw [i_mul (by rw [hd]; omega) (by rw [hd]; omega), hd]
  rw [i_sub (by rw [hm]; omega) (by rw [hm]; omega), hm]
  omega
theorem i_le {a b : Int32} : a ≤ b ↔ a.toInt ≤ b.toInt := Int32.le_iff_toInt_le
theorem i_lt {a b : Int32} : a < b ↔ a.toInt < b.toInt := Int32.lt_iff_toInt_lt
theorem i_eq {a b : Int32} : a = b ↔ a.toInt = b.toInt := Int32.toInt_inj.symm
theorem i_clamp (a : Int32) : a.toNatClampNeg = a.toInt.toNat := rfl
theorem i_ofInt {z : Int} (h1 : -2147483648 ≤ z) (h2 : z ≤ 2147483647) : (Int32.ofInt z).toInt = z := by
  have hs : Int32.size = 4294967296 := rfl
  rw [Int32.toInt_ofInt, hs]; exact Int.bmod_eq_of_le (by omega) (by omega)
theorem zin_iff {x : Int32} {n : Nat} : zin x n = true ↔ 0 ≤ x.toInt ∧ x.toInt < n := by
  have h0 : (0 : Int32).toInt = 0 := by decide
  simp only [zin, Bool.and_eq_true, decide_eq_true_eq, i_le, i_clamp, h0]
  omega
theorem zck_t {α : Type} {b : Bool} {x : Option α} (h : b = true) : zck b x = x := by rw [h]; rfl
theorem zbn_e {α β : Type} {x : Option α} {a : α} {f : α → Option β} (h : x = some a) : zbn x f = f a := by rw [h]; rfl
theorem znm_e {α β : Type} (a : α) (f : α → β) : znm a f = f a := rfl
theorem zu_at {M : zM} {k j : Nat} {v : Int32} {q r : Nat} : zu M k j v q r = if q = k ∧ r = j then v else M q r := by
  unfold zu va_up upd
  by_cases h : q = k <;> by_cases h2 : r = j <;> simp [h, h2]
theorem zu_row {M : zM} {k j : Nat} {v : Int32} {q : Nat} (h : q ≠ k) : zu M k j v q = M q := by
  unfold zu va_up; simp [h]
theorem zu_self {M : zM} {k j : Nat} {v : Int32} : zu M k j v k = upd (M k) j v := by
  unfold zu va_up; simp
theorem upd_at {f : Nat → Int32} {j r : Nat} {v : Int32} : upd f j v r = if r = j then v else f r := rfl
