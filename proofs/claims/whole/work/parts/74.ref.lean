section
variable {N : zM}
theorem r_rangeOf (ok : zOk (N 1)) {t : Int32} : f_X11_rangeOf N t = some (sRange (N 1) t) := by
  have h6 := ok.c6
  have hn : ¬ N 1 6 = 0 := by rw [i_eq, i_lit0]; omega
  simp [f_X11_rangeOf, zck, zin, znm, hn, sRange, sAbs]
theorem r_stepOf (ok : zOk (N 1)) {t : Int32} : f_X11_stepOf N t = some (sStep (N 1) t) := by
  have h6 := ok.c5
  have hn : ¬ N 1 5 = 0 := by rw [i_eq, i_lit0]; omega
  simp [f_X11_stepOf, zck, zin, hn, sStep]
theorem r_waterBy (ok : zOk (N 1)) {x wd : Int32} : f_X11_waterBy N x wd = some (sWater (N 1) x wd) := by
  have h6 := ok.c5
  have hn : ¬ N 1 5 = 0 := by rw [i_eq, i_lit0]; omega
  simp [f_X11_waterBy, zbn_e (r_stepOf ok), zbn_e (r_rangeOf ok), zck, zin, znm, hn, sWater, sMax0, sAbs]
theorem r_waterIn (ok : zOk (N 1)) {x : Int32} : f_X11_waterIn N x = some (sWater (N 1) x (N 1 9)) := by
  simp [f_X11_waterIn, zck, zin, zbn_e (r_waterBy ok)]
theorem nI_lt_i {n b : Nat} (h : n < b) (hb : b < 2147483648) : zin (nI n) b = true := by
  rw [zin_iff, nI_toInt (by omega)]; omega
theorem nI_cl {n : Nat} (h : n < 2147483648) : (nI n).toNatClampNeg = n := nI_clamp h
theorem r_depthAt (ok : zOk (N 1)) {p : Nat} (hp : p < 12) {x : Int32} : f_X11_depthAt N (nI p) x = some (sDepth (N 1) p x) := by
  have he : 14 + nI p = nI (14 + p) := nI_add 14 p
  unfold f_X11_depthAt
  rw [zbn_e (r_waterIn ok), he, zck_t (nI_lt_i (by omega) (by omega)), nI_cl (by omega)]
  rfl
theorem r_depthNow (ok : zOk (N 1)) {p : Nat} (hp : p < 12) : f_X11_depthNow N (nI p) = some (sDepth (N 1) p (N 1 4)) := by
  unfold f_X11_depthNow
  rw [zck_t (by decide)]
  show zbn (f_X11_depthAt N (nI p) (N 1 4)) _ = _
  rw [zbn_e (r_depthAt ok hp)]
theorem r_printedOf {t : Nat} (ht : t < 12) : f_X11_printedOf N (nI t) = some (N 1 5 * nI t + N 1 10 + N 1 (26 + t)) := by
  have he : 26 + nI t = nI (26 + t) := nI_add 26 t
  unfold f_X11_printedOf
  rw [he, zck_t (by decide), zck_t (by decide), zck_t (nI_lt_i (by omega) (by omega)), nI_cl (by omega)]
  rfl
theorem r_of {m c : Nat} (hm : m < 6) (hc : c < 5) : f_X11_of N (nI m) (nI c) = some (N 1 (38 + 5 * m + c)) := by
  have he : 38 + 5 * nI m + nI c = nI (38 + 5 * m + c) := by rw [show (5 : Int32) = nI 5 from rfl, show (38 : Int32) = nI 38 from rfl, nI_mul, nI_add, nI_add]
  unfold f_X11_of f_X11_monkAt
  show zck (zin (38 + 5 * nI m + nI c) 2030) (some (N 1 (38 + 5 * nI m + nI c).toNatClampNeg)) = _
  rw [he, zck_t (nI_lt_i (by omega) (by omega)), nI_cl (by omega)]
theorem r_ofDuty {m c : Nat} (hm : m < 6) (hc : c < 4) : f_X11_ofDuty N (nI m) (nI c) = some (N 1 (68 + 4 * m + c)) := by
  have he : 68 + 4 * nI m + nI c = nI (68 + 4 * m + c) := by rw [show (4 : Int32) = nI 4 from rfl, show (68 : Int32) = nI 68 from rfl, nI_mul, nI_add, nI_add]
  unfold f_X11_ofDuty f_X11_dutyAt
  show zck (zin (68 + 4 * nI m + nI c) 2030) (some (N 1 (68 + 4 * nI m + nI c).toNatClampNeg)) = _
  rw [he, zck_t (nI_lt_i (by omega) (by omega)), nI_cl (by omega)]
theorem r_isDrowned {m : Nat} (hm : m < 6) : f_X11_isDrowned N (nI m) = some (if N 1 (42 + 5 * m) = 1 then 1 else 0) := by
  have he : 38 + 5 * m + 4 = 42 + 5 * m := by omega
  unfold f_X11_isDrowned
  rw [show (4 : Int32) = nI 4 from rfl, zbn_e (r_of hm (by omega)), he]
  split <;> rfl
theorem r_isKept {m : Nat} (hm : m < 6) : f_X11_isKept N (nI m) = some (if N 1 (71 + 4 * m) = 1 then 1 else 0) := by
  have he : 68 + 4 * m + 3 = 71 + 4 * m := by omega
  unfold f_X11_isKept
  rw [show (3 : Int32) = nI 3 from rfl, zbn_e (r_ofDuty hm (by omega)), he]
  split <;> rfl
theorem r_in {x a b : Int32} : f_X11_in N x a b = some (if a.toInt ≤ x.toInt ∧ x.toInt ≤ b.toInt then 1 else 0) := by
  unfold f_X11_in
  simp only [i_lt]
  by_cases h1 : x.toInt < a.toInt
  · rw [if_pos h1, if_neg (by omega)]
  · rw [if_neg h1]
    by_cases h2 : b.toInt < x.toInt
    · rw [if_pos h2, if_neg (by omega)]
    · rw [if_neg h2, if_pos (by omega)]
theorem r_monks : f_X11_monks N = some (N 1 0) := by simp [f_X11_monks, zck, zin]
theorem r_duties : f_X11_duties N = some (N 1 1) := by simp [f_X11_duties, zck, zin]
theorem r_no {x a b : Int32} : (zbn (f_X11_in N x a b) (fun u_1 => if u_1 = 0 then (some (1 : Int32)) else (some 0))) = some (if a.toInt ≤ x.toInt ∧ x.toInt ≤ b.toInt then 0 else 1) := by
  rw [zbn_e r_in]
  by_cases h : a.toInt ≤ x.toInt ∧ x.toInt ≤ b.toInt
  · rw [if_pos h, if_pos h]; rfl
  · rw [if_neg h, if_neg h]; rfl
theorem r_noMonk (ok : zOk (N 1)) {x : Int32} : f_X11_noMonk N x = some (if 0 ≤ x.toInt ∧ x.toInt < (N 1 0).toInt then 0 else 1) := by
  have h0 := ok.c0
  unfold f_X11_noMonk
  rw [zbn_e r_monks]
  show zbn _ _ = _
  rw [r_no, i_sub (by rw [i_lit1]; omega) (by rw [i_lit1]; omega), i_lit1, i_lit0]
  congr 1
  by_cases h : 0 ≤ x.toInt ∧ x.toInt < (N 1 0).toInt
  · rw [if_pos h, if_pos (by omega)]
  · rw [if_neg h, if_neg (by omega)]
theorem r_noDuty (ok : zOk (N 1)) {x : Int32} : f_X11_noDuty N x = some (if 0 ≤ x.toInt ∧ x.toInt < (N 1 1).toInt then 0 else 1) := by
  have h0 := ok.c1
  unfold f_X11_noDuty
  rw [zbn_e r_duties]
  show zbn _ _ = _
  rw [r_no, i_sub (by rw [i_lit1]; omega) (by rw [i_lit1]; omega), i_lit1, i_lit0]
  congr 1
  by_cases h : 0 ≤ x.toInt ∧ x.toInt < (N 1 1).toInt
  · rw [if_pos h, if_pos (by omega)]
  · rw [if_neg h, if_neg (by omega)]
theorem r_noPlace {x : Int32} : f_X11_noPlace N x = some (if 0 ≤ x.toInt ∧ x.toInt ≤ 11 then 0 else 1) := r_no
theorem r_noHour {x : Int32} : f_X11_noHour N x = some (if 0 ≤ x.toInt ∧ x.toInt ≤ 9999 then 0 else 1) := r_no
theorem r_noTide {x : Int32} : f_X11_noTide N x = some (if 0 ≤ x.toInt ∧ x.toInt ≤ 400 then 0 else 1) := r_no
theorem r_noEdition {x : Int32} : f_X11_noEdition N x = some (if -3 ≤ x.toInt ∧ x.toInt ≤ 3 then 0 else 1) := r_no
theorem r_thr {x c : Int32} (h : x = 0 ∨ x = 1) : f_X11_throwsIf N x c = some (x, if x = 0 then N else zu N 0 0 c) := by
  rcases h with rfl | rfl <;> rfl
theorem r_has (v : Int32) {m : Nat} (hm : m < 32) : f_X11_has N v (nI m) = some (if tb v m then 1 else 0) := by
  unfold f_X11_has
  simp only [has_tb1 v hm]
  split <;> rfl
end
