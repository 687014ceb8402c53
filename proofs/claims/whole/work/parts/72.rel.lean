def zlo (j : Nat) : Int := if j = 5 then 4 else if j = 6 then 2 else if j = 9 then -5 else if j = 10 then -3 else if j = 13 then -2147483648 else if 26 ≤ j ∧ j < 38 then -3 else 0
def zhi (j : Nat) : Int := if j < 14 then ([6, 6, 12, 1, 9999, 24, 28, 30, 30, 5, 3, 100, 60, 2147483647] : List Int).getD j 0 else if j < 26 then 19 else if j < 38 then 3 else if j < 68 then ([11, 11, 4, 9, 1] : List Int).getD ((j - 38) % 5) 0 else if j < 92 then ([11, 999, 999, 1] : List Int).getD ((j - 68) % 4) 0 else ([9999, 5, 1, 11] : List Int).getD ((j - 92) % 4) 0
def zOk (w : Nat → Int32) : Prop := (∀ j, j < 332 → zlo j ≤ (w j).toInt ∧ (w j).toInt ≤ zhi j) ∧ (w 7).toInt ≤ (w 8).toInt ∧ (∀ m : Nat, m < 6 → (w 0).toInt ≤ (m : Int) → w (42 + 5 * m) = 0) ∧ (∀ d : Nat, d < 6 → (w 1).toInt ≤ (d : Int) → w (71 + 4 * d) = 0)
section
variable {w : Nat → Int32}
theorem zOk.c0 (h : zOk w) : 0 ≤ (w 0).toInt ∧ (w 0).toInt ≤ 6 := h.1 0 (by decide)
theorem zOk.c1 (h : zOk w) : 0 ≤ (w 1).toInt ∧ (w 1).toInt ≤ 6 := h.1 1 (by decide)
theorem zOk.c2 (h : zOk w) : 0 ≤ (w 2).toInt ∧ (w 2).toInt ≤ 12 := h.1 2 (by decide)
theorem zOk.c3 (h : zOk w) : 0 ≤ (w 3).toInt ∧ (w 3).toInt ≤ 1 := h.1 3 (by decide)
theorem zOk.c4 (h : zOk w) : 0 ≤ (w 4).toInt ∧ (w 4).toInt ≤ 9999 := h.1 4 (by decide)
theorem zOk.c5 (h : zOk w) : 4 ≤ (w 5).toInt ∧ (w 5).toInt ≤ 24 := h.1 5 (by decide)
theorem zOk.c6 (h : zOk w) : 2 ≤ (w 6).toInt ∧ (w 6).toInt ≤ 28 := h.1 6 (by decide)
theorem zOk.c7 (h : zOk w) : 0 ≤ (w 7).toInt ∧ (w 7).toInt ≤ 30 := h.1 7 (by decide)
theorem zOk.c8 (h : zOk w) : 0 ≤ (w 8).toInt ∧ (w 8).toInt ≤ 30 := h.1 8 (by decide)
theorem zOk.c9 (h : zOk w) : -5 ≤ (w 9).toInt ∧ (w 9).toInt ≤ 5 := h.1 9 (by decide)
theorem zOk.c10 (h : zOk w) : -3 ≤ (w 10).toInt ∧ (w 10).toInt ≤ 3 := h.1 10 (by decide)
theorem zOk.c11 (h : zOk w) : 0 ≤ (w 11).toInt ∧ (w 11).toInt ≤ 100 := h.1 11 (by decide)
theorem zOk.c12 (h : zOk w) : 0 ≤ (w 12).toInt ∧ (w 12).toInt ≤ 60 := h.1 12 (by decide)
theorem zlo_g {p : Nat} (hp : p < 12) : zlo (14 + p) = 0 ∧ zhi (14 + p) = 19 := by
  have h : ∀ p, p < 12 → zlo (14 + p) = 0 ∧ zhi (14 + p) = 19 := by decide +kernel
  exact h p hp
theorem zlo_e {p : Nat} (hp : p < 12) : zlo (26 + p) = -3 ∧ zhi (26 + p) = 3 := by
  have h : ∀ p, p < 12 → zlo (26 + p) = -3 ∧ zhi (26 + p) = 3 := by decide +kernel
  exact h p hp
theorem zlo_m {m c : Nat} (hm : m < 6) (hc : c < 5) : zlo (38 + 5 * m + c) = 0 ∧ zhi (38 + 5 * m + c) = ([11, 11, 4, 9, 1] : List Int).getD c 0 := by
  have h : ∀ m, m < 6 → ∀ c, c < 5 → zlo (38 + 5 * m + c) = 0 ∧ zhi (38 + 5 * m + c) = ([11, 11, 4, 9, 1] : List Int).getD c 0 := by decide +kernel
  exact h m hm c hc
theorem zlo_d {m c : Nat} (hm : m < 6) (hc : c < 4) : zlo (68 + 4 * m + c) = 0 ∧ zhi (68 + 4 * m + c) = ([11, 999, 999, 1] : List Int).getD c 0 := by
  have h : ∀ m, m < 6 → ∀ c, c < 4 → zlo (68 + 4 * m + c) = 0 ∧ zhi (68 + 4 * m + c) = ([11, 999, 999, 1] : List Int).getD c 0 := by decide +kernel
  exact h m hm c hc
theorem zlo_l {m c : Nat} (hm : m < 60) (hc : c < 4) : zlo (92 + 4 * m + c) = 0 ∧ zhi (92 + 4 * m + c) = ([9999, 5, 1, 11] : List Int).getD c 0 := by
  have h : ∀ m, m < 60 → ∀ c, c < 4 → zlo (92 + 4 * m + c) = 0 ∧ zhi (92 + 4 * m + c) = ([9999, 5, 1, 11] : List Int).getD c 0 := by decide +kernel
  exact h m hm c hc
theorem zOk.g (h : zOk w) {p : Nat} (hp : p < 12) : 0 ≤ (w (14 + p)).toInt ∧ (w (14 + p)).toInt ≤ 19 := by
  have h1 := h.1 (14 + p) (by omega); rw [(zlo_g hp).1, (zlo_g hp).2] at h1; exact h1
theorem zOk.e (h : zOk w) {p : Nat} (hp : p < 12) : -3 ≤ (w (26 + p)).toInt ∧ (w (26 + p)).toInt ≤ 3 := by
  have h1 := h.1 (26 + p) (by omega); rw [(zlo_e hp).1, (zlo_e hp).2] at h1; exact h1
theorem zOk.m (h : zOk w) {m c : Nat} (hm : m < 6) (hc : c < 5) : 0 ≤ (w (38 + 5 * m + c)).toInt ∧ (w (38 + 5 * m + c)).toInt ≤ ([11, 11, 4, 9, 1] : List Int).getD c 0 := by
  have h1 := h.1 (38 + 5 * m + c) (by omega); rw [(zlo_m hm hc).1, (zlo_m hm hc).2] at h1; exact h1
theorem zOk.d (h : zOk w) {m c : Nat} (hm : m < 6) (hc : c < 4) : 0 ≤ (w (68 + 4 * m + c)).toInt ∧ (w (68 + 4 * m + c)).toInt ≤ ([11, 999, 999, 1] : List Int).getD c 0 := by
  have h1 := h.1 (68 + 4 * m + c) (by omega); rw [(zlo_d hm hc).1, (zlo_d hm hc).2] at h1; exact h1
theorem zOk.l (h : zOk w) {m c : Nat} (hm : m < 60) (hc : c < 4) : 0 ≤ (w (92 + 4 * m + c)).toInt ∧ (w (92 + 4 * m + c)).toInt ≤ ([9999, 5, 1, 11] : List Int).getD c 0 := by
  have h1 := h.1 (92 + 4 * m + c) (by omega); rw [(zlo_l hm hc).1, (zlo_l hm hc).2] at h1; exact h1
def sStep (w : Nat → Int32) (h : Int32) : Int32 := h - h / w 5 * w 5
def sAbs (x : Int32) : Int32 := if 0 ≤ x then x else 0 - x
def sRange (w : Nat → Int32) (t : Int32) : Int32 := w 7 + (w 8 - w 7) * sAbs (2 * (t - t / w 6 * w 6) - w 6) / w 6
def sMax0 (x : Int32) : Int32 := if 0 < x then x else 0
def sWater (w : Nat → Int32) (h wind : Int32) : Int32 := sMax0 (sRange w (h / w 5) * sAbs (2 * sStep w h - w 5) / w 5 + wind)
def sDepth (w : Nat → Int32) (p : Nat) (h : Int32) : Int32 := sMax0 (sWater w h (w 9) - w (14 + p))
theorem i_lit2 : (2 : Int32).toInt = 2 := by decide
theorem i_lit0 : (0 : Int32).toInt = 0 := by decide
theorem i_lit1 : (1 : Int32).toInt = 1 := by decide
theorem sAbs_i {x : Int32} (h : -2147483647 ≤ x.toInt) : (sAbs x).toInt = if 0 ≤ x.toInt then x.toInt else - x.toInt := by
  unfold sAbs
  have := i_hi x
  simp only [i_le, i_lit0]
  split
  · rfl
  · rw [i_sub (by rw [i_lit0]; omega) (by rw [i_lit0]; omega), i_lit0]; omega
theorem sMax0_i (x : Int32) : (sMax0 x).toInt = if 0 < x.toInt then x.toInt else 0 := by
  unfold sMax0
  simp only [i_lt, i_lit0]
  split <;> simp [i_lit0]
theorem sStep_i (h : zOk w) {x : Int32} (hx : 0 ≤ x.toInt) : (sStep w x).toInt = x.toInt % (w 5).toInt := i_rem hx (by have := h.c5; omega)
theorem i_far {z r : Int} (h0 : 0 < r) (hb : r ≤ 30) : 0 ≤ z % r ∧ z % r < r := ⟨Int.emod_nonneg _ (by omega), Int.emod_lt_of_pos _ h0⟩
theorem i_part {a b c : Int} (ha : 0 ≤ a) (hb : 0 ≤ b) (hbc : b ≤ c) (hc : 0 < c) : 0 ≤ a * b / c ∧ a * b / c ≤ a := by
  refine ⟨Int.ediv_nonneg (Int.mul_nonneg ha hb) (by omega), ?_⟩
  have h1 : a * b ≤ a * c := Int.mul_le_mul_of_nonneg_left hbc ha
  have h2 : a * c / c = a := Int.mul_ediv_cancel _ (by omega)
  have h3 : a * b / c ≤ a * c / c := Int.ediv_le_ediv hc h1
  omega
theorem i_mulb {a b : Int} (ha : 0 ≤ a) (ha2 : a ≤ 100) (hb : 0 ≤ b) (hb2 : b ≤ 100) : 0 ≤ a * b ∧ a * b ≤ 10000 := by
  refine ⟨Int.mul_nonneg ha hb, ?_⟩
  have h1 : a * b ≤ a * 100 := Int.mul_le_mul_of_nonneg_left hb2 ha
  omega
theorem sFar_i {r x : Int32} (hr : 2 ≤ r.toInt ∧ r.toInt ≤ 30) (hx : 0 ≤ x.toInt) : (sAbs (2 * (x - x / r * r) - r)).toInt = (if 0 ≤ 2 * (x.toInt % r.toInt) - r.toInt then 2 * (x.toInt % r.toInt) - r.toInt else -(2 * (x.toInt % r.toInt) - r.toInt)) ∧ 0 ≤ (sAbs (2 * (x - x / r * r) - r)).toInt ∧ (sAbs (2 * (x - x / r * r) - r)).toInt ≤ r.toInt := by
  have hm := i_rem hx (show 0 < r.toInt by omega)
  have hf := i_far (z := x.toInt) (show 0 < r.toInt by omega) (by omega)
  have h2 : (2 * (x - x / r * r)).toInt = 2 * (x.toInt % r.toInt) := by
    rw [i_mul (by rw [hm, i_lit2]; omega) (by rw [hm, i_lit2]; omega), hm, i_lit2]
  have h3 : (2 * (x - x / r * r) - r).toInt = 2 * (x.toInt % r.toInt) - r.toInt := by
    rw [i_sub (by rw [h2]; omega) (by rw [h2]; omega), h2]
  have h4 := sAbs_i (x := 2 * (x - x / r * r) - r) (by rw [h3]; omega)
  rw [h3] at h4
  refine ⟨h4, ?_, ?_⟩ <;> rw [h4] <;> split <;> omega
theorem sRange_i (h : zOk w) {t : Int32} (ht : 0 ≤ t.toInt) : (w 7).toInt ≤ (sRange w t).toInt ∧ (sRange w t).toInt ≤ (w 8).toInt := by
  obtain ⟨-, f1, f2⟩ := sFar_i (r := w 6) (x := t) (by have := h.c6; omega) ht
  unfold sRange
  have h7 := h.c7; have h8 := h.c8; have h78 := h.2.1; have h6 := h.c6
  generalize sAbs (2 * (t - t / w 6 * w 6) - w 6) = far at f1 f2
  have hs : (w 8 - w 7).toInt = (w 8).toInt - (w 7).toInt := i_sub (by omega) (by omega)
  have hb := i_mulb (a := (w 8).toInt - (w 7).toInt) (b := far.toInt) (by omega) (by omega) f1 (by omega)
  have hm : ((w 8 - w 7) * far).toInt = ((w 8).toInt - (w 7).toInt) * far.toInt := by rw [i_mul (by rw [hs]; omega) (by rw [hs]; omega), hs]
  have hd : ((w 8 - w 7) * far / w 6).toInt = ((w 8).toInt - (w 7).toInt) * far.toInt / (w 6).toInt := by rw [i_div (by rw [hm]; omega) (by omega), hm]
  have hp := i_part (a := (w 8).toInt - (w 7).toInt) (b := far.toInt) (c := (w 6).toInt) (by omega) f1 f2 (by omega)
  rw [i_add (by rw [hd]; omega) (by rw [hd]; omega), hd]
  omega
theorem sWater_i (h : zOk w) {x wind : Int32} (hx : 0 ≤ x.toInt) (hw : -5 ≤ wind.toInt ∧ wind.toInt ≤ 5) : 0 ≤ (sWater w x wind).toInt ∧ (sWater w x wind).toInt ≤ 35 := by
  obtain ⟨-, f1, f2⟩ := sFar_i (r := w 5) (x := x) (by have := h.c5; omega) hx
  have h5 := h.c5; have h7 := h.c7; have h8 := h.c8
  have hd : 0 ≤ (x / w 5).toInt := by rw [i_div hx (by omega)]; exact Int.ediv_nonneg hx (by omega)
  have hr := sRange_i h hd
  unfold sWater
  unfold sStep
  generalize sAbs (2 * (x - x / w 5 * w 5) - w 5) = far at f1 f2
  generalize sRange w (x / w 5) = rg at hr
  have hb := i_mulb (a := rg.toInt) (b := far.toInt) (by omega) (by omega) f1 (by omega)
  have hm : (rg * far).toInt = rg.toInt * far.toInt := i_mul (by omega) (by omega)
  have hd2 : (rg * far / w 5).toInt = rg.toInt * far.toInt / (w 5).toInt := by rw [i_div (by rw [hm]; omega) (by omega), hm]
  have hp := i_part (a := rg.toInt) (b := far.toInt) (c := (w 5).toInt) (by omega) f1 f2 (by omega)
  rw [sMax0_i, i_add (by rw [hd2]; omega) (by rw [hd2]; omega), hd2]
  split <;> omega
end
