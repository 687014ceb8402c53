def zpack (h n c p : Int32) : Int32 := ((h ||| (n <<< ((14 : Int32) &&& 31))) ||| (c <<< ((17 : Int32) &&& 31))) ||| (p <<< ((18 : Int32) &&& 31))
def zWr (T : Int) (M : zM) (k : Nat) (w : Nat → Int32) : Prop :=
  (M k 0 = w 4 ∧ M k 1 = w 9 ∧ M k 2 = w 13 ∧ M k 3 = w 10 ∧ M k 4 = w 11 ∧ M k 5 = w 5 ∧ M k 6 = w 6 ∧ M k 7 = w 7 ∧ M k 8 = w 8 ∧ M k 9 = w 2 ∧ M k 10 = w 0 ∧ M k 11 = w 1) ∧
  (zBt (M k 12) (fun m => w (42 + 5 * m)) 6 ∧ zBt (M k 13) (fun d => w (71 + 4 * d)) 6) ∧
  (0 ≤ (M k 14).toInt ∧ (M k 14).toInt ≤ T ∧ (w 12).toInt = min (M k 14).toInt 60) ∧
  (∀ p, p < 12 → M (k + 1) p = w (14 + p)) ∧ (∀ t, t < 12 → M (k + 2) t = w (26 + t)) ∧
  (∀ m, m < 6 → ∀ c, c < 4 → M (k + 3) (4 * m + c) = w (38 + 5 * m + c)) ∧
  (∀ d, d < 6 → ∀ c, c < 3 → M (k + 4) (3 * d + c) = w (68 + 4 * d + c)) ∧
  (∀ a : Nat, a < 60 → (a : Int) < (M k 14).toInt → M (k + 5) (((M k 14).toInt - 1 - a) % 60).toNat = zpack (w (92 + 4 * a)) (w (92 + 4 * a + 1)) (w (92 + 4 * a + 2)) (w (92 + 4 * a + 3)))
section
variable {T : Int} {M : zM} {k : Nat} {w : Nat → Int32}
theorem zWr.hour (h : zWr T M k w) : M k 0 = w 4 := h.1.1
theorem zWr.wind (h : zWr T M k w) : M k 1 = w 9 := h.1.2.1
theorem zWr.seed (h : zWr T M k w) : M k 2 = w 13 := h.1.2.2.1
theorem zWr.edition (h : zWr T M k w) : M k 3 = w 10 := h.1.2.2.2.1
theorem zWr.storm (h : zWr T M k w) : M k 4 = w 11 := h.1.2.2.2.2.1
theorem zWr.period (h : zWr T M k w) : M k 5 = w 5 := h.1.2.2.2.2.2.1
theorem zWr.round (h : zWr T M k w) : M k 6 = w 6 := h.1.2.2.2.2.2.2.1
theorem zWr.neap (h : zWr T M k w) : M k 7 = w 7 := h.1.2.2.2.2.2.2.2.1
theorem zWr.spring (h : zWr T M k w) : M k 8 = w 8 := h.1.2.2.2.2.2.2.2.2.1
theorem zWr.texts (h : zWr T M k w) : M k 9 = w 2 := h.1.2.2.2.2.2.2.2.2.2.1
theorem zWr.monks (h : zWr T M k w) : M k 10 = w 0 := h.1.2.2.2.2.2.2.2.2.2.2.1
theorem zWr.duties (h : zWr T M k w) : M k 11 = w 1 := h.1.2.2.2.2.2.2.2.2.2.2.2
theorem zWr.drowned (h : zWr T M k w) : zBt (M k 12) (fun m => w (42 + 5 * m)) 6 := h.2.1.1
theorem zWr.kept (h : zWr T M k w) : zBt (M k 13) (fun d => w (71 + 4 * d)) 6 := h.2.1.2
theorem zWr.logged (h : zWr T M k w) : 0 ≤ (M k 14).toInt ∧ (M k 14).toInt ≤ T ∧ (w 12).toInt = min (M k 14).toInt 60 := h.2.2.1
theorem zWr.g (h : zWr T M k w) {p : Nat} (hp : p < 12) : M (k + 1) p = w (14 + p) := h.2.2.2.1 p hp
theorem zWr.er (h : zWr T M k w) {p : Nat} (hp : p < 12) : M (k + 2) p = w (26 + p) := h.2.2.2.2.1 p hp
theorem zWr.mc (h : zWr T M k w) {m c : Nat} (hm : m < 6) (hc : c < 4) : M (k + 3) (4 * m + c) = w (38 + 5 * m + c) := h.2.2.2.2.2.1 m hm c hc
theorem zWr.dc (h : zWr T M k w) {m c : Nat} (hm : m < 6) (hc : c < 3) : M (k + 4) (3 * m + c) = w (68 + 4 * m + c) := h.2.2.2.2.2.2.1 m hm c hc
theorem zWr.lr (h : zWr T M k w) {a : Nat} (ha : a < 60) (hl : (a : Int) < (M k 14).toInt) : M (k + 5) (((M k 14).toInt - 1 - a) % 60).toNat = zpack (w (92 + 4 * a)) (w (92 + 4 * a + 1)) (w (92 + 4 * a + 2)) (w (92 + 4 * a + 3)) := h.2.2.2.2.2.2.2 a ha hl
theorem zWr.eq {M' : zM} (h : zWr T M k w) (h0 : M' k = M k) (h1 : M' (k + 1) = M (k + 1)) (h2 : M' (k + 2) = M (k + 2)) (h3 : M' (k + 3) = M (k + 3)) (h4 : M' (k + 4) = M (k + 4)) (h5 : M' (k + 5) = M (k + 5)) : zWr T M' k w := by
  unfold zWr
  rw [h0, h1, h2, h3, h4, h5]
  exact h
theorem zWr.more {T' : Int} (h : zWr T M k w) (hT : T ≤ T') : zWr T' M k w := ⟨h.1, h.2.1, ⟨h.2.2.1.1, Int.le_trans h.2.2.1.2.1 hT, h.2.2.1.2.2⟩, h.2.2.2⟩
theorem x_rangeOf (h : zWr T M k w) (ok : zOk w) {t : Int32} (ht : 0 ≤ t.toInt) : f_X9_rangeOf M k t = some (sRange w t) := by
  have h6 := ok.c6
  have hp : (0 : Int32) < w 6 := by rw [i_lt, i_lit0]; omega
  have hn : ¬ w 6 = 0 := by rw [i_eq, i_lit0]; omega
  have hm := i_rem ht (show 0 < (w 6).toInt by omega)
  have hf := i_far (z := t.toInt) (show 0 < (w 6).toInt by omega) (by omega)
  have h2 : (2 * (t - t / w 6 * w 6)).toInt = 2 * (t.toInt % (w 6).toInt) := by
    rw [i_mul (by rw [hm, i_lit2]; omega) (by rw [hm, i_lit2]; omega), hm, i_lit2]
  have ha : sAbs (2 * (t - t / w 6 * w 6) - w 6) = if 2 * (t - t / w 6 * w 6) ≤ w 6 then w 6 - 2 * (t - t / w 6 * w 6) else 2 * (t - t / w 6 * w 6) - w 6 := by
    generalize 2 * (t - t / w 6 * w 6) = z at h2
    have hs : (z - w 6).toInt = z.toInt - (w 6).toInt := i_sub (by omega) (by omega)
    have hs2 : (w 6 - z).toInt = (w 6).toInt - z.toInt := i_sub (by omega) (by omega)
    rw [i_eq, sAbs_i (by omega), hs]
    simp only [i_le]
    split <;> split <;> omega
  unfold f_X9_rangeOf b_X9_rangeOf_48 sRange
  rw [h.round, h.neap, h.spring, ha]
  simp only [hp, if_true, zck_t (show decide (¬ w 6 = 0) = true by simp [hn]), znm]
  split <;> rfl
theorem x_waterWith (h : zWr T M k w) (ok : zOk w) {x wd : Int32} (hx : 0 ≤ x.toInt) : f_X9_waterWith M k x wd = some (sWater w x wd) := by
  have h5 := ok.c5
  have hp : (0 : Int32) < w 5 := by rw [i_lt, i_lit0]; omega
  have hn : ¬ w 5 = 0 := by rw [i_eq, i_lit0]; omega
  have hd : 0 ≤ (x / w 5).toInt := by rw [i_div hx (by omega)]; exact Int.ediv_nonneg hx (by omega)
  unfold f_X9_waterWith
  rw [h.period]
  simp only [hp, if_true, zck_t (show decide (¬ w 5 = 0) = true by simp [hn]), znm, zbn_e (x_rangeOf h ok hd)]
  rfl
theorem x_waterIn (h : zWr T M k w) (ok : zOk w) {x : Int32} (hx : 0 ≤ x.toInt) : f_X9_waterIn M k x = some (sWater w x (w 9)) := by
  unfold f_X9_waterIn
  rw [h.wind, zbn_e (x_waterWith h ok hx)]
theorem x_stepOf (h : zWr T M k w) (ok : zOk w) {x : Int32} : f_X9_stepOf M k x = some (sStep w x) := by
  have h5 := ok.c5
  have hp : ¬ w 5 ≤ 0 := by rw [i_le, i_lit0]; omega
  have hn : ¬ w 5 = 0 := by rw [i_eq, i_lit0]; omega
  unfold f_X9_stepOf
  rw [h.period]
  simp only [hp, if_false, zck_t (show decide (¬ w 5 = 0) = true by simp [hn])]
  rfl
theorem i_nI {n : Nat} (h : n < 2147483648) : (nI n).toInt = n := nI_toInt h
theorem x_depthBy (h : zWr T M k w) (ok : zOk w) {wt : Int32} (hw : 0 ≤ wt.toInt ∧ wt.toInt ≤ 100) {p : Nat} (hp : p < 12) : f_X9_depthBy M k wt (nI p) = some (sMax0 (wt - w (14 + p))) := by
  have hi := i_nI (n := p) (by omega)
  have hg := ok.g hp
  have h1 : ¬ nI p < 0 := by rw [i_lt, hi, i_lit0]; omega
  have h2 : ¬ (12 : Int32) ≤ nI p := by rw [i_le, hi]; show ¬ (12 : Int) ≤ _; omega
  have h3 : zin (nI p) 12 = true := by rw [zin_iff, hi]; omega
  unfold f_X9_depthBy b_X9_depthBy_23
  simp only [h1, h2, if_false, zck_t h3, i_clamp, hi, Int.toNat_natCast, h.g hp]
  have hs : (wt - w (14 + p)).toInt = wt.toInt - (w (14 + p)).toInt := i_sub (by omega) (by omega)
  unfold sMax0
  simp only [i_le, i_lt, hs, i_lit0]
  split <;> split <;> first | rfl | omega
theorem x_at {o n : Nat} (hx : xl o = n) (hn : n < 1000000) {j : Nat} (hj : j < n) : f_X10_at M o (nI j) = some (M o j) := by
  have hi := i_nI (n := j) (by omega)
  have h1 : ¬ nI j < 0 := by rw [i_lt, hi, i_lit0]; omega
  have h2 : ¬ Int32.ofNat (xl o) ≤ nI j := by rw [hx, i_le, hi, show (Int32.ofNat n).toInt = n from i_nI (by omega)]; omega
  have h3 : zin (nI j) (xl o) = true := by rw [zin_iff, hi, hx]; omega
  unfold f_X10_at
  simp only [h1, h2, if_false, zck_t h3, i_clamp, hi, Int.toNat_natCast]
theorem x_put {o n : Nat} (hx : xl o = n) (hn : n < 1000000) {j : Nat} (hj : j < n) {v : Int32} : f_X10_put M o (nI j) v = some (zu M o j v) := by
  have hi := i_nI (n := j) (by omega)
  have h1 : ¬ nI j < 0 := by rw [i_lt, hi, i_lit0]; omega
  have h2 : ¬ Int32.ofNat (xl o) ≤ nI j := by rw [hx, i_le, hi, show (Int32.ofNat n).toInt = n from i_nI (by omega)]; omega
  have h3 : zin (nI j) (xl o) = true := by rw [zin_iff, hi, hx]; omega
  unfold f_X10_put
  simp only [h1, h2, if_false, zck_t h3, i_clamp, hi, Int.toNat_natCast, znm]
theorem nI_mul (a b : Nat) : nI a * nI b = nI (a * b) := (Int32.ofNat_mul a b).symm
theorem x_monkCell (h : zWr T M k w) {m c : Nat} (hm : m < 6) (hc : c < 4) : f_X9_monkCell M k (nI m) (nI c) = some (w (38 + 5 * m + c)) := by
  have he : nI m * 4 + nI c = nI (4 * m + c) := by rw [show (4 : Int32) = nI 4 from rfl, nI_mul, nI_add, Nat.mul_comm]
  have hi := i_nI (n := 4 * m + c) (by omega)
  have h1 : ¬ nI (4 * m + c) < 0 := by rw [i_lt, hi, i_lit0]; omega
  have h2 : ¬ (24 : Int32) ≤ nI (4 * m + c) := by rw [i_le, hi]; show ¬ (24 : Int) ≤ _; omega
  have h3 : zin (nI (4 * m + c)) 24 = true := by rw [zin_iff, hi]; omega
  unfold f_X9_monkCell
  simp only [he, znm, h1, h2, if_false, zck_t h3, i_clamp, hi, Int.toNat_natCast, h.mc hm hc]
theorem x_dutyCell (hk : xl (k + 4) = 18) (h : zWr T M k w) {m c : Nat} (hm : m < 6) (hc : c < 3) : f_X9_dutyCell M k (nI m) (nI c) = some (w (68 + 4 * m + c)) := by
  have he : nI m * 3 + nI c = nI (3 * m + c) := by rw [show (3 : Int32) = nI 3 from rfl, nI_mul, nI_add, Nat.mul_comm]
  unfold f_X9_dutyCell
  rw [he, zbn_e (x_at hk (by omega) (show 3 * m + c < 18 by omega)), h.dc hm hc]
theorem x_printedBy (hk : xl (k + 2) = 12) (h : zWr T M k w) {e : Int32} {t : Nat} (ht : t < 12) : f_X9_printedBy M k e (nI t) = some (w 5 * nI t + e + w (26 + t)) := by
  unfold f_X9_printedBy
  rw [zbn_e (x_at hk (by omega) ht), h.er ht, h.period]
end
