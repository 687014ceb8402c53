theorem g_in {x a b : Int32} {M : zM} (h : a.toInt ≤ x.toInt ∧ x.toInt ≤ b.toInt) : f_X10_needWithin M x a b = some (M, .inr 0) := by rw [g_within, if_pos h]
theorem g_out {x a b : Int32} {M : zM} (h : ¬ (a.toInt ≤ x.toInt ∧ x.toInt ≤ b.toInt)) : f_X10_needWithin M x a b = some (M, .inl 1) := by rw [g_within, if_neg h]
theorem n10 : ¬ (1 : Int32) = 0 := by decide
theorem nI1 : nI 1 = 1 := rfl
theorem nI_p1 (i : Nat) : nI i + 1 = nI (i + 1) := nI_add i 1
theorem nI_12 {i : Nat} (h : i < 2147483648) : (12 : Int32) ≤ nI i ↔ 12 ≤ i := nI_leN (a := 12) (by omega) h
section
variable {t : Nat} {M N : zM}
theorem zw0 {c : Int32} {j : Nat} : zu N 0 0 c 1 j = N 1 j := by rw [zu00_1]
theorem neaps_loop (h : zRel t M N) : ∀ (d i n m : Nat) (v : Int32), i + d = 12 → d < n → d < m → ∃ v', b_X10_neaps_4 M n v (nI i) = some v' ∧ b_X11_neaps_9 (zu N 0 0 0) m v (nI i) = some (v', zu N 0 0 0) := by
  intro d
  induction d with
  | zero =>
    intro i n m v hi hn hm
    obtain ⟨n, rfl⟩ : ∃ k, n = k + 1 := ⟨n - 1, by omega⟩
    obtain ⟨m, rfl⟩ : ∃ k, m = k + 1 := ⟨m - 1, by omega⟩
    refine ⟨v, ?_, ?_⟩
    · simp [b_X10_neaps_4, nI_12 (i := i) (by omega), show 12 ≤ i by omega]
    · simp [b_X11_neaps_9, nI_12 (i := i) (by omega), show 12 ≤ i by omega]
  | succ d ih =>
    intro i n m v hi hn hm
    obtain ⟨n, rfl⟩ : ∃ k, n = k + 1 := ⟨n - 1, by omega⟩
    obtain ⟨m, rfl⟩ : ∃ k, m = k + 1 := ⟨m - 1, by omega⟩
    have hp : 0 ≤ (nI i).toInt := by rw [i_nI (by omega)]; omega
    have h12 : ¬ 12 ≤ i := by omega
    by_cases q : sRange (N 1) (nI i) = N 1 7
    · obtain ⟨v', a, b⟩ := ih (i + 1) n m (v ||| ((1 : Int32) <<< (nI i &&& 31))) (by omega) (by omega) (by omega)
      refine ⟨v', ?_, ?_⟩
      · simp [b_X10_neaps_4, b_X10_neaps_34, nI_12 (i := i) (by omega), h12, x_rangeOf h.w h.ok hp, zbn_s, h.w.neap, q, znm_e, nI_p1, a]
      · simp [b_X11_neaps_9, b_X11_neaps_38, nI_12 (i := i) (by omega), h12, r_rangeOf (ok0 h.ok), zbn_s, zw0, zu00_1, zck, zin, q, znm_e, nI_p1, b]
    · obtain ⟨v', a, b⟩ := ih (i + 1) n m v (by omega) (by omega) (by omega)
      refine ⟨v', ?_, ?_⟩
      · simp [b_X10_neaps_4, b_X10_neaps_34, nI_12 (i := i) (by omega), h12, x_rangeOf h.w h.ok hp, zbn_s, h.w.neap, q, znm_e, nI_p1, a]
      · simp [b_X11_neaps_9, b_X11_neaps_38, nI_12 (i := i) (by omega), h12, r_rangeOf (ok0 h.ok), zbn_s, zw0, zu00_1, zck, zin, q, znm_e, nI_p1, or_0, b]
theorem s_neaps (t : Nat) : zs_neaps (zRel t) (zRel (t + 1)) := by
  intro M N h
  obtain ⟨v', a, b⟩ := neaps_loop h 12 0 6000 6000 0 (by omega) (by omega) (by omega)
  exact ⟨v', zu N 0 0 0, by rw [f_X10_neaps]; exact a, by rw [f_X11_neaps, znm_e]; exact b, (h.thr 0).more⟩
theorem blank_loop (h : zRel t M N) : ∀ (d i n m : Nat), i + d = 12 → 1 ≤ i → d < n → d < m → ∃ v', b_X10_blank_2 M n (nI i) = some v' ∧ b_X11_blank_7 (zu N 0 0 0) m (nI i) = some (v', zu N 0 0 0) := by
  intro d
  induction d with
  | zero =>
    intro i n m hi h1 hn hm
    obtain ⟨n, rfl⟩ : ∃ k, n = k + 1 := ⟨n - 1, by omega⟩
    obtain ⟨m, rfl⟩ : ∃ k, m = k + 1 := ⟨m - 1, by omega⟩
    refine ⟨-1, ?_, ?_⟩
    · simp [b_X10_blank_2, nI_12 (i := i) (by omega), show 12 ≤ i by omega]
    · simp [b_X11_blank_7, nI_12 (i := i) (by omega), show 12 ≤ i by omega]
  | succ d ih =>
    intro i n m hi h1 hn hm
    obtain ⟨n, rfl⟩ : ∃ k, n = k + 1 := ⟨n - 1, by omega⟩
    obtain ⟨m, rfl⟩ : ∃ k, m = k + 1 := ⟨m - 1, by omega⟩
    obtain ⟨j, rfl⟩ : ∃ j, i = j + 1 := ⟨i - 1, by omega⟩
    have hj : nI (j + 1) - 1 = nI j := by rw [← nI_p1]; exact Int32.add_sub_cancel _ _
    have h12 : ¬ 12 ≤ j + 1 := by omega
    obtain ⟨v', a, b⟩ := ih (j + 1 + 1) n m (by omega) (by omega) (by omega) (by omega)
    by_cases q : N 1 5 * nI j + N 1 10 + N 1 (26 + j) < N 1 5 * nI (j + 1) + N 1 10 + N 1 (26 + (j + 1))
    · refine ⟨v', ?_, ?_⟩
      · simp only [b_X10_blank_2, nI_12 (i := j + 1) (by omega), h12, if_false, hj, x_printedBy (k := 3) rfl h.w (show j < 12 by omega), x_printedBy (k := 3) rfl h.w (show j + 1 < 12 by omega), h.w.edition, zbn_s, q, if_true, znm_e, nI_p1, a]
      · simp only [b_X11_blank_7, nI_12 (i := j + 1) (by omega), h12, if_false, hj, r_printedOf (show j < 12 by omega), r_printedOf (show j + 1 < 12 by omega), zbn_s, zw0, q, if_true, znm_e, nI_p1, b]
    · refine ⟨nI (j + 1), ?_, ?_⟩
      · simp only [b_X10_blank_2, nI_12 (i := j + 1) (by omega), h12, if_false, hj, x_printedBy (k := 3) rfl h.w (show j < 12 by omega), x_printedBy (k := 3) rfl h.w (show j + 1 < 12 by omega), h.w.edition, zbn_s, q]
      · simp only [b_X11_blank_7, nI_12 (i := j + 1) (by omega), h12, if_false, hj, r_printedOf (show j < 12 by omega), r_printedOf (show j + 1 < 12 by omega), zbn_s, zw0, q]
theorem s_blank (t : Nat) : zs_blank (zRel t) (zRel (t + 1)) := by
  intro M N h
  obtain ⟨v', a, b⟩ := blank_loop h 11 1 6000 6000 (by omega) (by omega) (by omega) (by omega)
  rw [nI1] at a b
  exact ⟨v', zu N 0 0 0, by rw [f_X10_blank]; exact a, by rw [f_X11_blank, znm_e]; exact b, (h.thr 0).more⟩
theorem lost_loop (h : zRel t M N) {D : Nat} (hD : N 1 1 = nI D) (hD6 : D ≤ 6) : ∀ (d i n m : Nat) (v : Int32), i + d = D → d < n → d < m → ∃ v', b_X10_lost_4 M n v (nI i) = some v' ∧ b_X11_lost_9 (zu N 0 0 0) m v (nI i) = some (v', zu N 0 0 0) := by
  intro d
  induction d with
  | zero =>
    intro i n m v hi hn hm
    obtain ⟨n, rfl⟩ : ∃ k, n = k + 1 := ⟨n - 1, by omega⟩
    obtain ⟨m, rfl⟩ : ∃ k, m = k + 1 := ⟨m - 1, by omega⟩
    have e : i = D := by omega
    subst e
    refine ⟨v, ?_, ?_⟩
    · simp [b_X10_lost_4, h.w.duties, hD]
    · simp [b_X11_lost_9, r_duties, zw0, hD, zbn_s]
  | succ d ih =>
    intro i n m v hi hn hm
    obtain ⟨n, rfl⟩ : ∃ k, n = k + 1 := ⟨n - 1, by omega⟩
    obtain ⟨m, rfl⟩ : ∃ k, m = k + 1 := ⟨m - 1, by omega⟩
    have hi6 : i < 6 := by omega
    have hle : ¬ nI D ≤ nI i := by rw [nI_leN (by omega) (by omega)]; omega
    have hx : f_X9_dutyCell M 3 (nI i) 2 = some (N 1 (68 + 4 * i + 2)) := x_dutyCell rfl h.w hi6 (c := 2) (by omega)
    have hr : f_X11_ofDuty (zu N 0 0 0) (nI i) 2 = some (N 1 (68 + 4 * i + 2)) := by have z := r_ofDuty (N := zu N 0 0 0) hi6 (c := 2) (by omega); rw [zw0] at z; exact z
    have hk : f_X11_isKept (zu N 0 0 0) (nI i) = some (N 1 (71 + 4 * i)) := by have z := r_isKept' (N := zu N 0 0 0) (ok0 h.ok) hi6; rw [zw0] at z; exact z
    have hy : (zu N 0 0 0 1 (4 : Int32).toNatClampNeg) = N 1 4 := zw0
    obtain ⟨v1, a1, b1⟩ := ih (i + 1) n m v (by omega) (by omega) (by omega)
    obtain ⟨v2, a2, b2⟩ := ih (i + 1) n m (v ||| ((1 : Int32) <<< (nI i &&& 31))) (by omega) (by omega) (by omega)
    rcases h.ok.k01 hi6 with q | q
    · by_cases q2 : N 1 4 ≤ N 1 (68 + 4 * i + 2)
      · refine ⟨v1, ?_, ?_⟩
        · simp only [b_X10_lost_4, b_X10_lost_51, h.w.duties, hD, hle, if_false, x_isKept h.w h.ok hi6, q, zbn_s, if_true, hx, h.w.hour, q2, znm_e, nI_p1, a1]
        · simp only [b_X11_lost_9, b_X11_lost_47, b_X11_lost_48, r_duties, zw0, hD, zbn_s, hle, if_false, hk, q, if_true, hr, zck_t (show zin 4 2030 = true by decide), hy, q2, znm_e, or_0, nI_p1, b1]
      · refine ⟨v2, ?_, ?_⟩
        · simp only [b_X10_lost_4, b_X10_lost_51, h.w.duties, hD, hle, if_false, x_isKept h.w h.ok hi6, q, zbn_s, if_true, hx, h.w.hour, q2, znm_e, nI_p1, a2]
        · simp only [b_X11_lost_9, b_X11_lost_47, b_X11_lost_48, r_duties, zw0, hD, zbn_s, hle, if_false, hk, q, if_true, hr, zck_t (show zin 4 2030 = true by decide), hy, q2, znm_e, nI_p1, b2]
    · have q' : ¬ N 1 (71 + 4 * i) = 0 := by rw [q]; decide
      refine ⟨v1, ?_, ?_⟩
      · simp only [b_X10_lost_4, b_X10_lost_51, h.w.duties, hD, hle, if_false, x_isKept h.w h.ok hi6, q', zbn_s, znm_e, nI_p1, a1]
      · simp only [b_X11_lost_9, b_X11_lost_47, b_X11_lost_48, r_duties, zw0, hD, zbn_s, hle, if_false, hk, q', znm_e, or_0, nI_p1, b1]
theorem s_lost (t : Nat) : zs_lost (zRel t) (zRel (t + 1)) := by
  intro M N h
  obtain ⟨D, e1, e2⟩ := nI_get (x := N 1 1) h.ok.c1.1
  have hD := h.ok.c1
  obtain ⟨v', a, b⟩ := lost_loop h e2 (by omega) D 0 6000 6000 0 (by omega) (by omega) (by omega)
  exact ⟨v', zu N 0 0 0, by rw [f_X10_lost]; exact a, by rw [f_X11_lost, znm_e]; exact b, (h.thr 0).more⟩
theorem highest_loop (h : zRel t M N) {x1 : Int32} (hx : 0 ≤ x1.toInt ∧ x1.toInt ≤ 400) {R : Nat} (hR : N 1 6 = nI R) (hR6 : R ≤ 28) : ∀ (d i n m : Nat) (v : Int32), i + d = R → d < n → d < m → 0 ≤ v.toInt → ∃ v', b_X10_highest_13 M x1 n v (nI i) = some (M, .inr v') ∧ b_X11_highest_23 (zu N 0 0 0) x1 m v (nI i) = some (v', zu N 0 0 0) := by
  intro d
  induction d with
  | zero =>
    intro i n m v hi hn hm hv
    obtain ⟨n, rfl⟩ : ∃ k, n = k + 1 := ⟨n - 1, by omega⟩
    obtain ⟨m, rfl⟩ : ∃ k, m = k + 1 := ⟨m - 1, by omega⟩
    have e : i = R := by omega
    subst e
    have hy : (zu N 0 0 0 1 (6 : Int32).toNatClampNeg) = N 1 6 := zw0
    refine ⟨v, ?_, ?_⟩
    · simp [b_X10_highest_13, h.w.round, hR]
    · rw [b_X11_highest_23, zck_t (by decide), hy, hR, if_pos (by rw [i_le]; omega)]
  | succ d ih =>
    intro i n m v hi hn hm hv
    obtain ⟨n, rfl⟩ : ∃ k, n = k + 1 := ⟨n - 1, by omega⟩
    obtain ⟨m, rfl⟩ : ∃ k, m = k + 1 := ⟨m - 1, by omega⟩
    have hle : ¬ nI R ≤ nI i := by rw [nI_leN (by omega) (by omega)]; omega
    have hy : (zu N 0 0 0 1 (6 : Int32).toNatClampNeg) = N 1 6 := zw0
    have hs : 0 ≤ (x1 + nI i).toInt := by
      have := i_nI (n := i) (by omega)
      rw [i_add (by omega) (by omega)]; omega
    obtain ⟨v1, a1, b1⟩ := ih (i + 1) n m v (by omega) (by omega) (by omega) hv
    obtain ⟨v2, a2, b2⟩ := ih (i + 1) n m (x1 + nI i) (by omega) (by omega) (by omega) hs
    by_cases q : sRange (N 1) (x1 + nI i) ≤ sRange (N 1) v
    · refine ⟨v1, ?_, ?_⟩
      · simp only [b_X10_highest_13, b_X10_highest_49, h.w.round, hR, hle, if_false, x_rangeOf h.w h.ok hs, x_rangeOf h.w h.ok hv, zbn_s, q, if_true, znm_e, nI_p1, a1]
      · simp only [b_X11_highest_23, b_X11_highest_56, zck_t (show zin 6 2030 = true by decide), hy, hR, hle, if_false, r_rangeOf (ok0 h.ok), zbn_s, zu00_1, q, if_true, znm_e, nI_p1, b1]
    · refine ⟨v2, ?_, ?_⟩
      · simp only [b_X10_highest_13, b_X10_highest_49, h.w.round, hR, hle, if_false, x_rangeOf h.w h.ok hs, x_rangeOf h.w h.ok hv, zbn_s, q, znm_e, nI_p1, a2]
      · simp only [b_X11_highest_23, b_X11_highest_56, zck_t (show zin 6 2030 = true by decide), hy, hR, hle, if_false, r_rangeOf (ok0 h.ok), zbn_s, zu00_1, q, znm_e, nI_p1, b2]
theorem s_highest (t : Nat) : zs_highest (zRel t) (zRel (t + 1)) := by
  intro M N h x1
  by_cases hp : 0 ≤ x1.toInt ∧ x1.toInt ≤ 400
  · obtain ⟨R, e1, e2⟩ := nI_get (x := N 1 6) (by have := h.ok.c6; omega)
    have hR := h.ok.c6
    obtain ⟨v', a, b⟩ := highest_loop h hp e2 (by omega) (R - 1) 1 6000 6000 x1 (by omega) (by omega) (by omega) hp.1
    rw [nI1] at a b
    refine zsT_ok (M1 := M) (b := v') (N1 := zu N 0 0 0) ?_ ?_ zu00_c (h.thr 0).more
    · rw [f_X10_highest, g_in (by exact hp), zbt_i, a]
    · rw [f_X11_highest, znm_e, r_noTide, if_pos hp, zbn_s, r_thr0, zbn_s, if_pos rfl, b]
  · refine zsT_ex (M1 := M) (k := 1) (b := 0) (N1 := zu N 0 0 1) ?_ ?_ rfl zu00_c (h.thr 1).more
    · rw [f_X10_highest, g_out (by exact hp), zbt_x]
    · rw [f_X11_highest, znm_e, r_noTide, if_neg hp, zbn_s, r_thr1, zbn_s, if_neg n10, zu00_00]
theorem low_loop (h : zRel t M N) {x1 : Int32} {X P : Nat} (hX : x1 = nI X) (hX4 : X ≤ 400) (hP : N 1 5 = nI P) (hP6 : P ≤ 24) : ∀ (d i n m : Nat) (v : Int32), i + d = P → d < n → d < m → 0 ≤ v.toInt → ∃ v', b_X10_low_21 M x1 n v (nI i) = some (M, .inr v') ∧ b_X11_low_33 (zu N 0 0 0) (nI (X * P)) m v (nI i) = some (v', zu N 0 0 0) := by
  intro d
  have hXP : X * P ≤ 400 * 24 := Nat.mul_le_mul hX4 hP6
  induction d with
  | zero =>
    intro i n m v hi hn hm hv
    obtain ⟨n, rfl⟩ : ∃ k, n = k + 1 := ⟨n - 1, by omega⟩
    obtain ⟨m, rfl⟩ : ∃ k, m = k + 1 := ⟨m - 1, by omega⟩
    have e : i = P := by omega
    subst e
    have hy : (zu N 0 0 0 1 (5 : Int32).toNatClampNeg) = N 1 5 := zw0
    refine ⟨v, ?_, ?_⟩
    · simp [b_X10_low_21, h.w.period, hP]
    · rw [b_X11_low_33, zck_t (by decide), hy, hP, if_pos (by rw [i_le]; omega)]
  | succ d ih =>
    intro i n m v hi hn hm hv
    obtain ⟨n, rfl⟩ : ∃ k, n = k + 1 := ⟨n - 1, by omega⟩
    obtain ⟨m, rfl⟩ : ∃ k, m = k + 1 := ⟨m - 1, by omega⟩
    have hle : ¬ nI P ≤ nI i := by rw [nI_leN (by omega) (by omega)]; omega
    have hy : (zu N 0 0 0 1 (5 : Int32).toNatClampNeg) = N 1 5 := zw0
    have hs : 0 ≤ (nI (X * P + i)).toInt := by rw [i_nI (by omega)]; omega
    have he : x1 * N 1 5 + nI i = nI (X * P + i) := by rw [hX, hP, nI_mul, nI_add]
    obtain ⟨v1, a1, b1⟩ := ih (i + 1) n m v (by omega) (by omega) (by omega) hv
    obtain ⟨v2, a2, b2⟩ := ih (i + 1) n m (nI (X * P + i)) (by omega) (by omega) (by omega) hs
    by_cases q : sWater (N 1) v (N 1 9) ≤ sWater (N 1) (nI (X * P + i)) (N 1 9)
    · refine ⟨v1, ?_, ?_⟩
      · simp only [b_X10_low_21, b_X10_low_68, h.w.period, he, znm_e, x_waterIn h.w h.ok hs, x_waterIn h.w h.ok hv, zbn_s, q, if_true, nI_p1, a1]
        simp only [hP, hle, if_false]
      · simp only [b_X11_low_33, b_X11_low_68, zck_t (show zin 5 2030 = true by decide), hy, hP, hle, if_false, nI_add, r_waterIn (ok0 h.ok), zbn_s, zu00_1, q, if_true, znm_e, nI_p1, b1]
    · refine ⟨v2, ?_, ?_⟩
      · simp only [b_X10_low_21, b_X10_low_68, h.w.period, he, znm_e, x_waterIn h.w h.ok hs, x_waterIn h.w h.ok hv, zbn_s, q, nI_p1, if_false, a2]
        simp only [hP, hle, if_false]
      · simp only [b_X11_low_33, b_X11_low_68, zck_t (show zin 5 2030 = true by decide), hy, hP, hle, if_false, nI_add, r_waterIn (ok0 h.ok), zbn_s, zu00_1, q, znm_e, nI_p1, b2]
theorem low_x {x1 v : Int32} {F : Nat} (hp : 0 ≤ x1.toInt ∧ x1.toInt ≤ 400) (a : b_X10_low_21 M x1 F (x1 * M 3 5) 1 = some (M, .inr v)) (hF : ∀ M1 : zM, ∀ v1, b_X10_low_21 M1 x1 6000 v1 1 = b_X10_low_21 M1 x1 F v1 1) : f_X10_low M x1 = some (M, .inr v) := by
  rw [f_X10_low, g_in (by exact hp), zbt_i, znm_e, hF, a]
theorem low_r {x1 v : Int32} {F : Nat} (hp : 0 ≤ x1.toInt ∧ x1.toInt ≤ 400) (a : b_X11_low_33 (zu N 0 0 0) (N 1 5 * x1) F (N 1 5 * x1) 1 = some (v, zu N 0 0 0)) (hF : ∀ N1 : zM, ∀ y v1, b_X11_low_33 N1 y 6000 v1 1 = b_X11_low_33 N1 y F v1 1) : f_X11_low N x1 = some (v, zu N 0 0 0) := by
  have hy : (zu N 0 0 0 1 (5 : Int32).toNatClampNeg) = N 1 5 := zw0
  rw [f_X11_low, znm_e, r_noTide, if_pos hp, zbn_s, r_thr0, zbn_s, if_pos rfl, zck_t (by decide), znm_e]
  show b_X11_low_33 (zu N 0 0 0) (zu N 0 0 0 1 (5 : Int32).toNatClampNeg * x1) 6000 (zu N 0 0 0 1 (5 : Int32).toNatClampNeg * x1) 1 = _
  rw [hF, hy, a]
theorem s_low (t : Nat) : zs_low (zRel t) (zRel (t + 1)) := by
  intro M N h x1
  by_cases hp : 0 ≤ x1.toInt ∧ x1.toInt ≤ 400
  · obtain ⟨P, e1, e2⟩ := nI_get (x := N 1 5) (by have := h.ok.c5; omega)
    obtain ⟨X, f1, f2⟩ := nI_get (x := x1) hp.1
    have hR := h.ok.c5
    have ha : x1 * M 3 5 = nI (X * P) := by rw [h.w.period, f2, e2, nI_mul]
    have hb : N 1 5 * x1 = nI (X * P) := by rw [f2, e2, nI_mul, Nat.mul_comm]
    have hXP : X * P ≤ 400 * 24 := Nat.mul_le_mul (by omega) (by omega)
    obtain ⟨F, hF⟩ : ∃ F, F = 6000 := ⟨_, rfl⟩
    obtain ⟨v', a, b⟩ := low_loop h f2 (by omega) e2 (by omega) (P - 1) 1 F F (nI (X * P)) (by omega) (by omega) (by omega) (by rw [i_nI (by omega)]; omega)
    rw [nI1] at a b
    exact zsT_ok (M1 := M) (b := v') (N1 := zu N 0 0 0) (low_x hp (by rw [ha]; exact a) (fun _ _ => by rw [hF])) (low_r hp (by rw [hb]; exact b) (fun _ _ _ => by rw [hF])) zu00_c (h.thr 0).more
  · refine zsT_ex (M1 := M) (k := 1) (b := 0) (N1 := zu N 0 0 1) ?_ ?_ rfl zu00_c (h.thr 1).more
    · rw [f_X10_low, g_out (by exact hp), zbt_x]
    · rw [f_X11_low, znm_e, r_noTide, if_neg hp, zbn_s, r_thr1, zbn_s, if_neg n10, zu00_00]
end
