set_option linter.unusedSectionVars false
section
variable {t : Nat} {M N : zM}
theorem tb_shl (x : Int32) {s : Nat} (hs : s < 32) (j : Nat) : tb (x <<< (nI s &&& 31)) j = (decide (j < 32) && (!decide (j < s)) && tb x (j - s)) := by
  unfold tb
  rw [Int32.toBitVec_shiftLeft, BitVec.shiftLeft_eq', shr_k s hs, BitVec.getLsbD_shiftLeft]
theorem tb_sar (x : Int32) {s : Nat} (hs : s < 32) {j : Nat} (hj : s + j < 32) : tb (x >>> (nI s &&& 31)) j = tb x (s + j) := by
  unfold tb
  rw [Int32.toBitVec_shiftRight, BitVec.sshiftRight_eq', shr_k s hs, BitVec.getLsbD_sshiftRight, if_pos hj]
  simp; omega
theorem tb_nI {a : Nat} {j : Nat} (hj : j < 32) : tb (nI a) j = a.testBit j := by
  show (Int32.ofNat a).toBitVec.getLsbD j = _
  rw [Int32.toBitVec_ofNat', BitVec.getLsbD_ofNat]; simp [hj]
theorem tb_hi {x : Int32} {n j : Nat} (h0 : 0 ≤ x.toInt) (h1 : x.toInt < (2 ^ n : Nat)) (hj : n ≤ j) : tb x j = false := by
  rcases Nat.lt_or_ge j 32 with q | q
  · obtain ⟨a, e1, rfl⟩ := nI_get h0
    rw [tb_nI q]
    apply Nat.testBit_lt_two_pow
    have : 2 ^ n ≤ 2 ^ j := Nat.pow_le_pow_right (by omega) hj
    omega
  · exact tb_ge x q
theorem m14 : ∀ j, j < 32 → tb 16383 j = decide (j < 14) := by decide +kernel
theorem m3 : ∀ j, j < 32 → tb 7 j = decide (j < 3) := by decide +kernel
theorem m1 : ∀ j, j < 32 → tb 1 j = decide (j < 1) := by decide +kernel
theorem m4 : ∀ j, j < 32 → tb 15 j = decide (j < 4) := by decide +kernel
theorem m8 : ∀ j, j < 32 → tb 255 j = decide (j < 8) := by decide +kernel
theorem tb_pack {a b c d : Int32} {j : Nat} (hj : j < 32) : tb (zpack a b c d) j = (tb a j || (!decide (j < 14) && tb b (j - 14)) || (!decide (j < 17) && tb c (j - 17)) || (!decide (j < 18) && tb d (j - 18))) := by
  unfold zpack
  rw [tb_or, tb_or, tb_or, show (14 : Int32) = nI 14 from rfl, show (17 : Int32) = nI 17 from rfl, show (18 : Int32) = nI 18 from rfl, tb_shl _ (by decide), tb_shl _ (by decide), tb_shl _ (by decide)]
  simp [hj]
section
variable {a b c d : Int32}
theorem pack_a (ha : 0 ≤ a.toInt ∧ a.toInt ≤ 9999) (hb : 0 ≤ b.toInt ∧ b.toInt ≤ 5) (hc : 0 ≤ c.toInt ∧ c.toInt ≤ 1) (hd : 0 ≤ d.toInt ∧ d.toInt ≤ 11) : zpack a b c d &&& 16383 = a := by
  apply tb_ext
  intro j hj
  rw [tb_and, m14 j hj, tb_pack hj]
  by_cases q : j < 14
  · simp [q, show j < 17 by omega, show j < 18 by omega]
  · simp [q, tb_hi (n := 14) ha.1 (by omega) (show 14 ≤ j by omega)]
theorem pack_b (ha : 0 ≤ a.toInt ∧ a.toInt ≤ 9999) (hb : 0 ≤ b.toInt ∧ b.toInt ≤ 5) (hc : 0 ≤ c.toInt ∧ c.toInt ≤ 1) (hd : 0 ≤ d.toInt ∧ d.toInt ≤ 11) : (zpack a b c d >>> ((14 : Int32) &&& 31)) &&& 7 = b := by
  apply tb_ext
  intro j hj
  rw [tb_and, m3 j hj]
  by_cases q : j < 3
  · rw [show (14 : Int32) = nI 14 from rfl, tb_sar _ (by decide) (by omega), tb_pack (by omega), tb_hi (n := 14) ha.1 (by omega) (show 14 ≤ 14 + j by omega)]
    simp [q, show ¬ 14 + j < 14 by omega, show 14 + j < 17 by omega, show 14 + j < 18 by omega]
  · simp [q, tb_hi (n := 3) hb.1 (by omega) (show 3 ≤ j by omega)]
theorem pack_c (ha : 0 ≤ a.toInt ∧ a.toInt ≤ 9999) (hb : 0 ≤ b.toInt ∧ b.toInt ≤ 5) (hc : 0 ≤ c.toInt ∧ c.toInt ≤ 1) (hd : 0 ≤ d.toInt ∧ d.toInt ≤ 11) : (zpack a b c d >>> ((17 : Int32) &&& 31)) &&& 1 = c := by
  apply tb_ext
  intro j hj
  rw [tb_and, m1 j hj]
  by_cases q : j < 1
  · rw [show (17 : Int32) = nI 17 from rfl, tb_sar _ (by decide) (by omega), tb_pack (by omega), tb_hi (n := 14) ha.1 (by omega) (show 14 ≤ 17 + j by omega), tb_hi (n := 3) hb.1 (by omega) (show 3 ≤ 17 + j - 14 by omega)]
    simp [q, show ¬ 17 + j < 17 by omega, show 17 + j < 18 by omega]
  · simp [q, tb_hi (n := 1) hc.1 (by omega) (show 1 ≤ j by omega)]
theorem pack_d (ha : 0 ≤ a.toInt ∧ a.toInt ≤ 9999) (hb : 0 ≤ b.toInt ∧ b.toInt ≤ 5) (hc : 0 ≤ c.toInt ∧ c.toInt ≤ 1) (hd : 0 ≤ d.toInt ∧ d.toInt ≤ 11) : (zpack a b c d >>> ((18 : Int32) &&& 31)) &&& 15 = d := by
  apply tb_ext
  intro j hj
  rw [tb_and, m4 j hj]
  by_cases q : j < 4
  · rw [show (18 : Int32) = nI 18 from rfl, tb_sar _ (by decide) (by omega), tb_pack (by omega), tb_hi (n := 14) ha.1 (by omega) (show 14 ≤ 18 + j by omega), tb_hi (n := 3) hb.1 (by omega) (show 3 ≤ 18 + j - 14 by omega), tb_hi (n := 1) hc.1 (by omega) (show 1 ≤ 18 + j - 17 by omega)]
    simp [q, show ¬ 18 + j < 18 by omega]
  · simp [q, tb_hi (n := 4) hd.1 (by omega) (show 4 ≤ j by omega)]
end
theorem x_row {T : Int} {k : Nat} {w : Nat → Int32} (hk : xl (k + 5) = 60) (h : zWr T M k w) {a : Nat} (ha : a < 60) (hl : (a : Int) < (w 12).toInt) : f_X9_row M k (nI a) = some (zpack (w (92 + 4 * a)) (w (92 + 4 * a + 1)) (w (92 + 4 * a + 2)) (w (92 + 4 * a + 3))) := by
  have h1 := h.logged
  have hL := i_hi (M k 14)
  have hi := i_nI (n := a) (by omega)
  have l : (60 : Int32).toInt = 60 := rfl
  have e1 : (M k 14 - 1).toInt = (M k 14).toInt - 1 := by rw [i_sub (by rw [i_lit1]; omega) (by rw [i_lit1]; omega), i_lit1]
  have e2 : (M k 14 - 1 - nI a).toInt = (M k 14).toInt - 1 - a := by rw [i_sub (by omega) (by omega), e1, hi]
  have e3 := i_rem (a := M k 14 - 1 - nI a) (b := 60) (by omega) (by omega)
  rw [e2, l] at e3
  have e4 : 0 ≤ ((M k 14).toInt - 1 - a) % 60 ∧ ((M k 14).toInt - 1 - a) % 60 < 60 := ⟨Int.emod_nonneg _ (by decide), Int.emod_lt_of_pos _ (by decide)⟩
  have e5 : (M k 14 - 1 - nI a) - (M k 14 - 1 - nI a) / 60 * 60 = nI (((M k 14).toInt - 1 - a) % 60).toNat := by
    rw [i_eq, e3, i_nI (by omega)]; omega
  rw [f_X9_row, zck_t (by decide), e5, x_at hk (by omega) (by omega), zbn_s, h.lr ha (by omega)]
theorem zOk.lg {w : Nat → Int32} (h : zOk w) {a : Nat} (ha : a < 60) : (0 ≤ (w (92 + 4 * a)).toInt ∧ (w (92 + 4 * a)).toInt ≤ 9999) ∧ (0 ≤ (w (92 + 4 * a + 1)).toInt ∧ (w (92 + 4 * a + 1)).toInt ≤ 5) ∧ (0 ≤ (w (92 + 4 * a + 2)).toInt ∧ (w (92 + 4 * a + 2)).toInt ≤ 1) ∧ (0 ≤ (w (92 + 4 * a + 3)).toInt ∧ (w (92 + 4 * a + 3)).toInt ≤ 11) :=
  ⟨h.l ha (c := 0) (by omega), h.l ha (c := 1) (by omega), h.l ha (c := 2) (by omega), h.l ha (c := 3) (by omega)⟩
section
variable {T : Int} {k : Nat} {w : Nat → Int32}
theorem x_lgH (hk : xl (k + 5) = 60) (h : zWr T M k w) (ok : zOk w) {a : Nat} (ha : a < 60) (hl : (a : Int) < (w 12).toInt) : f_X9_loggedHour M k (nI a) = some (w (92 + 4 * a)) := by
  obtain ⟨h1, h2, h3, h4⟩ := ok.lg ha
  rw [f_X9_loggedHour, x_row hk h ha hl, zbn_s, pack_a h1 h2 h3 h4]
theorem x_lgN (hk : xl (k + 5) = 60) (h : zWr T M k w) (ok : zOk w) {a : Nat} (ha : a < 60) (hl : (a : Int) < (w 12).toInt) : f_X9_loggedNumber M k (nI a) = some (w (92 + 4 * a + 1)) := by
  obtain ⟨h1, h2, h3, h4⟩ := ok.lg ha
  rw [f_X9_loggedNumber, x_row hk h ha hl, zbn_s, pack_b h1 h2 h3 h4]
theorem x_lgK (hk : xl (k + 5) = 60) (h : zWr T M k w) (ok : zOk w) {a : Nat} (ha : a < 60) (hl : (a : Int) < (w 12).toInt) : f_X9_loggedKind M k (nI a) = some (w (92 + 4 * a + 2)) := by
  obtain ⟨h1, h2, h3, h4⟩ := ok.lg ha
  rw [f_X9_loggedKind, x_row hk h ha hl, zbn_s, pack_c h1 h2 h3 h4]
theorem x_lgP (hk : xl (k + 5) = 60) (h : zWr T M k w) (ok : zOk w) {a : Nat} (ha : a < 60) (hl : (a : Int) < (w 12).toInt) : f_X9_loggedPlace M k (nI a) = some (w (92 + 4 * a + 3)) := by
  obtain ⟨h1, h2, h3, h4⟩ := ok.lg ha
  rw [f_X9_loggedPlace, x_row hk h ha hl, zbn_s, pack_d h1 h2 h3 h4]
end
theorem r_ofLog {a c : Nat} (ha : a < 60) (hc : c < 4) : f_X11_ofLog N (nI a) (nI c) = some (N 1 (92 + 4 * a + c)) := by
  have he : 92 + 4 * nI a + nI c = nI (92 + 4 * a + c) := by rw [show (4 : Int32) = nI 4 from rfl, show (92 : Int32) = nI 92 from rfl, nI_mul, nI_add, nI_add]
  unfold f_X11_ofLog
  rw [he, zck_t (nI_lt_i (by omega) (by omega)), nI_cl (by omega)]
theorem s_log (t : Nat) : zs_log (zRel t) (zRel (t + 1)) := by
  intro M N h x1 x2
  have h12 := h.ok.c12
  have e1 : (N 1 12 - 1).toInt = (N 1 12).toInt - 1 := by rw [i_sub (by rw [i_lit1]; omega) (by rw [i_lit1]; omega), i_lit1]
  have y12 : zu N 0 0 0 1 (12 : Int32).toNatClampNeg = N 1 12 := zw0
  have l3 : (3 : Int32).toInt = 3 := rfl
  by_cases hp : 0 ≤ x2.toInt ∧ x2.toInt ≤ 3
  · have n1 : ¬ x2 < 0 := by rw [i_lt, i_lit0]; omega
    have n2 : x2 ≤ 3 := by rw [i_le, l3]; omega
    have hr0 : f_X11_log N x1 x2 = zbn (f_X11_in (zu N 0 0 0) x1 0 (N 1 12 - 1)) (fun u_2 => if u_2 = 0 then (some ((-1), zu N 0 0 0)) else (zbn (f_X11_ofLog (zu N 0 0 0) x1 x2) (fun u_3 => some (u_3, zu N 0 0 0)))) := by
      rw [f_X11_log, znm_e, r_in, if_pos (show (0 : Int32).toInt ≤ x2.toInt ∧ x2.toInt ≤ (3 : Int32).toInt from hp), zbn_s, if_neg (by decide), b_X11_log_20, r_thr0, zbn_s]
      dsimp only
      rw [if_pos rfl, zck_t (by decide), y12]
    by_cases hq : 0 ≤ x1.toInt ∧ x1.toInt < (N 1 12).toInt
    · obtain ⟨a, f1, rfl⟩ := nI_get hq.1
      obtain ⟨c, g1, rfl⟩ := nI_get hp.1
      have n3 : ¬ nI a < 0 := by rw [i_lt, i_lit0]; omega
      have n4 : nI a < N 1 12 := by rw [i_lt]; omega
      have hc : c < 4 := by omega
      have hx0 : f_X10_log M (nI a) (nI c) = if nI c = 0 then (zbn (f_X9_loggedHour M 3 (nI a)) (fun u_3 => some (M, .inr u_3))) else if nI c = 1 then (zbn (f_X9_loggedNumber M 3 (nI a)) (fun u_4 => some (M, .inr u_4))) else if nI c = 2 then (zbn (f_X9_loggedKind M 3 (nI a)) (fun u_5 => some (M, .inr u_5))) else (zbn (f_X9_loggedPlace M 3 (nI a)) (fun u_2 => some (M, .inr u_2))) := by
        rw [f_X10_log, if_neg n1, if_pos n2, if_neg n3, x_loggedRows h.w, zbn_s, if_pos n4]
      refine zsT_ok (M1 := M) (b := N 1 (92 + 4 * a + c)) (N1 := zu N 0 0 0) ?_ ?_ zu00_c (h.thr 0).more
      · rw [hx0]
        rcases (show c = 0 ∨ c = 1 ∨ c = 2 ∨ c = 3 by omega) with q | q | q | q <;> subst q
        · rw [if_pos (show nI 0 = 0 from rfl), x_lgH rfl h.w h.ok (by omega) (by omega), zbn_s]; rfl
        · rw [if_neg (by decide), if_pos (show nI 1 = 1 from rfl), x_lgN rfl h.w h.ok (by omega) (by omega), zbn_s]
        · rw [if_neg (by decide), if_neg (by decide), if_pos (show nI 2 = 2 from rfl), x_lgK rfl h.w h.ok (by omega) (by omega), zbn_s]
        · rw [if_neg (by decide), if_neg (by decide), if_neg (by decide), x_lgP rfl h.w h.ok (by omega) (by omega), zbn_s]
      · rw [hr0, r_in, if_pos ⟨hq.1, by omega⟩, zbn_s, if_neg (by decide), r_ofLog (by omega) hc, zbn_s, zw0]
    · refine zsT_ok (M1 := M) (b := -1) (N1 := zu N 0 0 0) ?_ ?_ zu00_c (h.thr 0).more
      · rw [f_X10_log, if_neg n1, if_pos n2]
        by_cases q : x1 < 0
        · rw [if_pos q]
        · rw [if_neg q, x_loggedRows h.w, zbn_s, if_neg (by rw [i_lt] at q ⊢; rw [i_lit0] at q; omega)]
      · rw [hr0, r_in, if_neg (by rw [i_lit0, e1]; omega), zbn_s, if_pos rfl]
  · refine zsT_ex (M1 := M) (k := 3) (b := 0) (N1 := zu N 0 0 1) ?_ ?_ rfl zu00_c (h.thr 1).more
    · rw [f_X10_log, b_X10_log_9]
      by_cases q : x2 < 0
      · rw [if_pos q]
      · rw [if_neg q, if_neg (by rw [i_lt, i_lit0] at q; rw [i_le, l3]; omega)]
    · rw [f_X11_log, znm_e, r_in, if_neg (show ¬ ((0 : Int32).toInt ≤ x2.toInt ∧ x2.toInt ≤ (3 : Int32).toInt) from hp), zbn_s, if_pos rfl, b_X11_log_20, r_thr1, zbn_s, if_neg n10, zu00_00]
theorem nI_m1 (r : Nat) : nI (r + 1) - 1 = nI r := by rw [← nI_p1]; exact Int32.add_sub_cancel _ _
theorem i_m1 (x : Int32) : x + (-1) = x - 1 := (Int32.sub_eq_add_neg x 1).symm
theorem led_loop (h : zRel t M N) {x1 x2 : Int32} : ∀ (r n m : Nat) (v u : Int32), (r : Int) ≤ (N 1 12).toInt → r < n → r < m → ∃ v', b_X10_led_21 M x1 x2 n v u (nI r - 1) = some (M, .inr v') ∧ b_X11_led_35 (zu N 0 0 0) x1 x2 m v u (nI r - 1) = some (v', zu N 0 0 0) := by
  intro r
  induction r with
  | zero =>
    intro n m v u hi hn hm
    obtain ⟨n, rfl⟩ : ∃ k, n = k + 1 := ⟨n - 1, by omega⟩
    obtain ⟨m, rfl⟩ : ∃ k, m = k + 1 := ⟨m - 1, by omega⟩
    have e : nI 0 - 1 < 0 := by decide
    refine ⟨if x2 = 0 then v else u, ?_, ?_⟩
    · rw [b_X10_led_21, if_pos e, b_X10_led_59]; split <;> rfl
    · rw [b_X11_led_35, if_pos e, b_X11_led_72]; split <;> rfl
  | succ r ih =>
    intro n m v u hi hn hm
    have h12 := h.ok.c12
    obtain ⟨n, rfl⟩ : ∃ k, n = k + 1 := ⟨n - 1, by omega⟩
    obtain ⟨m, rfl⟩ : ∃ k, m = k + 1 := ⟨m - 1, by omega⟩
    have e : ¬ nI r < 0 := by rw [i_lt, i_nI (by omega), i_lit0]; omega
    rw [nI_m1]
    have r3 : f_X11_ofLog (zu N 0 0 0) (nI r) 3 = some (N 1 (92 + 4 * r + 3)) := by have z := r_ofLog (N := zu N 0 0 0) (a := r) (by omega) (c := 3) (by omega); rw [zw0] at z; exact z
    have r0 : f_X11_ofLog (zu N 0 0 0) (nI r) 0 = some (N 1 (92 + 4 * r)) := by have z := r_ofLog (N := zu N 0 0 0) (a := r) (by omega) (c := 0) (by omega); rw [zw0] at z; exact z
    by_cases q : N 1 (92 + 4 * r + 3) = x1
    · obtain ⟨v1, a1, b1⟩ := ih n m (v + 1) (N 1 (92 + 4 * r)) (by omega) (by omega) (by omega)
      refine ⟨v1, ?_, ?_⟩
      · rw [b_X10_led_21, if_neg e, x_lgP rfl h.w h.ok (by omega) (by omega), zbn_s, if_pos q, znm_e, x_lgH rfl h.w h.ok (by omega) (by omega), zbn_s, b_X10_led_53, znm_e, i_m1, a1]
      · rw [b_X11_led_35, if_neg e, r3, zbn_s, if_pos q, znm_e, r0, zbn_s, b_X11_led_66, znm_e, i_m1, b1]
    · obtain ⟨v1, a1, b1⟩ := ih n m v u (by omega) (by omega) (by omega)
      refine ⟨v1, ?_, ?_⟩
      · rw [b_X10_led_21, if_neg e, x_lgP rfl h.w h.ok (by omega) (by omega), zbn_s, if_neg q, b_X10_led_53, znm_e, i_m1, a1]
      · rw [b_X11_led_35, if_neg e, r3, zbn_s, if_neg q, b_X11_led_66, znm_e, i_m1, b1]
theorem s_led (t : Nat) : zs_led (zRel t) (zRel (t + 1)) := by
  intro M N h x1 x2 _
  have h12 := h.ok.c12
  have y12 : zu N 0 0 0 1 (12 : Int32).toNatClampNeg = N 1 12 := zw0
  by_cases hp : 0 ≤ x1.toInt ∧ x1.toInt ≤ 11
  · obtain ⟨L, e1, e2⟩ := nI_get (x := N 1 12) (by omega)
    obtain ⟨v, a, b⟩ := led_loop h (x1 := x1) (x2 := x2) L 6000 6000 0 (-1) (by omega) (by omega) (by omega)
    rw [← e2] at a b
    refine zsT_ok (M1 := M) (b := v) (N1 := zu N 0 0 0) ?_ ?_ zu00_c (h.thr 0).more
    · rw [f_X10_led, g_pl hp, zbt_i, x_loggedRows h.w, zbn_s, znm_e, a]
    · rw [f_X11_led, znm_e, r_noPlace, if_pos hp, zbn_s, r_thr0, zbn_s]
      dsimp only
      rw [if_pos rfl, zck_t (by decide), znm_e, y12, b]
  · refine zsT_ex (M1 := M) (k := 0) (b := 0) (N1 := zu N 0 0 1) ?_ ?_ rfl zu00_c (h.thr 1).more
    · rw [f_X10_led, g_pn hp, zbt_x]
    · rw [f_X11_led, znm_e, r_noPlace, if_neg hp, zbn_s, r_thr1, zbn_s, if_neg n10, zu00_00]
theorem day_e : ∀ a, a < 300 → f_J9_floorDiv_7cf53 (nI a - 6) 24 = (if 0 ≤ (nI a - 6) then (zck (decide (¬ (24 : Int32) = 0)) (some ((nI a - 6) / 24))) else (some (-1))) := by decide +kernel
theorem prt_i {w : Nat → Int32} (ok : zOk w) {e : Int32} (he : -3 ≤ e.toInt ∧ e.toInt ≤ 3) {p : Nat} (hp : p < 12) : (w 5 * nI p + e + w (26 + p)).toInt = (w 5).toInt * p + e.toInt + (w (26 + p)).toInt ∧ 0 ≤ (w 5).toInt * p ∧ (w 5).toInt * p ≤ 264 := by
  have h5 := ok.c5
  have hr := ok.e hp
  have hi := i_nI (n := p) (by omega)
  have hb : 0 ≤ (w 5).toInt * p ∧ (w 5).toInt * p ≤ 264 := by
    refine ⟨Int.mul_nonneg (by omega) (by omega), ?_⟩
    have h1 : (w 5).toInt * p ≤ 24 * p := Int.mul_le_mul_of_nonneg_right (by omega) (by omega)
    omega
  have e1 : (w 5 * nI p).toInt = (w 5).toInt * p := by rw [i_mul (by rw [hi]; omega) (by rw [hi]; omega), hi]
  have e2 : (w 5 * nI p + e).toInt = (w 5).toInt * p + e.toInt := by rw [i_add (by omega) (by omega), e1]
  exact ⟨by rw [i_add (by omega) (by omega), e2], hb⟩
theorem day_x {w : Nat → Int32} (ok : zOk w) {e : Int32} (he : -3 ≤ e.toInt ∧ e.toInt ≤ 3) {p : Nat} (hp : p < 12) : ∃ v, f_X10_dayOf M (w 5 * nI p + e + w (26 + p)) = some v ∧ f_J9_floorDiv_7cf53 (w 5 * nI p + e + w (26 + p)) 24 = some v := by
  obtain ⟨h1, h2⟩ := prt_i ok he hp
  have hr := ok.e hp
  obtain ⟨a, ha⟩ : ∃ a : Nat, (a : Int) = (w 5 * nI p + e + w (26 + p)).toInt + 6 := ⟨((w 5 * nI p + e + w (26 + p)).toInt + 6).toNat, by omega⟩
  have l6 : (6 : Int32).toInt = 6 := rfl
  have ea : w 5 * nI p + e + w (26 + p) = nI a - 6 := by
    have hi := i_nI (n := a) (by omega)
    rw [i_eq, i_sub (by omega) (by omega), hi, l6]; omega
  have hd := day_e a (by omega)
  rw [ea, hd]
  unfold f_X10_dayOf
  by_cases q : 0 ≤ nI a - 6
  · rw [if_pos q]; exact ⟨_, rfl, rfl⟩
  · rw [if_neg q]; exact ⟨_, rfl, rfl⟩
theorem r_day (ok : zOk (N 1)) {e : Int32} {p : Nat} (hp : p < 12) : f_X11_dayOf N (nI p) e = zbn (f_J9_floorDiv_7cf53 (N 1 5 * nI p + e + N 1 (26 + p)) 24) (fun u_2 => some u_2) := by
  have y : N 1 (10 : Int32).toNatClampNeg = N 1 10 := rfl
  rw [f_X11_dayOf, r_printedOf hp, zbn_s, zck_t (by decide), y]
  congr 2
  generalize N 1 5 * nI p = a
  generalize N 1 10 = b
  generalize N 1 (26 + p) = c
  rw [Int32.add_assoc, Int32.add_comm b c, ← Int32.add_assoc, Int32.add_sub_cancel, Int32.add_assoc, Int32.add_comm c e, ← Int32.add_assoc]
theorem clash_loop (h : zRel t M N) {x1 x2 : Int32} (h1 : -3 ≤ x1.toInt ∧ x1.toInt ≤ 3) (h2 : -3 ≤ x2.toInt ∧ x2.toInt ≤ 3) : ∀ (d i n m : Nat) (v : Int32), i + d = 12 → d < n → d < m → ∃ v', b_X10_clash_15 M x1 x2 n v (nI i) = some (M, .inr v') ∧ b_X11_clash_39 (zu N 0 0 0) x1 x2 m v (nI i) = some (v', zu N 0 0 0) := by
  intro d
  induction d with
  | zero =>
    intro i n m v hi hn hm
    obtain ⟨n, rfl⟩ : ∃ k, n = k + 1 := ⟨n - 1, by omega⟩
    obtain ⟨m, rfl⟩ : ∃ k, m = k + 1 := ⟨m - 1, by omega⟩
    have e : (12 : Int32) ≤ nI i := by rw [nI_12 (by omega)]; omega
    exact ⟨v, by rw [b_X10_clash_15, if_pos e], by rw [b_X11_clash_39, if_pos e]⟩
  | succ d ih =>
    intro i n m v hi hn hm
    obtain ⟨n, rfl⟩ : ∃ k, n = k + 1 := ⟨n - 1, by omega⟩
    obtain ⟨m, rfl⟩ : ∃ k, m = k + 1 := ⟨m - 1, by omega⟩
    have e : ¬ (12 : Int32) ≤ nI i := by rw [nI_12 (by omega)]; omega
    have hi12 : i < 12 := by omega
    obtain ⟨c1, p1, q1⟩ := day_x (M := M) h.ok h1 hi12
    obtain ⟨c2, p2, q2⟩ := day_x (M := M) h.ok h2 hi12
    have r1 : f_X11_dayOf (zu N 0 0 0) (nI i) x1 = some c1 := by rw [r_day (ok0 h.ok) hi12, zw0, zw0, q1, zbn_s]
    have r2 : f_X11_dayOf (zu N 0 0 0) (nI i) x2 = some c2 := by rw [r_day (ok0 h.ok) hi12, zw0, zw0, q2, zbn_s]
    obtain ⟨v1, a1, b1⟩ := ih (i + 1) n m v (by omega) (by omega) (by omega)
    obtain ⟨v2, a2, b2⟩ := ih (i + 1) n m (v ||| ((1 : Int32) <<< (nI i &&& 31))) (by omega) (by omega) (by omega)
    by_cases q : c1 = c2
    · refine ⟨v1, ?_, ?_⟩
      · rw [b_X10_clash_15, if_neg e, x_printedBy (k := 3) rfl h.w hi12, zbn_s, p1, zbn_s, x_printedBy (k := 3) rfl h.w hi12, zbn_s, p2, zbn_s, if_pos q, b_X10_clash_58, znm_e, nI_p1, a1]
      · rw [b_X11_clash_39, if_neg e, r1, zbn_s, r2, zbn_s, if_pos q, b_X11_clash_72, znm_e, znm_e, or_0, nI_p1, b1]
    · refine ⟨v2, ?_, ?_⟩
      · rw [b_X10_clash_15, if_neg e, x_printedBy (k := 3) rfl h.w hi12, zbn_s, p1, zbn_s, x_printedBy (k := 3) rfl h.w hi12, zbn_s, p2, zbn_s, if_neg q, znm_e, b_X10_clash_58, znm_e, nI_p1, a2]
      · rw [b_X11_clash_39, if_neg e, r1, zbn_s, r2, zbn_s, if_neg q, b_X11_clash_72, znm_e, znm_e, nI_p1, b2]
theorem g_pr {x : Int32} (h : -3 ≤ x.toInt ∧ x.toInt ≤ 3) : f_X10_needPrint M x = some (M, .inr 0) := by rw [f_X10_needPrint, g_in (by exact h), zbt_i]
theorem g_prn {x : Int32} (h : ¬ (-3 ≤ x.toInt ∧ x.toInt ≤ 3)) : f_X10_needPrint M x = some (M, .inl 1) := by rw [f_X10_needPrint, g_out (by exact h), zbt_x]
theorem s_clash (t : Nat) : zs_clash (zRel t) (zRel (t + 1)) := by
  intro M N h x1 x2
  by_cases h1 : -3 ≤ x1.toInt ∧ x1.toInt ≤ 3
  · by_cases h2 : -3 ≤ x2.toInt ∧ x2.toInt ≤ 3
    · obtain ⟨v, a, b⟩ := clash_loop h h1 h2 12 0 6000 6000 0 (by omega) (by omega) (by omega)
      refine zsT_ok (M1 := M) (b := v) (N1 := zu N 0 0 0) ?_ ?_ zu00_c (h.thr 0).more
      · rw [f_X10_clash, g_pr h1, zbt_i, g_pr h2, zbt_i]; exact a
      · rw [f_X11_clash, znm_e, r_noEdition, if_pos h1, zbn_s, if_pos rfl, r_noEdition, if_pos h2, zbn_s, if_pos rfl, b_X11_clash_25, r_thr0, zbn_s, if_pos rfl]; exact b
    · refine zsT_ex (M1 := M) (k := 1) (b := 0) (N1 := zu N 0 0 1) ?_ ?_ rfl zu00_c (h.thr 1).more
      · rw [f_X10_clash, g_pr h1, zbt_i, g_prn h2, zbt_x]
      · rw [f_X11_clash, znm_e, r_noEdition, if_pos h1, zbn_s, if_pos rfl, r_noEdition, if_neg h2, zbn_s, if_neg (by decide), b_X11_clash_20, b_X11_clash_25, r_thr1, zbn_s, if_neg n10, zu00_00]
  · refine zsT_ex (M1 := M) (k := 1) (b := 0) (N1 := zu N 0 0 1) ?_ ?_ rfl zu00_c (h.thr 1).more
    · rw [f_X10_clash, g_prn h1, zbt_x]
    · rw [f_X11_clash, znm_e, r_noEdition, if_neg h1, zbn_s, if_neg (by decide), b_X11_clash_20, b_X11_clash_25, r_thr1, zbn_s, if_neg n10, zu00_00]
theorem s_seed (t : Nat) : zs_seed (zRel t) (zRel (t + 1)) := by
  intro M N h x1
  have y : zu N 0 0 0 1 (13 : Int32).toNatClampNeg = N 1 13 := zw0
  refine ⟨M 3 2, zu M 3 2 x1, zu (zu N 0 0 0) 1 13 x1, rfl, ?_, ?_⟩
  · rw [f_X11_seed, znm_e, zck_t (by decide), znm_e, zck_t (by decide), znm_e, y, h.w.seed]; rfl
  · have e1 : zu (zu N 0 0 0) 1 13 x1 1 = upd (N 1) 13 x1 := by rw [zu_self, zu00_1]
    refine h.world (by omega) ?_ ?_ (fun q hq => zu_row (by omega)) ?_ (fun j h1 h2 => ?_) (fun q hq => ?_) (fun j hj => ?_)
    · rw [e1]; exact (h.w.more (by omega)).put (by decide) x1
    · rw [e1]; exact h.ok.put ⟨i_lo x1, i_hi x1⟩ (by decide) (by decide) (by decide) (by decide) (fun m hm => by omega) (fun m hm => by omega)
    · rw [e1, upd_at, if_neg (by decide)]
    · rw [e1, upd_at, if_neg (by omega)]
    · rw [zu_row (by omega), zu_row (by omega)]
    · rw [zu_row (by omega), zu00_0 (by omega)]
end
