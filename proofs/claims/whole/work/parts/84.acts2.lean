section
variable {t : Nat} {M N : zM}
theorem zRel.set (h : zRel t M N) {o j c : Nat} {v v' : Int32} (ho : 3 ≤ o ∧ o < 9) (hc : c < 332) (hc3 : c ≠ 3) (hw : zWr (1200 * t) (zu M o j v) 3 (upd (N 1) c v')) (ok : zOk (upd (N 1) c v')) : zRel (t + 1) (zu M o j v) (zu N 1 c v') := by
  have e1 : zu N 1 c v' 1 = upd (N 1) c v' := zu_self
  refine h.world (by omega) ?_ ?_ (fun q hq => zu_row (by omega)) ?_ (fun j h1 h2 => ?_) (fun q hq => ?_) (fun j hj => ?_)
  · rw [e1]; exact hw.more (by omega)
  · rw [e1]; exact ok
  · rw [e1, upd_at, if_neg (by omega)]
  · rw [e1, upd_at, if_neg (by omega)]
  · rw [zu_row (by omega)]
  · rw [zu_row (by omega)]
theorem g_mk {x : Int32} (h : 0 ≤ x.toInt ∧ x.toInt < (M 3 10).toInt) : f_X10_needMonk M x = some (M, .inr 0) := by rw [g_monk, if_pos h]
theorem g_mkn {x : Int32} (h : ¬ (0 ≤ x.toInt ∧ x.toInt < (M 3 10).toInt)) : f_X10_needMonk M x = some (M, .inl 0) := by rw [g_monk, if_neg h]
theorem g_dt {x : Int32} (h : 0 ≤ x.toInt ∧ x.toInt < (M 3 11).toInt) : f_X10_needDuty M x = some (M, .inr 0) := by rw [g_duty, if_pos h]
theorem g_dtn {x : Int32} (h : ¬ (0 ≤ x.toInt ∧ x.toInt < (M 3 11).toInt)) : f_X10_needDuty M x = some (M, .inl 0) := by rw [g_duty, if_neg h]
theorem x_setMonk {k : Nat} (hk : xl (k + 3) = 24) {m c : Nat} (hm : m < 6) (hc : c < 4) {v : Int32} : f_X9_setMonkCell M k (nI m) (nI c) v = some (zu M (k + 3) (4 * m + c) v) := by
  have he : nI m * 4 + nI c = nI (4 * m + c) := by rw [show (4 : Int32) = nI 4 from rfl, nI_mul, nI_add, Nat.mul_comm]
  rw [f_X9_setMonkCell, he, x_put hk (by omega) (show 4 * m + c < 24 by omega), zbn_s]
theorem r_monkAt {m c : Nat} : f_X11_monkAt N (nI m) (nI c) = some (nI (38 + 5 * m + c)) := by
  rw [f_X11_monkAt, show (5 : Int32) = nI 5 from rfl, show (38 : Int32) = nI 38 from rfl, nI_mul, nI_add, nI_add]
theorem r_dutyAt {m c : Nat} : f_X11_dutyAt N (nI m) (nI c) = some (nI (68 + 4 * m + c)) := by
  rw [f_X11_dutyAt, show (4 : Int32) = nI 4 from rfl, show (68 : Int32) = nI 68 from rfl, nI_mul, nI_add, nI_add]
theorem zOk.setM {w : Nat → Int32} (h : zOk w) {m c : Nat} (hm : m < 6) (hc : c < 4) {v : Int32} (hv : 0 ≤ v.toInt ∧ v.toInt ≤ ([11, 11, 4, 9, 1] : List Int).getD c 0) : zOk (upd w (38 + 5 * m + c) v) := by
  refine h.put ?_ (by omega) (by omega) (by omega) (by omega) (fun m' hm' => by omega) (fun m' hm' => by omega)
  rw [(zlo_m hm (show c < 5 by omega)).1, (zlo_m hm (show c < 5 by omega)).2]; exact hv
theorem s_goal (t : Nat) : zs_goal (zRel t) (zRel (t + 1)) := by
  intro M N h x1 x2
  have h0 := h.ok.c0
  by_cases hp : 0 ≤ x1.toInt ∧ x1.toInt < (N 1 0).toInt
  · have hpM : 0 ≤ x1.toInt ∧ x1.toInt < (M 3 10).toInt := by rw [h.w.monks]; exact hp
    have hpz : 0 ≤ x1.toInt ∧ x1.toInt < (zu N 0 0 0 1 0).toInt := by rw [zw0]; exact hp
    by_cases hq : 0 ≤ x2.toInt ∧ x2.toInt ≤ 11
    · obtain ⟨m, e1, rfl⟩ := nI_get hp.1
      have hm : m < 6 := by omega
      have rd : f_X11_isDrowned (zu N 0 0 0) (nI m) = some (N 1 (42 + 5 * m)) := by have z := r_isDrowned' (N := zu N 0 0 0) (ok0 h.ok) hm; rw [zw0] at z; exact z
      have efr : f_X11_goal N (nI m) x2 = b_X11_goal_26 (zu N 0 0 0) (nI m) x2 0 := by
        rw [f_X11_goal, znm_e, r_noMonk (ok0 h.ok), if_pos hpz, zbn_s, if_pos rfl, r_noPlace, if_pos hq, zbn_s, if_pos rfl]
      rcases h.ok.m01 hm with q | q
      · obtain ⟨M', N', a1, a2, a3, a4, a5, a6⟩ := s_remember (h.thr 0)
        have hN1 : N' 1 = N 1 := by rw [a5 1 (by decide) (by decide), zu00_1]
        refine zsT_ok (M1 := zu M' 6 (4 * m + 1) x2) (b := N' 1 (38 + 5 * m + 1)) (N1 := zu N' 1 (38 + 5 * m + 1) x2) ?_ ?_ ?_ ?_
        · rw [f_X10_goal, g_mk hpM, zbt_i, g_pl hq, zbt_i, f_X10_needAlive, x_isDrowned h.w h.ok hm, q, zbn_s, if_pos rfl, zbt_i, a1, zbn_s]
          rw [show (1 : Int32) = nI 1 from rfl, x_monkCell a3.w hm (by omega), zbn_s, x_setMonk (by decide +kernel) hm (by omega), zbn_s]
        · rw [efr, b_X11_goal_26, r_thr0, zbn_s, if_pos rfl, rd, q, zbn_s, r_thr0, zbn_s, if_pos rfl, a2, zbn_s]
          rw [show (1 : Int32) = nI 1 from rfl, r_of hm (by omega), zbn_s, r_monkAt, zbn_s, zck_t (nI_lt_i (by omega) (by omega)), nI_cl (by omega), znm_e]
        · rw [zu_row (by decide), a6 0 (by decide), zu00_c]
        · exact a3.set (by omega) (by omega) (by omega) (a3.w.putM hm (by omega) x2) (a3.ok.setM hm (by omega) hq)
      · refine zsT_ex (M1 := M) (k := 2) (b := 0) (N1 := zu N 0 0 2) ?_ ?_ (Or.inr rfl) zu00_c (h.thr 2).more
        · rw [f_X10_goal, g_mk hpM, zbt_i, g_pl hq, zbt_i, f_X10_needAlive, x_isDrowned h.w h.ok hm, q, zbn_s, if_neg (by decide), zbt_x]
        · rw [efr, b_X11_goal_26, r_thr0, zbn_s, if_pos rfl, rd, q, zbn_s, r_thr1, zbn_s, if_neg n10, zu00_00]
    · refine zsT_ex (M1 := M) (k := 0) (b := 0) (N1 := zu N 0 0 1) ?_ ?_ (Or.inl rfl) zu00_c (h.thr 1).more
      · rw [f_X10_goal, g_mk hpM, zbt_i, g_pn hq, zbt_x]
      · rw [f_X11_goal, znm_e, r_noMonk (ok0 h.ok), if_pos hpz, zbn_s, if_pos rfl, r_noPlace, if_neg hq, zbn_s, if_neg (by decide), b_X11_goal_21, b_X11_goal_26, r_thr1, zbn_s, if_neg n10, zu00_00]
  · have hpM : ¬ (0 ≤ x1.toInt ∧ x1.toInt < (M 3 10).toInt) := by rw [h.w.monks]; exact hp
    have hpz : ¬ (0 ≤ x1.toInt ∧ x1.toInt < (zu N 0 0 0 1 0).toInt) := by rw [zw0]; exact hp
    refine zsT_ex (M1 := M) (k := 0) (b := 0) (N1 := zu N 0 0 1) ?_ ?_ (Or.inl rfl) zu00_c (h.thr 1).more
    · rw [f_X10_goal, g_mkn hpM, zbt_x]
    · rw [f_X11_goal, znm_e, r_noMonk (ok0 h.ok), if_neg hpz, zbn_s, if_neg (by decide), b_X11_goal_21, b_X11_goal_26, r_thr1, zbn_s, if_neg n10, zu00_00]
theorem s_rest (t : Nat) : zs_rest (zRel t) (zRel (t + 1)) := by
  intro M N h x1
  have h0 := h.ok.c0
  by_cases hp : 0 ≤ x1.toInt ∧ x1.toInt < (N 1 0).toInt
  · have hpM : 0 ≤ x1.toInt ∧ x1.toInt < (M 3 10).toInt := by rw [h.w.monks]; exact hp
    have hpz : 0 ≤ x1.toInt ∧ x1.toInt < (zu N 0 0 0 1 0).toInt := by rw [zw0]; exact hp
    obtain ⟨m, e1, rfl⟩ := nI_get hp.1
    have hm : m < 6 := by omega
    have rd : f_X11_isDrowned (zu N 0 0 0) (nI m) = some (N 1 (42 + 5 * m)) := by have z := r_isDrowned' (N := zu N 0 0 0) (ok0 h.ok) hm; rw [zw0] at z; exact z
    rcases h.ok.m01 hm with q | q
    · obtain ⟨M', N', a1, a2, a3, a4, a5, a6⟩ := s_remember (h.thr 0)
      refine zsT_ok (M1 := zu M' 6 (4 * m + 3) 0) (b := N' 1 (38 + 5 * m + 3)) (N1 := zu N' 1 (38 + 5 * m + 3) 0) ?_ ?_ ?_ ?_
      · rw [f_X10_rest, g_mk hpM, zbt_i, f_X10_needAlive, x_isDrowned h.w h.ok hm, q, zbn_s, if_pos rfl, zbt_i, a1, zbn_s]
        rw [show (3 : Int32) = nI 3 from rfl, x_monkCell a3.w hm (by omega), zbn_s, x_setMonk (by decide +kernel) hm (by omega), zbn_s]
      · rw [f_X11_rest, znm_e, r_noMonk (ok0 h.ok), if_pos hpz, zbn_s, r_thr0, zbn_s, if_pos rfl, rd, q, zbn_s, r_thr0, zbn_s, if_pos rfl, a2, zbn_s]
        rw [show (3 : Int32) = nI 3 from rfl, r_of hm (by omega), zbn_s, r_monkAt, zbn_s, zck_t (nI_lt_i (by omega) (by omega)), nI_cl (by omega), znm_e]
      · rw [zu_row (by decide), a6 0 (by decide), zu00_c]
      · exact a3.set (by omega) (by omega) (by omega) (a3.w.putM hm (by omega) 0) (a3.ok.setM hm (by omega) (by decide))
    · refine zsT_ex (M1 := M) (k := 2) (b := 0) (N1 := zu N 0 0 2) ?_ ?_ (Or.inr rfl) zu00_c (h.thr 2).more
      · rw [f_X10_rest, g_mk hpM, zbt_i, f_X10_needAlive, x_isDrowned h.w h.ok hm, q, zbn_s, if_neg (by decide), zbt_x]
      · rw [f_X11_rest, znm_e, r_noMonk (ok0 h.ok), if_pos hpz, zbn_s, r_thr0, zbn_s, if_pos rfl, rd, q, zbn_s, r_thr1, zbn_s, if_neg n10, zu00_00]
  · have hpM : ¬ (0 ≤ x1.toInt ∧ x1.toInt < (M 3 10).toInt) := by rw [h.w.monks]; exact hp
    have hpz : ¬ (0 ≤ x1.toInt ∧ x1.toInt < (zu N 0 0 0 1 0).toInt) := by rw [zw0]; exact hp
    refine zsT_ex (M1 := M) (k := 0) (b := 0) (N1 := zu N 0 0 1) ?_ ?_ (Or.inl rfl) zu00_c (h.thr 1).more
    · rw [f_X10_rest, g_mkn hpM, zbt_x]
    · rw [f_X11_rest, znm_e, r_noMonk (ok0 h.ok), if_neg hpz, zbn_s, r_thr1, zbn_s, if_neg n10, zu00_00]
theorem s_error (t : Nat) : zs_error (zRel t) (zRel (t + 1)) := by
  intro M N h x1 x2
  by_cases hp : 0 ≤ x1.toInt ∧ x1.toInt ≤ 11
  · by_cases hq : -3 ≤ x2.toInt ∧ x2.toInt ≤ 3
    · obtain ⟨p, e1, rfl⟩ := nI_get hp.1
      have hp12 : p < 12 := by omega
      obtain ⟨M', N', a1, a2, a3, a4, a5, a6⟩ := s_remember (h.thr 0)
      have hok : zOk (upd (N' 1) (26 + p) x2) := a3.ok.put (by rw [(zlo_e hp12).1, (zlo_e hp12).2]; exact hq) (by omega) (by omega) (by omega) (by omega) (fun m hm => by omega) (fun m hm => by omega)
      have hR : zRel (t + 1) (zu M' 5 p x2) (zu N' 1 (26 + p) x2) := a3.set (by omega) (by omega) (by omega) (a3.w.putE hp12 x2) hok
      refine zsT_ok (M1 := zu M' 5 p x2) (b := zu N' 1 (26 + p) x2 1 5 * nI p + zu N' 1 (26 + p) x2 1 10 + zu N' 1 (26 + p) x2 1 (26 + p)) (N1 := zu N' 1 (26 + p) x2) ?_ ?_ ?_ hR
      · rw [f_X10_error, g_in (by exact hp), zbt_i, g_pr hq, zbt_i, a1, zbn_s, x_put (n := 12) (by decide +kernel) (by omega) hp12, zbn_s, x_printedBy (by decide +kernel) hR.w hp12, zbn_s, hR.w.edition]
      · have he : 26 + nI p = nI (26 + p) := nI_add 26 p
        rw [f_X11_error, znm_e, r_in, if_pos (by exact hp), zbn_s, if_neg (by decide), r_noEdition, if_pos hq, zbn_s, if_pos rfl, b_X11_error_28, r_thr0, zbn_s, if_pos rfl, a2, zbn_s, he, zck_t (nI_lt_i (by omega) (by omega)), nI_cl (by omega), znm_e, r_printedOf hp12, zbn_s]
      · rw [zu_row (by decide), a6 0 (by decide), zu00_c]
    · refine zsT_ex (M1 := M) (k := 1) (b := 0) (N1 := zu N 0 0 1) ?_ ?_ rfl zu00_c (h.thr 1).more
      · rw [f_X10_error, g_in (by exact hp), zbt_i, g_prn hq, zbt_x]
      · rw [f_X11_error, znm_e, r_in, if_pos (by exact hp), zbn_s, if_neg (by decide), r_noEdition, if_neg hq, zbn_s, if_neg (by decide), b_X11_error_23, b_X11_error_28, r_thr1, zbn_s, if_neg n10, zu00_00]
  · refine zsT_ex (M1 := M) (k := 1) (b := 0) (N1 := zu N 0 0 1) ?_ ?_ rfl zu00_c (h.thr 1).more
    · rw [f_X10_error, g_out (by exact hp), zbt_x]
    · rw [f_X11_error, znm_e, r_in, if_neg (by exact hp), zbn_s, if_pos rfl, b_X11_error_23, b_X11_error_28, r_thr1, zbn_s, if_neg n10, zu00_00]
theorem s_edition (t : Nat) : zs_edition (zRel t) (zRel (t + 1)) := by
  intro M N h x1
  by_cases hq : -3 ≤ x1.toInt ∧ x1.toInt ≤ 3
  · obtain ⟨M', N', a1, a2, a3, a4, a5, a6⟩ := s_remember (h.thr 0)
    have hok : zOk (upd (N' 1) 10 x1) := a3.ok.put (by exact hq) (by omega) (by omega) (by omega) (by omega) (fun m hm => by omega) (fun m hm => by omega)
    have hR : zRel (t + 1) (zu M' 3 3 x1) (zu N' 1 10 x1) := a3.set (by omega) (by omega) (by omega) (a3.w.put (by decide) x1) hok
    refine zsT_ok (M1 := zu M' 3 3 x1) (b := N' 1 10) (N1 := zu N' 1 10 x1) ?_ ?_ ?_ hR
    · rw [f_X10_edition, g_pr hq, zbt_i, a1, zbn_s, znm_e, znm_e, a3.w.edition]
    · rw [f_X11_edition, znm_e, r_noEdition, if_pos hq, zbn_s, r_thr0, zbn_s, if_pos rfl, a2, zbn_s, zck_t (by decide), znm_e, zck_t (by decide), znm_e]; rfl
    · rw [zu_row (by decide), a6 0 (by decide), zu00_c]
  · refine zsT_ex (M1 := M) (k := 1) (b := 0) (N1 := zu N 0 0 1) ?_ ?_ rfl zu00_c (h.thr 1).more
    · rw [f_X10_edition, g_prn hq, zbt_x]
    · rw [f_X11_edition, znm_e, r_noEdition, if_neg hq, zbn_s, r_thr1, zbn_s, if_neg n10, zu00_00]
theorem s_wind (t : Nat) : zs_wind (zRel t) (zRel (t + 1)) := by
  intro M N h x1
  by_cases hq : -5 ≤ x1.toInt ∧ x1.toInt ≤ 5
  · obtain ⟨M', N', a1, a2, a3, a4, a5, a6⟩ := s_remember (h.thr 0)
    have hok : zOk (upd (N' 1) 9 x1) := a3.ok.put (by exact hq) (by omega) (by omega) (by omega) (by omega) (fun m hm => by omega) (fun m hm => by omega)
    have hR : zRel (t + 1) (zu M' 3 1 x1) (zu N' 1 9 x1) := a3.set (by omega) (by omega) (by omega) (a3.w.put (by decide) x1) hok
    refine zsT_ok (M1 := zu M' 3 1 x1) (b := N' 1 9) (N1 := zu N' 1 9 x1) ?_ ?_ ?_ hR
    · rw [f_X10_wind, g_in (by exact hq), zbt_i, a1, zbn_s, znm_e, znm_e, a3.w.wind]
    · rw [f_X11_wind, znm_e, r_in, if_pos (by exact hq), zbn_s, if_neg (by decide), b_X11_wind_21, r_thr0, zbn_s, if_pos rfl, a2, zbn_s, zck_t (by decide), znm_e, zck_t (by decide), znm_e]; rfl
    · rw [zu_row (by decide), a6 0 (by decide), zu00_c]
  · refine zsT_ex (M1 := M) (k := 1) (b := 0) (N1 := zu N 0 0 1) ?_ ?_ rfl zu00_c (h.thr 1).more
    · rw [f_X10_wind, g_out (by exact hq), zbt_x]
    · rw [f_X11_wind, znm_e, r_in, if_neg (by exact hq), zbn_s, if_pos rfl, b_X11_wind_21, r_thr1, zbn_s, if_neg n10, zu00_00]
theorem tb_clr (x : Int32) {d : Nat} (hd : d < 32) {j : Nat} (hj : j < 32) : tb (x &&& (((1 : Int32) <<< (nI d &&& 31)) ^^^ (-1))) j = if j = d then false else tb x j := by
  rw [tb_and, tb_not _ hj, tb_shl1 hd]
  by_cases e : j = d <;> simp [e]
theorem tb_set (x : Int32) {d : Nat} (hd : d < 32) {j : Nat} : tb (x ||| ((1 : Int32) <<< (nI d &&& 31))) j = if j = d then true else tb x j := by
  rw [tb_or, tb_shl1 hd]
  by_cases e : j = d <;> simp [e]
theorem s_anew (t : Nat) : zs_anew (zRel t) (zRel (t + 1)) := by
  intro M N h x1
  have h0 := h.ok.c1
  by_cases hp : 0 ≤ x1.toInt ∧ x1.toInt < (N 1 1).toInt
  · have hpM : 0 ≤ x1.toInt ∧ x1.toInt < (M 3 11).toInt := by rw [h.w.duties]; exact hp
    have hpz : 0 ≤ x1.toInt ∧ x1.toInt < (zu N 0 0 0 1 1).toInt := by rw [zw0]; exact hp
    obtain ⟨d, e1, rfl⟩ := nI_get hp.1
    have hd : d < 6 := by omega
    obtain ⟨M', N', a1, a2, a3, a4, a5, a6⟩ := s_remember (h.thr 0)
    have hbl : zbl (N' 1 (71 + 4 * d)) = true := by rcases a3.ok.k01 hd with q | q <;> rw [q] <;> decide
    have hok : zOk (upd (N' 1) (71 + 4 * d) 0) := by
      refine a3.ok.put ?_ (by omega) (by omega) (by omega) (by omega) (fun m hm => fun _ _ => rfl) (fun m hm => fun _ _ => rfl)
      have := zlo_d hd (c := 3) (by omega)
      rw [show 68 + 4 * d + 3 = 71 + 4 * d by omega] at this
      rw [this.1, this.2]; decide
    have hR := a3.set (o := 3) (j := 13) (c := 71 + 4 * d) (v := (M' 3 13) &&& (((1 : Int32) <<< (nI d &&& 31)) ^^^ ((-1)))) (v' := 0) (by omega) (by omega) (by omega) (a3.w.putK hd (fun j hj => by rw [tb_clr _ (by omega) hj]; rfl)) hok
    refine zsT_ok (M1 := _) (b := N' 1 (71 + 4 * d)) (N1 := _) ?_ ?_ ?_ hR
    · rw [f_X10_anew, g_dt hpM, zbt_i, a1, zbn_s, x_isKept a3.w a3.ok hd, zbn_s, znm_e, zck_t hbl]
    · rw [f_X11_anew, znm_e, r_noDuty (ok0 h.ok), if_pos hpz, zbn_s, r_thr0, zbn_s, if_pos rfl, a2, zbn_s, r_isKept' a3.ok hd, zbn_s]
      rw [show (3 : Int32) = nI 3 from rfl, r_dutyAt, zbn_s, zck_t (nI_lt_i (by omega) (by omega)), nI_cl (by omega), znm_e, zck_t hbl, show 68 + 4 * d + 3 = 71 + 4 * d by omega]
    · rw [zu_row (by decide), a6 0 (by decide), zu00_c]
  · have hpM : ¬ (0 ≤ x1.toInt ∧ x1.toInt < (M 3 11).toInt) := by rw [h.w.duties]; exact hp
    have hpz : ¬ (0 ≤ x1.toInt ∧ x1.toInt < (zu N 0 0 0 1 1).toInt) := by rw [zw0]; exact hp
    refine zsT_ex (M1 := M) (k := 0) (b := 0) (N1 := zu N 0 0 1) ?_ ?_ rfl zu00_c (h.thr 1).more
    · rw [f_X10_anew, g_dtn hpM, zbt_x]
    · rw [f_X11_anew, znm_e, r_noDuty (ok0 h.ok), if_neg hpz, zbn_s, r_thr1, zbn_s, if_neg n10, zu00_00]
end
