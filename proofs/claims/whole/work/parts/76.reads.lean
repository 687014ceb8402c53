theorem zbn_s {α β : Type} {a : α} {f : α → Option β} : zbn (some a) f = f a := rfl
theorem zck_T {α : Type} {x : Option α} : zck true x = x := rfl
section
variable {t : Nat} {M N : zM}
theorem r_thr0 {c : Int32} : f_X11_throwsIf N 0 c = some (0, N) := rfl
theorem r_thr1 {c : Int32} : f_X11_throwsIf N 1 c = some (1, zu N 0 0 c) := rfl
theorem zu00_1 {c : Int32} : zu N 0 0 c 1 = N 1 := zu_row (by decide)
theorem zu00_00 {a c : Int32} : zu (zu N 0 0 a) 0 0 c = zu N 0 0 c := by
  funext q j
  rw [zu_at, zu_at, zu_at]
  split <;> rfl
theorem ok0 {c : Int32} (h : zOk (N 1)) : zOk (zu N 0 0 c 1) := by rw [zu00_1]; exact h
theorem s_ground (t : Nat) : zs_ground (zRel t) (zRel (t + 1)) := by
  intro M N h x1
  by_cases hp : 0 ≤ x1.toInt ∧ x1.toInt ≤ 11
  · obtain ⟨p, e1, rfl⟩ := nI_get hp.1
    have hp12 : p < 12 := by omega
    refine zsT_ok (M1 := M) (b := N 1 (14 + p)) (N1 := zu N 0 0 0) ?_ ?_ zu00_c (h.thr 0).more
    · simp [f_X10_ground, g_place, hp, zbt_i, zbn_s, x_at (o := 4) (n := 12) rfl (by omega) hp12, h.w.g hp12]
    · have he : 14 + nI p = nI (14 + p) := nI_add 14 p
      simp [f_X11_ground, znm_e, zbn_s, r_noPlace, hp, r_thr0, he, zck_t (nI_lt_i (n := 14 + p) (b := 2030) (by omega) (by omega)), nI_cl (n := 14 + p) (by omega), zu00_1]
  · refine zsT_ex (M1 := M) (k := 0) (b := 0) (N1 := zu N 0 0 1) ?_ ?_ rfl zu00_c (h.thr 1).more
    · simp [f_X10_ground, g_place, hp, zbt_x]
    · simp [f_X11_ground, znm_e, zbn_s, r_noPlace, hp, r_thr1, zu00_00]
theorem s_range (t : Nat) : zs_range (zRel t) (zRel (t + 1)) := by
  intro M N h x1
  by_cases hp : 0 ≤ x1.toInt ∧ x1.toInt ≤ 2499
  · refine zsT_ok (M1 := M) (b := sRange (N 1) x1) (N1 := zu N 0 0 0) ?_ ?_ zu00_c (h.thr 0).more
    · simp [f_X10_range, g_within, hp, zbt_i, zbn_s, x_rangeOf h.w h.ok hp.1]
    · simp [f_X11_range, b_X11_range_22, znm_e, zbn_s, r_in, hp, r_thr0, r_rangeOf (ok0 h.ok), zu00_1]
  · refine zsT_ex (M1 := M) (k := 1) (b := 0) (N1 := zu N 0 0 1) ?_ ?_ rfl zu00_c (h.thr 1).more
    · simp [f_X10_range, g_within, hp, zbt_x]
    · simp [f_X11_range, b_X11_range_22, znm_e, zbn_s, r_in, hp, r_thr1, zu00_00]
theorem s_water (t : Nat) : zs_water (zRel t) (zRel (t + 1)) := by
  intro M N h x1
  by_cases hp : 0 ≤ x1.toInt ∧ x1.toInt ≤ 9999
  · refine zsT_ok (M1 := M) (b := sWater (N 1) x1 (N 1 9)) (N1 := zu N 0 0 0) ?_ ?_ zu00_c (h.thr 0).more
    · simp [f_X10_water, g_within, hp, zbt_i, zbn_s, x_waterIn h.w h.ok hp.1]
    · simp [f_X11_water, znm_e, zbn_s, r_noHour, hp, r_thr0, r_waterIn (ok0 h.ok), zu00_1]
  · refine zsT_ex (M1 := M) (k := 1) (b := 0) (N1 := zu N 0 0 1) ?_ ?_ rfl zu00_c (h.thr 1).more
    · simp [f_X10_water, g_within, hp, zbt_x]
    · simp [f_X11_water, znm_e, zbn_s, r_noHour, hp, r_thr1, zu00_00]
theorem x_depthAt {T : Int} {k : Nat} {w : Nat → Int32} (h : zWr T M k w) (ok : zOk w) {p : Nat} (hp : p < 12) {x : Int32} (hx : 0 ≤ x.toInt) : f_X9_depthBy M k (sWater w x (w 9)) (nI p) = some (sDepth w p x) := by
  have hw := sWater_i ok (x := x) hx ok.c9
  rw [x_depthBy h ok (by omega) hp]; rfl
theorem s_depth (t : Nat) : zs_depth (zRel t) (zRel (t + 1)) := by
  intro M N h x1 x2
  by_cases hp : 0 ≤ x1.toInt ∧ x1.toInt ≤ 11
  · obtain ⟨p, e1, rfl⟩ := nI_get hp.1
    have hp12 : p < 12 := by omega
    by_cases hq : 0 ≤ x2.toInt ∧ x2.toInt ≤ 9999
    · refine zsT_ok (M1 := M) (b := sDepth (N 1) p x2) (N1 := zu N 0 0 0) ?_ ?_ zu00_c (h.thr 0).more
      · simp [f_X10_depth, g_place, hp, zbt_i, g_within, hq, zbn_s, x_waterIn h.w h.ok hq.1, x_depthAt h.w h.ok hp12 hq.1]
      · simp [f_X11_depth, znm_e, zbn_s, r_noPlace, hp, r_thr0, r_noHour, hq, r_depthAt (ok0 h.ok) hp12, zu00_1]
    · refine zsT_ex (M1 := M) (k := 1) (b := 0) (N1 := zu N 0 0 2) ?_ ?_ (Or.inr rfl) zu00_c (h.thr 2).more
      · simp [f_X10_depth, g_place, hp, zbt_i, g_within, hq, zbt_x]
      · simp [f_X11_depth, znm_e, zbn_s, r_noPlace, hp, r_thr0, r_noHour, hq, r_thr1, zu00_00]
  · refine zsT_ex (M1 := M) (k := 0) (b := 0) (N1 := zu N 0 0 1) ?_ ?_ (Or.inl rfl) zu00_c (h.thr 1).more
    · simp [f_X10_depth, g_place, hp, zbt_x]
    · simp [f_X11_depth, znm_e, zbn_s, r_noPlace, hp, r_thr1, zu00_00]
theorem s_printed (t : Nat) : zs_printed (zRel t) (zRel (t + 1)) := by
  intro M N h x1
  by_cases hp : 0 ≤ x1.toInt ∧ x1.toInt ≤ 11
  · obtain ⟨p, e1, rfl⟩ := nI_get hp.1
    have hp12 : p < 12 := by omega
    refine zsT_ok (M1 := M) (b := N 1 5 * nI p + N 1 10 + N 1 (26 + p)) (N1 := zu N 0 0 0) ?_ ?_ zu00_c (h.thr 0).more
    · simp [f_X10_printed, g_within, hp, zbt_i, zbn_s, x_printedBy (k := 3) rfl h.w hp12, h.w.edition]
    · simp [f_X11_printed, b_X11_printed_21, znm_e, zbn_s, r_in, hp, r_thr0, r_printedOf hp12, zu00_1]
  · refine zsT_ex (M1 := M) (k := 1) (b := 0) (N1 := zu N 0 0 1) ?_ ?_ rfl zu00_c (h.thr 1).more
    · simp [f_X10_printed, g_within, hp, zbt_x]
    · simp [f_X11_printed, b_X11_printed_21, znm_e, zbn_s, r_in, hp, r_thr1, zu00_00]
theorem s_fault (t : Nat) : zs_fault (zRel t) (zRel (t + 1)) := by
  intro M N h
  refine ⟨M 0 13, zu N 0 0 0, rfl, ?_, (h.thr 0).more⟩
  simp [f_X11_fault, znm_e, zu00_0 (N := N) (c := 0) (j := 14) (by decide), h.fault]
end
