section
variable {t : Nat} {M N : zM}
theorem zfr_le (tk : Int32) : ∀ d i, zfr tk d i ≤ d
  | 0, _ => Nat.le_refl _
  | d + 1, i => by
    have := zfr_le tk d (i + 1)
    show (if tb tk i then 0 else 1) + zfr tk d (i + 1) ≤ d + 1
    split <;> omega
theorem s_keepMost (h : zRel t M N) {m : Nat} (hm : m < 6) : ∃ M' N' b, f_X2_keepMost M 3 (nI m) = some (nI b, M') ∧ f_X11_laysMost N (nI m) = some N' ∧ N' 0 24 = nI b ∧ b ≤ 6 ∧ (∀ i, i < b → M' 50 i = N' 14 i) ∧ zRel t M' N' ∧ (∀ j, j ≠ 24 → N' 0 j = N 0 j) := by
  obtain ⟨M1, l1, l2, l3⟩ := x_look (k := 3) (by omega) xw_3 h.ok h.w
  have hR := h.look l2
  obtain ⟨p, hp, p2⟩ := h.ok.mp hm 0 (by omega)
  have hpc := h.ok.m hm (c := 2) (by omega)
  have hpc4 : (N 1 (38 + 5 * m + 2)).toInt ≤ 4 := hpc.2
  obtain ⟨P, P1, P2⟩ := nI_get hpc.1
  have c4 := h.ok.c4
  obtain ⟨X, X1, X2⟩ := nI_get c4.1
  have c1 := h.ok.c1
  obtain ⟨D, D1, D2⟩ := nI_get c1.1
  obtain ⟨M2, hM2⟩ : ∃ Z, Z = zu M1 45 6 0 := ⟨_, rfl⟩
  obtain ⟨N2, hN2⟩ : ∃ Z, Z = zu (zu (zu (zu N 0 24 0) 12 0 (nI p)) 13 0 (nI X)) 11 0 0 := ⟨_, rfl⟩
  have n21 : N2 1 = N 1 := by rw [hN2, zu_row (by decide), zu_row (by decide), zu_row (by decide), zu_row (by decide)]
  have m2r : ∀ q, q ≠ 45 → M2 q = M1 q := fun q hq => by rw [hM2, zu_row hq]
  have hw2 : zWr (1200 * t) M2 3 (N2 1) := by rw [n21]; exact hR.w.eq6 (fun q _ _ => m2r q (by omega))
  have hl2 : zLk M2 (N2 1) := by rw [n21]; unfold zLk; rw [m2r 44 (by decide)]; exact l3
  have hmo : zMo M2 N2 D 0 0 (M2 3 13) M2 N2 := by
    refine ⟨fun _ _ _ _ => rfl, fun _ _ _ _ _ _ => rfl, fun _ _ => rfl, ⟨0, by omega, by rw [hM2, zu_at, if_pos ⟨rfl, rfl⟩]; rfl, by rw [hN2, zu_row (by decide), zu_row (by decide), zu_row (by decide), zu_at, if_pos ⟨rfl, rfl⟩]; rfl, fun i hi => by omega⟩, fun i hi => by omega, fun j hj => ?_, by have := zfr_le 0 D 0; omega⟩
    rw [hw2.kept j hj, tb_0]
    simp
  have hfu : D + zfr 0 D 0 * zTr 5 < 20000 := by
    have h5 : zTr 5 = 2608 := by decide
    have := zfr_le 0 D 0
    have := Nat.mul_le_mul_right (zTr 5) (show zfr 0 D 0 ≤ 6 by omega)
    omega
  obtain ⟨M', N', n', a1, a2, a3, a4, a5, a6, a7⟩ := most_Q (T := 1200 * t) (m := m) hw2 (by rw [n21]; exact h.ok) hl2 (by rw [n21]; exact D2) (show D ≤ 6 by omega) hm (by rw [n21]; exact P2) (show P ≤ 4 by omega) 5 0 (by omega) (by omega) D 0 (by omega) M2 N2 0 (M2 3 13) p X 20000 6000 hmo (by rw [hN2, zu_row (by decide), zu_row (by decide), zu_at, if_pos ⟨rfl, rfl⟩]) hp (by rw [hN2, zu_row (by decide), zu_at, if_pos ⟨rfl, rfl⟩]) (by omega) (fun _ => by rw [hN2, zu_at, if_pos ⟨rfl, rfl⟩]; rfl) hfu (by omega)
  have hn' : 2 ≤ n' := by
    have h5 : zTr 5 = 2608 := by decide
    have := zfr_le 0 D 0
    have := Nat.mul_le_mul_right (zTr 5) (show zfr 0 D 0 ≤ 6 by omega)
    omega
  obtain ⟨y1, y2, y3, ⟨b, b6, b1, b2, b3⟩, y5, y6, y7⟩ := a5
  obtain ⟨n4, rfl⟩ : ∃ k, n' = k + 2 := ⟨n' - 2, by omega⟩
  have hduN : f_X11_duties N' = some (nI D) := by rw [r_duties, y2 1 (by decide) (by decide) (by decide) (by decide) (by decide), n21, D2]
  have pop : b_X11_laysMost_40 (nI m) (n4 + 2) N' (nI 0) 0 = some N' := by
    have h69 : b_X11_laysMost_69 (fun M x2 x3 => b_X11_laysMost_40 (nI m) (n4 + 1) M x2 x3) N' (nI m) (nI 0) 0 = some N' := by
      rw [b_X11_laysMost_69, znm_e, if_pos (by decide), b_X11_laysMost_193, b_X11_laysMost_40, if_pos (by decide)]
    rw [b_X11_laysMost_40, if_neg (by decide), zck_t (by decide), znm_e, hduN, zbn_s, zbn_s]
    by_cases e : 0 = D
    · rw [if_pos (by rw [← e]), h69]
    · have e' : ¬ nI 0 = nI D := fun z => e (by rw [i_eq, i_nI (by omega), i_nI (by omega)] at z; omega)
      rw [if_neg e', if_pos (show N' 11 (nI 0).toNatClampNeg = nI D from a4.elim (fun z => absurd z e) id), h69]
  have y4 : ∀ Z : zM, Z 1 (4 : Int32).toNatClampNeg = Z 1 4 := fun _ => rfl
  refine ⟨M', N', b, ?_, ?_, b2, b6, b3, ?_, fun j hj => ?_⟩
  · have m0 : f_X9_monkCell M2 3 (nI m) 0 = some (nI p) := by rw [show (0 : Int32) = nI 0 from rfl, x_monkCell hw2 hm (by omega), n21, p2]
    have m2 : f_X9_monkCell M2 3 (nI m) 2 = some (nI P) := by rw [show (2 : Int32) = nI 2 from rfl, x_monkCell hw2 hm (by omega), n21, P2]
    have hh : M2 3 0 = nI X := by rw [hw2.hour, n21, X2]
    have ht : f_X2_tryRows M2 3 (nI P) (nI p) (nI X) (M2 3 13) 0 = some M' := by
      show g_X2_tryRows (fr_X2 8) M2 3 (nI P) (nI p) (nI X) (M2 3 13) 0 = some M'
      rw [g_X2_tryRows, if_pos (by rw [hM2, zu_at, if_pos ⟨rfl, rfl⟩]; decide), b_X2_tryRows_26, if_pos (by decide)]
      exact a1
    rw [f_X2_keepMost, l1, zbn_s, znm_e, ← hM2, m0, zbn_s, m2, zbn_s, hh, ht, zbn_s, b1]
  · have r0 : f_X11_of (zu N 0 24 0) (nI m) 0 = some (nI p) := by rw [show (0 : Int32) = nI 0 from rfl, r_of hm (by omega), zu_row (by decide), p2]
    have e4 : zu (zu N 0 24 0) 12 0 (nI p) 1 (4 : Int32).toNatClampNeg = nI X := by
      show zu (zu N 0 24 0) 12 0 (nI p) 1 4 = nI X
      rw [zu_row (by decide), zu_row (by decide), X2]
    have z0 : (0 : Int32).toNatClampNeg = 0 := rfl
    rw [f_X11_laysMost, znm_e, r0, zbn_s, zck_t (by decide), znm_e, zck_t (by decide), zck_t (by decide), znm_e, zck_t (by decide), znm_e, z0, e4, ← hN2]
    exact a2.trans pop
  · have c : zRel t M' N := by
      refine h.cls (fun q _ hd hq => ?_) ?_
      · have hq' : ¬ (41 ≤ q ∧ q < 51) := fun z => by simp [zDull] at hd; omega
        rw [y1 q (by omega) (by omega) (by omega), m2r q (by omega), l2 q (by omega)]
      · rw [y1 21 (by decide) (by decide) (by decide), m2r 21 (by decide), l2 21 (by decide)]
    have nq : ∀ q, q ≠ 0 → q ≠ 11 → q ≠ 12 → q ≠ 13 → q ≠ 14 → N' q = N q := fun q g0 g1 g2 g3 g4 => by rw [y2 q g0 g1 g2 g3 g4, hN2, zu_row g1, zu_row g3, zu_row g2, zu_row g0]
    have n0 : ∀ j, j ≠ 24 → N' 0 j = N 0 j := fun j hj => by rw [y3 j hj, hN2, zu_row (by decide), zu_row (by decide), zu_row (by decide), zu_at, if_neg (by omega)]
    exact c.ref (nq 1 (by decide) (by decide) (by decide) (by decide) (by decide)) (nq 2 (by decide) (by decide) (by decide) (by decide) (by decide)) (nq 5 (by decide) (by decide) (by decide) (by decide) (by decide)) (nq 6 (by decide) (by decide) (by decide) (by decide) (by decide)) (n0 _ (by decide)) (n0 _ (by decide)) (n0 _ (by decide)) (n0 _ (by decide))
  · rw [y3 j hj, hN2, zu_row (by decide), zu_row (by decide), zu_row (by decide), zu_at, if_neg (by omega)]
theorem s_most (t : Nat) : zs_most (zRel t) (zRel (t + 1)) := by
  intro M N h x1 x2
  have h0 := h.ok.c0
  by_cases hp : 0 ≤ x1.toInt ∧ x1.toInt < (N 1 0).toInt
  · have hpM : 0 ≤ x1.toInt ∧ x1.toInt < (M 3 10).toInt := by rw [h.w.monks]; exact hp
    have hpz : 0 ≤ x1.toInt ∧ x1.toInt < (zu N 0 0 0 1 0).toInt := by rw [zw0]; exact hp
    obtain ⟨m, e1, rfl⟩ := nI_get hp.1
    have hm : m < 6 := by omega
    have rd : f_X11_isDrowned (zu N 0 0 0) (nI m) = some (N 1 (42 + 5 * m)) := by have z := r_isDrowned' (N := zu N 0 0 0) (ok0 h.ok) hm; rw [zw0] at z; exact z
    have lm : (-1 : Int32).toInt = -1 := rfl
    rcases h.ok.m01 hm with q | q
    · obtain ⟨M', N', b, a1, a2, a3, a4, a5, a6, a7⟩ := s_keepMost (h.thr 0) hm
      have h00 : N' 0 0 = 0 := by rw [a7 0 (by decide), zu00_c]
      have hX : f_X10_most M (nI m) x2 = b_X10_most_32 M' x2 (nI b) := by rw [f_X10_most, g_mk hpM, zbt_i, x_isDrowned h.w h.ok hm, q, zbn_s, if_pos rfl, a1, zbn_s]
      have hR : f_X11_most N (nI m) x2 = (if x2 = ((-1)) then (some (nI b, N')) else (zbn (f_X11_in N' x2 0 (nI b - 1)) (fun u_6 => if u_6 = 0 then (some ((-1), N')) else (zck (zin x2 6) (some (N' 14 (x2 : Int32).toNatClampNeg, N')))))) := by
        rw [f_X11_most, znm_e, r_noMonk (ok0 h.ok), if_pos hpz, zbn_s, r_thr0, zbn_s, if_pos rfl, rd, q, zbn_s, if_pos rfl, a2, zbn_s, a3]
      have eb : (nI b - 1).toInt = b - 1 := by rw [i_sub (by rw [i_lit1, i_nI (by omega)]; omega) (by rw [i_lit1, i_nI (by omega)]; omega), i_lit1, i_nI (by omega)]
      by_cases q1 : x2 = -1
      · exact zsT_ok (by rw [hX, b_X10_most_32, if_pos q1]) (by rw [hR, if_pos q1]) h00 a6.more
      · by_cases q2 : 0 ≤ x2.toInt ∧ x2.toInt < b
        · obtain ⟨k, k1, rfl⟩ := nI_get q2.1
          refine zsT_ok (M1 := M') (b := N' 14 k) (N1 := N') ?_ ?_ h00 a6.more
          · have ek : f_X2_keptAs M' (nI k) = some (N' 14 k) := by rw [f_X2_keptAs, x_at (n := 6) (by decide +kernel) (by omega) (by omega), zbn_s, a5 k (by omega)]
            rw [hX, b_X10_most_32, if_neg q1, if_neg (by rw [i_lt, i_lit0]; omega), if_neg (by rw [i_le, i_nI (by omega)]; omega), ek, zbn_s]
          · rw [hR, if_neg q1, r_in, if_pos (by rw [eb, i_lit0]; omega), zbn_s, if_neg n10, zck_t (nI_lt_i (by omega) (by omega)), nI_cl (by omega)]
        · refine zsT_ok (M1 := M') (b := -1) (N1 := N') ?_ ?_ h00 a6.more
          · rw [hX, b_X10_most_32, if_neg q1]
            by_cases q3 : x2 < 0
            · rw [if_pos q3]
            · rw [if_neg q3, if_pos (by rw [i_le, i_nI (by omega)]; rw [i_lt, i_lit0] at q3; omega)]
          · rw [hR, if_neg q1, r_in, if_neg (by rw [eb, i_lit0]; omega), zbn_s, if_pos rfl]
    · have hX : f_X10_most M (nI m) x2 = b_X10_most_32 M x2 0 := by rw [f_X10_most, g_mk hpM, zbt_i, x_isDrowned h.w h.ok hm, q, zbn_s, if_neg n10]
      have hR : f_X11_most N (nI m) x2 = (if x2 = ((-1)) then (some (0, zu N 0 0 0)) else (some ((-1), zu N 0 0 0))) := by
        rw [f_X11_most, znm_e, r_noMonk (ok0 h.ok), if_pos hpz, zbn_s, r_thr0, zbn_s, if_pos rfl, rd, q, zbn_s, if_neg n10]
      by_cases q1 : x2 = -1
      · exact zsT_ok (by rw [hX, b_X10_most_32, if_pos q1]) (by rw [hR, if_pos q1]) zu00_c (h.thr 0).more
      · refine zsT_ok (M1 := M) (b := -1) (N1 := zu N 0 0 0) ?_ (by rw [hR, if_neg q1]) zu00_c (h.thr 0).more
        rw [hX, b_X10_most_32, if_neg q1]
        by_cases q3 : x2 < 0
        · rw [if_pos q3]
        · rw [if_neg q3, if_pos (by rw [i_le, i_lit0]; rw [i_lt, i_lit0] at q3; omega)]
  · have hpM : ¬ (0 ≤ x1.toInt ∧ x1.toInt < (M 3 10).toInt) := by rw [h.w.monks]; exact hp
    have hpz : ¬ (0 ≤ x1.toInt ∧ x1.toInt < (zu N 0 0 0 1 0).toInt) := by rw [zw0]; exact hp
    refine zsT_ex (M1 := M) (k := 0) (b := 0) (N1 := zu N 0 0 1) ?_ ?_ rfl zu00_c (h.thr 1).more
    · rw [f_X10_most, g_mkn hpM, zbt_x]
    · rw [f_X11_most, znm_e, r_noMonk (ok0 h.ok), if_neg hpz, zbn_s, r_thr1, zbn_s, if_neg n10, zu00_00]
end
