section
variable {L : Nat} {T : Int} {M M' N N' : zM} {b : Nat}
theorem add_monk (h : zCo L T M N b) {m p g P : Nat} (hm : N 1 0 = nI m) (hm6 : m < 6) (hp : p < 12) (hg : g < 12) (hP : 1 ≤ P ∧ P ≤ 4) : ∃ M' N', f_X9_addMonk M 9 (nI p) (nI P) (nI g) = some M' ∧ b_X11_readMonk_64 N (nI m) (nI p) (nI P) (nI g) = some (1, N') ∧ zCo L T M' N' b ∧ zCm M M' ∧ zCn N N' := by
  have hw := h.2.1
  have ok := h.2.2
  have k10 : M 9 10 = nI m := by rw [hw.monks, hm]
  have hx3 : xl (9 + 3) = 24 := by decide +kernel
  obtain ⟨M4, hM4⟩ : ∃ Z, Z = zu (zu (zu (zu M 12 (4 * m + 0) (nI p)) 12 (4 * m + 1) (nI g)) 12 (4 * m + 2) (nI P)) 12 (4 * m + 3) 0 := ⟨_, rfl⟩
  have w4 : zWr T M4 9 (upd (upd (upd (upd (N 1) (38 + 5 * m + 0) (nI p)) (38 + 5 * m + 1) (nI g)) (38 + 5 * m + 2) (nI P)) (38 + 5 * m + 3) 0) := by
    rw [hM4]; exact (((hw.putM hm6 (c := 0) (by omega) _).putM hm6 (c := 1) (by omega) _).putM hm6 (c := 2) (by omega) _).putM hm6 (c := 3) (by omega) _
  have w5 := w4.put (j := 10) (c := 0) (by decide) (nI (m + 1))
  have x4 : f_X9_addMonk M 9 (nI p) (nI P) (nI g) = some (zu M4 9 10 (nI (m + 1))) := by
    have ez : ∀ (Z : zM) (j : Nat) (v : Int32), zu Z (9 + 3) j v 9 10 = Z 9 10 := fun Z j v => by rw [zu_row (by decide)]
    have s0 : ∀ (Z : zM) (v : Int32), f_X9_setMonkCell Z 9 (nI m) 0 v = some (zu Z (9 + 3) (4 * m + 0) v) := fun Z v => x_setMonk hx3 hm6 (c := 0) (by omega)
    have s1 : ∀ (Z : zM) (v : Int32), f_X9_setMonkCell Z 9 (nI m) 1 v = some (zu Z (9 + 3) (4 * m + 1) v) := fun Z v => x_setMonk hx3 hm6 (c := 1) (by omega)
    have s2 : ∀ (Z : zM) (v : Int32), f_X9_setMonkCell Z 9 (nI m) 2 v = some (zu Z (9 + 3) (4 * m + 2) v) := fun Z v => x_setMonk hx3 hm6 (c := 2) (by omega)
    have s3 : ∀ (Z : zM) (v : Int32), f_X9_setMonkCell Z 9 (nI m) 3 v = some (zu Z (9 + 3) (4 * m + 3) v) := fun Z v => x_setMonk hx3 hm6 (c := 3) (by omega)
    rw [f_X9_addMonk, k10, s0, zbn_s, ez, k10, s1, zbn_s, ez, ez, k10, s2, zbn_s, ez, ez, ez, k10, s3, zbn_s, ez, ez, ez, ez, k10, znm_e, nI_p1, hM4]
  obtain ⟨N5, hN5⟩ : ∃ Z, Z = zu (zu (zu (zu (zu (zu N 1 (38 + 5 * m + 0) (nI p)) 1 (38 + 5 * m + 1) (nI g)) 1 (38 + 5 * m + 2) (nI P)) 1 (38 + 5 * m + 3) 0) 1 (38 + 5 * m + 4) 0) 1 0 (nI (m + 1)) := ⟨_, rfl⟩
  have r4 : b_X11_readMonk_64 N (nI m) (nI p) (nI P) (nI g) = some (1, N5) := by
    have z0 : (0 : Int32).toNatClampNeg = 0 := rfl
    have e0 : zu (zu (zu (zu (zu N 1 (38 + 5 * m + 0) (nI p)) 1 (38 + 5 * m + 1) (nI g)) 1 (38 + 5 * m + 2) (nI P)) 1 (38 + 5 * m + 3) 0) 1 (38 + 5 * m + 4) 0 1 0 + 1 = nI (m + 1) := by
      rw [zu_at, if_neg (by omega), zu_at, if_neg (by omega), zu_at, if_neg (by omega), zu_at, if_neg (by omega), zu_at, if_neg (by omega), hm, nI_p1]
    have hm0 : ∀ Z : zM, f_X11_monkAt Z (nI m) 0 = some (nI (38 + 5 * m + 0)) := fun Z => r_monkAt (c := 0)
    have hm1 : ∀ Z : zM, f_X11_monkAt Z (nI m) 1 = some (nI (38 + 5 * m + 1)) := fun Z => r_monkAt (c := 1)
    have hm2 : ∀ Z : zM, f_X11_monkAt Z (nI m) 2 = some (nI (38 + 5 * m + 2)) := fun Z => r_monkAt (c := 2)
    have hm3 : ∀ Z : zM, f_X11_monkAt Z (nI m) 3 = some (nI (38 + 5 * m + 3)) := fun Z => r_monkAt (c := 3)
    have hm4 : ∀ Z : zM, f_X11_monkAt Z (nI m) 4 = some (nI (38 + 5 * m + 4)) := fun Z => r_monkAt (c := 4)
    rw [b_X11_readMonk_64, if_pos (by rw [i_le, i_lit0, i_nI (by omega)]; omega), hm0, zbn_s, zck_t (nI_lt_i (by omega) (by omega)), nI_cl (by omega), znm_e, hm1, zbn_s, zck_t (nI_lt_i (by omega) (by omega)), nI_cl (by omega), znm_e, hm2, zbn_s, zck_t (nI_lt_i (by omega) (by omega)), nI_cl (by omega), znm_e, hm3, zbn_s, zck_t (nI_lt_i (by omega) (by omega)), nI_cl (by omega), znm_e, hm4, zbn_s, zck_t (nI_lt_i (by omega) (by omega)), nI_cl (by omega), znm_e, zck_t (by decide), zck_t (by decide), znm_e, z0, e0, hN5]
  have row : ∀ j, N5 1 j = if j = 0 then nI (m + 1) else if j = 38 + 5 * m + 4 then 0 else if j = 38 + 5 * m + 3 then 0 else if j = 38 + 5 * m + 2 then nI P else if j = 38 + 5 * m + 1 then nI g else if j = 38 + 5 * m + 0 then nI p else N 1 j := by
    intro j
    rw [hN5]
    simp only [zu_at, true_and]
  have h42 := ok.2.2.1 m hm6 (by rw [hm, i_nI (by omega)]; omega)
  refine ⟨_, N5, x4, r4, ⟨h.1.world (fun q hq => by rw [zu_row (by omega), hM4, zu_row (by omega), zu_row (by omega), zu_row (by omega), zu_row (by omega)]) (fun q hq => by rw [hN5, zu_row hq, zu_row hq, zu_row hq, zu_row hq, zu_row hq, zu_row hq]), ?_, ?_⟩, ?_, ?_⟩
  · refine w5.row (fun j hj => ?_)
    rw [row j, upd_at, upd_at, upd_at, upd_at, upd_at]
    by_cases e0 : j = 0
    · rw [if_pos e0, if_pos e0]
    · rw [if_neg e0, if_neg e0]
      by_cases e4 : j = 38 + 5 * m + 4
      · rw [if_pos e4, if_neg (by omega), if_neg (by omega), if_neg (by omega), if_neg (by omega), e4, show 38 + 5 * m + 4 = 42 + 5 * m by omega, h42]
      · rw [if_neg e4]
  · refine ⟨fun j hj => ?_, ?_, fun m' hm' hle => ?_, fun m' hm' hle => ?_⟩
    · rw [row j]
      by_cases e0 : j = 0
      · rw [if_pos e0, e0, i_nI (by omega)]; show (0 : Int) ≤ _ ∧ _ ≤ (6 : Int); omega
      · rw [if_neg e0]
        by_cases e4 : j = 38 + 5 * m + 4
        · rw [if_pos e4, e4, (zlo_m hm6 (show 4 < 5 by omega)).1, (zlo_m hm6 (show 4 < 5 by omega)).2]; decide
        · rw [if_neg e4]
          by_cases e3 : j = 38 + 5 * m + 3
          · rw [if_pos e3, e3, (zlo_m hm6 (show 3 < 5 by omega)).1, (zlo_m hm6 (show 3 < 5 by omega)).2]; decide
          · rw [if_neg e3]
            by_cases e2 : j = 38 + 5 * m + 2
            · rw [if_pos e2, e2, (zlo_m hm6 (show 2 < 5 by omega)).1, (zlo_m hm6 (show 2 < 5 by omega)).2, i_nI (by omega)]; show (0 : Int) ≤ _ ∧ _ ≤ (4 : Int); omega
            · rw [if_neg e2]
              by_cases e1 : j = 38 + 5 * m + 1
              · rw [if_pos e1, e1, (zlo_m hm6 (show 1 < 5 by omega)).1, (zlo_m hm6 (show 1 < 5 by omega)).2, i_nI (by omega)]; show (0 : Int) ≤ _ ∧ _ ≤ (11 : Int); omega
              · rw [if_neg e1]
                by_cases e00 : j = 38 + 5 * m + 0
                · rw [if_pos e00, e00, (zlo_m hm6 (show 0 < 5 by omega)).1, (zlo_m hm6 (show 0 < 5 by omega)).2, i_nI (by omega)]; show (0 : Int) ≤ _ ∧ _ ≤ (11 : Int); omega
                · rw [if_neg e00]; exact ok.1 j hj
    · have r7 : N5 1 7 = N 1 7 := by rw [row 7, if_neg (by omega), if_neg (by omega), if_neg (by omega), if_neg (by omega), if_neg (by omega), if_neg (by omega)]
      have r8 : N5 1 8 = N 1 8 := by rw [row 8, if_neg (by omega), if_neg (by omega), if_neg (by omega), if_neg (by omega), if_neg (by omega), if_neg (by omega)]
      rw [r7, r8]; exact ok.2.1
    · have r0 : N5 1 0 = nI (m + 1) := by rw [row 0, if_pos rfl]
      rw [r0, i_nI (by omega)] at hle
      rw [row, if_neg (by omega), if_neg (by omega), if_neg (by omega), if_neg (by omega), if_neg (by omega), if_neg (by omega)]
      exact ok.2.2.1 m' hm' (by rw [hm, i_nI (by omega)]; omega)
    · have r1 : N5 1 1 = N 1 1 := by rw [row 1, if_neg (by omega), if_neg (by omega), if_neg (by omega), if_neg (by omega), if_neg (by omega), if_neg (by omega)]
      rw [r1] at hle
      rw [row, if_neg (by omega), if_neg (by omega), if_neg (by omega), if_neg (by omega), if_neg (by omega), if_neg (by omega)]
      exact ok.2.2.2 m' hm' hle
  · intro q h1 h2; rw [zu_row (by omega), hM4, zu_row (by omega), zu_row (by omega), zu_row (by omega), zu_row (by omega)]
  · refine ⟨⟨fun q _ h1 => by rw [hN5, zu_row h1, zu_row h1, zu_row h1, zu_row h1, zu_row h1, zu_row h1], fun j _ _ => by rw [hN5, zu_row (by decide), zu_row (by decide), zu_row (by decide), zu_row (by decide), zu_row (by decide), zu_row (by decide)]⟩, ?_, ?_, fun j hj => ?_⟩
    · rw [row, if_neg (by omega), if_neg (by omega), if_neg (by omega), if_neg (by omega), if_neg (by omega), if_neg (by omega)]
    · rw [row, if_neg (by omega), if_neg (by omega), if_neg (by omega), if_neg (by omega), if_neg (by omega), if_neg (by omega)]
    · rw [row, if_neg (by omega), if_neg (by omega), if_neg (by omega), if_neg (by omega), if_neg (by omega), if_neg (by omega)]
theorem l_monk (h : zCo L T M N b) {m : Nat} (hm : N 1 0 = nI m) (hm6 : m < 6) : zOuc L T M N (zbn (f_X7_takeNumber M 0 11) (fun u_4 => if u_4.1 = ((-1)) then (some (0, u_4.2)) else (zbn (f_X7_takeWord u_4.2 8) (fun u_5 => if u_5.1 = 0 then (some (0, u_5.2)) else (zbn (f_X7_takeNumber u_5.2 1 4) (fun u_6 => if u_6.1 = ((-1)) then (some (0, u_6.2)) else (zbn (f_X7_skipWord u_6.2 9) (fun u_7 => if u_7.1 = 0 then (b_X1_monkLine_80 9 u_7.2 u_4.1 u_6.1 u_4.1) else (zbn (f_X7_takeNumber u_7.2 0 11) (fun u_8 => b_X1_monkLine_80 9 u_8.2 u_4.1 u_6.1 u_8.1)))))))))) (f_X11_readMonk N) := by
  have l11 : (11 : Int32).toInt = 11 := rfl
  have l4 : (4 : Int32).toInt = 4 := rfl
  have hmne : ¬ nI m = 6 := fun z => by rw [i_eq, i_nI (by omega)] at z; have : (m : Int) = 6 := z; omega
  have hr0 : f_X11_readMonk N = zbn (f_X11_number N 0 11) (fun u_18 => if 0 ≤ u_18.1 then (zbn (f_X11_after u_18.2 7 1 4) (fun u_19 => b_X11_readMonk_37 u_19.2 (nI m) u_18.1 u_19.1)) else (b_X11_readMonk_37 u_18.2 (nI m) u_18.1 ((-1)))) := by
    rw [f_X11_readMonk, r_monks, hm, zbn_s, if_neg hmne]
  rw [hr0]
  rcases j_num h.1 (lo := 0) (hi := 11) (by decide) with ⟨M1, N1, b1, c1, c2, c3, c4, c5, c6, c7⟩ | ⟨c1, N1, c2, c3, c4, c5⟩
  · have hne := i_m (by decide) c3.1
    rw [i_lit0, l11] at c3
    obtain ⟨p, p1, p2⟩ := nI_get (x := zpn L M b) (by omega)
    rw [p2] at c1 c2 hne
    have hco := h.move c4 c5 c7
    rw [c1, c2, zbn_s, zbn_s]
    dsimp only
    rw [if_neg hne, if_pos (by rw [i_le, i_lit0, i_nI (by omega)]; omega), show (8 : Int32) = nI 8 from rfl, show f_X11_after N1 7 1 4 = f_X11_after N1 (zwi 8) 1 4 from rfl]
    rcases j_after hco.1 (i := 8) (by omega) (lo := 1) (hi' := 4) (by decide) with ⟨M2, M3, N3, b2, b3, d1, d2, d3, d4, d5, d6, d7, d8⟩ | ⟨Mf, bf, N3, d1, d2, d3, d4, d5⟩
    · rw [i_lit1, l4] at d4
      obtain ⟨P, P1, P2⟩ := nI_get (x := zpn L M1 b2) (by omega)
      have hne2 : ¬ nI P = -1 := fun z => by rw [z] at P2; rw [P2] at d4; exact absurd d4.1 (by decide)
      rw [P2] at d2 d3
      have hco2 := hco.move d5 d6 d8
      rw [d1, zbn_s, d3, zbn_s]
      dsimp only
      rw [if_neg n10, d2, zbn_s]
      dsimp only
      rw [if_neg hne2, b_X11_readMonk_37, if_pos (by rw [i_le, i_lit0, i_nI (by omega)]; omega), show (9 : Int32) = nI 9 from rfl, show f_X11_passes N3 8 = f_X11_passes N3 (zwi 9) from rfl]
      have hm3 : N3 1 0 = nI m := by rw [d8, c7]; exact hm
      rcases j_pass hco2.1 (i := 9) (by omega) with ⟨M4, N4, b4, e1, e2, e3, e4, e5, e6, e7⟩ | ⟨N4, e1, e2, e3, e5, e6, e7⟩
      · rw [e1, zbn_s, e2, zbn_s]
        dsimp only
        rw [if_neg n10, if_neg n10]
        have hco3 := hco2.move e3 e4 e6
        rcases j_num hco3.1 (lo := 0) (hi := 11) (by decide) with ⟨M5, N5, b5, f1, f2, f3, f4, f5, f6, f7⟩ | ⟨f1, N5, f2, f3, f4, f5⟩
        · rw [i_lit0, l11] at f3
          obtain ⟨g, g1, g2⟩ := nI_get (x := zpn L M4 b4) (by omega)
          rw [g2] at f1 f2
          have hne3 : ¬ nI g = -1 := fun z => by rw [z] at g2; rw [g2] at f3; exact absurd f3.1 (by decide)
          have hco4 := hco3.move f4 f5 f7
          obtain ⟨M', N', a1, a2, a3, a4, a5⟩ := add_monk hco4 (m := m) (p := p) (g := g) (P := P) (by rw [f7, e6]; exact hm3) hm6 (by omega) (by omega) (by omega)
          left
          refine ⟨M', N', b5, ?_, ?_, a3, (((c5.cm.trans d6.cm).trans e4.cm).trans f5.cm).trans a4, ((((c6.cn c7).trans (d7.cn d8)).trans (e5.cn e6)).trans (f6.cn f7)).trans a5⟩
          · rw [f1, zbn_s, b_X1_monkLine_80, if_neg hne3, a1, zbn_s]
          · rw [f2, zbn_s, a2]
        · right
          refine ⟨_, N5, b4, ?_, ?_, by rw [zu_at, if_pos ⟨rfl, rfl⟩], f3, ((c5.cm.trans d6.cm).trans e4.cm).trans miss_f.cm, ((c6.trans d7).trans e5).trans f4⟩
          · rw [f1, zbn_s, b_X1_monkLine_80, if_pos rfl]
          · rw [f2, zbn_s, b_X11_readMonk_64, if_neg (show ¬ (0 : Int32) ≤ -1 by decide)]
      · rw [e1, zbn_s, e2, zbn_s]
        dsimp only
        rw [if_pos rfl, if_pos rfl]
        have hco3 : zCo L T M3 N4 b3 := hco2.move e3 (fun _ _ => rfl) e6
        obtain ⟨M', N', a1, a2, a3, a4, a5⟩ := add_monk hco3 (m := m) (p := p) (g := p) (P := P) (by rw [e6]; exact hm3) hm6 (by omega) (by omega) (by omega)
        left
        refine ⟨M', N', b3, ?_, a2, a3, (c5.cm.trans d6.cm).trans a4, (((c6.cn c7).trans (d7.cn d8)).trans (e5.cn e6)).trans a5⟩
        rw [b_X1_monkLine_80, if_neg hne, a1, zbn_s]
    · right
      have hr : zbn (f_X11_after N1 (zwi 8) 1 4) (fun u_19 => b_X11_readMonk_37 u_19.2 (nI m) (nI p) u_19.1) = some (0, N3) := by
        rw [d1, zbn_s, b_X11_readMonk_37, if_neg (show ¬ (0 : Int32) ≤ -1 by decide)]
      rcases d5 with ⟨e1, e2, e3⟩ | ⟨M2, e1, e2, e3, e4⟩
      · refine ⟨Mf, N3, bf, ?_, hr, e2, d2, c5.cm.trans e3.cm, c6.trans d3⟩
        rw [e1, zbn_s, if_pos rfl]
      · refine ⟨Mf, N3, bf, ?_, hr, e3, d2, c5.cm.trans e4.cm, c6.trans d3⟩
        rw [e1, zbn_s]
        dsimp only
        rw [if_neg n10, e2, zbn_s, if_pos rfl]
  · right
    refine ⟨_, N1, b, by rw [c1, zbn_s, if_pos rfl], ?_, by rw [zu_at, if_pos ⟨rfl, rfl⟩], c3, miss_f.cm, c4⟩
    rw [c2, zbn_s]
    dsimp only
    rw [if_neg (by decide), b_X11_readMonk_37, if_neg (by decide)]
end
