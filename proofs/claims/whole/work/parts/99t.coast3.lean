section
variable {L : Nat} {T : Int} {M M' N N' : zM} {b : Nat}
theorem add_duty (h : zCo L T M N b) {d p f t : Nat} (hd : N 1 1 = nI d) (hd6 : d < 6) (hp : p < 12) (hf : f ≤ 999) (ht : t ≤ 999) : ∃ M' N', f_X9_addDuty M 9 (nI p) (nI f) (nI t) = some M' ∧ b_X11_readDuty_58 N (nI d) (nI p) (nI f) (nI t) = some (1, N') ∧ zCo L T M' N' b ∧ zCm M M' ∧ zCn N N' := by
  have hw := h.2.1
  have ok := h.2.2
  have k11 : M 9 11 = nI d := by rw [hw.duties, hd]
  obtain ⟨M3, hM3⟩ : ∃ Z, Z = zu (zu (zu M 13 (3 * d + 0) (nI p)) 13 (3 * d + 1) (nI f)) 13 (3 * d + 2) (nI t) := ⟨_, rfl⟩
  have w3 : zWr T M3 9 (upd (upd (upd (N 1) (68 + 4 * d + 0) (nI p)) (68 + 4 * d + 1) (nI f)) (68 + 4 * d + 2) (nI t)) := by
    rw [hM3]; exact ((hw.putD hd6 (c := 0) (by omega) _).putD hd6 (c := 1) (by omega) _).putD hd6 (c := 2) (by omega) _
  have w5 := w3.put (j := 11) (c := 1) (by decide) (nI (d + 1))
  have x4 : f_X9_addDuty M 9 (nI p) (nI f) (nI t) = some (zu M3 9 11 (nI (d + 1))) := by
    have ez : ∀ (Z : zM) (j : Nat) (v : Int32), zu Z (9 + 4) j v 9 11 = Z 9 11 := fun Z j v => by rw [zu_row (by decide)]
    have hi : ∀ c : Nat, nI d * 3 + nI c = nI (3 * d + c) := fun c => by rw [show (3 : Int32) = nI 3 from rfl, nI_mul, nI_add, Nat.mul_comm]
    have s0 : ∀ (Z : zM) (v : Int32), f_X10_put Z (9 + 4) (nI d * 3 + 0) v = some (zu Z (9 + 4) (3 * d + 0) v) := fun Z v => by rw [show (0 : Int32) = nI 0 from rfl, hi]; exact x_put (n := 18) (by decide +kernel) (by omega) (by omega)
    have s1 : ∀ (Z : zM) (v : Int32), f_X10_put Z (9 + 4) (nI d * 3 + 1) v = some (zu Z (9 + 4) (3 * d + 1) v) := fun Z v => by rw [show (1 : Int32) = nI 1 from rfl, hi]; exact x_put (n := 18) (by decide +kernel) (by omega) (by omega)
    have s2 : ∀ (Z : zM) (v : Int32), f_X10_put Z (9 + 4) (nI d * 3 + 2) v = some (zu Z (9 + 4) (3 * d + 2) v) := fun Z v => by rw [show (2 : Int32) = nI 2 from rfl, hi]; exact x_put (n := 18) (by decide +kernel) (by omega) (by omega)
    rw [f_X9_addDuty, k11, s0, zbn_s, ez, k11, s1, zbn_s, ez, ez, k11, s2, zbn_s, ez, ez, ez, k11, znm_e, nI_p1, hM3]
  obtain ⟨N5, hN5⟩ : ∃ Z, Z = zu (zu (zu (zu (zu N 1 (68 + 4 * d + 0) (nI p)) 1 (68 + 4 * d + 1) (nI f)) 1 (68 + 4 * d + 2) (nI t)) 1 (68 + 4 * d + 3) 0) 1 1 (nI (d + 1)) := ⟨_, rfl⟩
  have r4 : b_X11_readDuty_58 N (nI d) (nI p) (nI f) (nI t) = some (1, N5) := by
    have z0 : (1 : Int32).toNatClampNeg = 1 := rfl
    have e0 : zu (zu (zu (zu N 1 (68 + 4 * d + 0) (nI p)) 1 (68 + 4 * d + 1) (nI f)) 1 (68 + 4 * d + 2) (nI t)) 1 (68 + 4 * d + 3) 0 1 1 + 1 = nI (d + 1) := by
      rw [zu_at, if_neg (by omega), zu_at, if_neg (by omega), zu_at, if_neg (by omega), zu_at, if_neg (by omega), hd, nI_p1]
    have hm0 : ∀ Z : zM, f_X11_dutyAt Z (nI d) 0 = some (nI (68 + 4 * d + 0)) := fun Z => r_dutyAt (c := 0)
    have hm1 : ∀ Z : zM, f_X11_dutyAt Z (nI d) 1 = some (nI (68 + 4 * d + 1)) := fun Z => r_dutyAt (c := 1)
    have hm2 : ∀ Z : zM, f_X11_dutyAt Z (nI d) 2 = some (nI (68 + 4 * d + 2)) := fun Z => r_dutyAt (c := 2)
    have hm3 : ∀ Z : zM, f_X11_dutyAt Z (nI d) 3 = some (nI (68 + 4 * d + 3)) := fun Z => r_dutyAt (c := 3)
    rw [b_X11_readDuty_58, if_pos (by rw [i_le, i_lit0, i_nI (by omega)]; omega), hm0, zbn_s, zck_t (nI_lt_i (by omega) (by omega)), nI_cl (by omega), znm_e, hm1, zbn_s, zck_t (nI_lt_i (by omega) (by omega)), nI_cl (by omega), znm_e, hm2, zbn_s, zck_t (nI_lt_i (by omega) (by omega)), nI_cl (by omega), znm_e, hm3, zbn_s, zck_t (nI_lt_i (by omega) (by omega)), nI_cl (by omega), znm_e, zck_t (by decide), zck_t (by decide), znm_e, z0, e0, hN5]
  have row : ∀ j, N5 1 j = if j = 1 then nI (d + 1) else if j = 68 + 4 * d + 3 then 0 else if j = 68 + 4 * d + 2 then nI t else if j = 68 + 4 * d + 1 then nI f else if j = 68 + 4 * d + 0 then nI p else N 1 j := by
    intro j
    rw [hN5]
    simp only [zu_at, true_and]
  have h71 := ok.2.2.2 d hd6 (by rw [hd, i_nI (by omega)]; omega)
  have oth : ∀ j, j ≠ 1 → (j < 68 + 4 * d ∨ 72 + 4 * d ≤ j) → N5 1 j = N 1 j := fun j h1 h2 => by rw [row j, if_neg h1, if_neg (by omega), if_neg (by omega), if_neg (by omega), if_neg (by omega)]
  refine ⟨_, N5, x4, r4, ⟨h.1.world (fun q hq => by rw [zu_row (by omega), hM3, zu_row (by omega), zu_row (by omega), zu_row (by omega)]) (fun q hq => by rw [hN5, zu_row hq, zu_row hq, zu_row hq, zu_row hq, zu_row hq]), ?_, ?_⟩, ?_, ?_⟩
  · refine w5.row (fun j hj => ?_)
    rw [row j, upd_at, upd_at, upd_at, upd_at]
    by_cases e0 : j = 1
    · rw [if_pos e0, if_pos e0]
    · rw [if_neg e0, if_neg e0]
      by_cases e4 : j = 68 + 4 * d + 3
      · rw [if_pos e4, if_neg (by omega), if_neg (by omega), if_neg (by omega), e4, show 68 + 4 * d + 3 = 71 + 4 * d by omega, h71]
      · rw [if_neg e4]
  · refine ⟨fun j hj => ?_, ?_, fun m' hm' hle => ?_, fun m' hm' hle => ?_⟩
    · rw [row j]
      by_cases e0 : j = 1
      · rw [if_pos e0, e0, i_nI (by omega)]; show (0 : Int) ≤ _ ∧ _ ≤ (6 : Int); omega
      · rw [if_neg e0]
        by_cases e3 : j = 68 + 4 * d + 3
        · rw [if_pos e3, e3, (zlo_d hd6 (show 3 < 4 by omega)).1, (zlo_d hd6 (show 3 < 4 by omega)).2]; decide
        · rw [if_neg e3]
          by_cases e2 : j = 68 + 4 * d + 2
          · rw [if_pos e2, e2, (zlo_d hd6 (show 2 < 4 by omega)).1, (zlo_d hd6 (show 2 < 4 by omega)).2, i_nI (by omega)]; show (0 : Int) ≤ _ ∧ _ ≤ (999 : Int); omega
          · rw [if_neg e2]
            by_cases e1 : j = 68 + 4 * d + 1
            · rw [if_pos e1, e1, (zlo_d hd6 (show 1 < 4 by omega)).1, (zlo_d hd6 (show 1 < 4 by omega)).2, i_nI (by omega)]; show (0 : Int) ≤ _ ∧ _ ≤ (999 : Int); omega
            · rw [if_neg e1]
              by_cases e00 : j = 68 + 4 * d + 0
              · rw [if_pos e00, e00, (zlo_d hd6 (show 0 < 4 by omega)).1, (zlo_d hd6 (show 0 < 4 by omega)).2, i_nI (by omega)]; show (0 : Int) ≤ _ ∧ _ ≤ (11 : Int); omega
              · rw [if_neg e00]; exact ok.1 j hj
    · rw [oth 7 (by omega) (by omega), oth 8 (by omega) (by omega)]; exact ok.2.1
    · rw [oth 0 (by omega) (by omega)] at hle
      rw [oth _ (by omega) (by omega)]; exact ok.2.2.1 m' hm' hle
    · have r1 : N5 1 1 = nI (d + 1) := by rw [row 1, if_pos rfl]
      rw [r1, i_nI (by omega)] at hle
      rw [oth _ (by omega) (by omega)]; exact ok.2.2.2 m' hm' (by rw [hd, i_nI (by omega)]; omega)
  · intro q h1 h2; rw [zu_row (by omega), hM3, zu_row (by omega), zu_row (by omega), zu_row (by omega)]
  · refine ⟨⟨fun q _ h1 => by rw [hN5, zu_row h1, zu_row h1, zu_row h1, zu_row h1, zu_row h1], fun j _ _ => by rw [hN5, zu_row (by decide), zu_row (by decide), zu_row (by decide), zu_row (by decide), zu_row (by decide)]⟩, oth 2 (by omega) (by omega), oth 3 (by omega) (by omega), fun j hj => oth j (by omega) (by omega)⟩
theorem l_duty (h : zCo L T M N b) {d : Nat} (hd : N 1 1 = nI d) (hd6 : d < 6) : zOuc L T M N (zbn (f_X7_takeNumber M 0 11) (fun u_2 => if u_2.1 = ((-1)) then (some (0, u_2.2)) else (zbn (f_X7_takeWord u_2.2 10) (fun u_3 => if u_3.1 = 0 then (some (0, u_3.2)) else (zbn (f_X7_takeNumber u_3.2 0 999) (fun u_4 => if u_4.1 = ((-1)) then (some (0, u_4.2)) else (zbn (f_X7_takeWord u_4.2 11) (fun u_5 => if u_5.1 = 0 then (some (0, u_5.2)) else (zbn (f_X7_takeNumber u_5.2 u_4.1 999) (fun u_6 => if u_6.1 = ((-1)) then (some (0, u_6.2)) else (zbn (f_X9_addDuty u_6.2 9 u_2.1 u_4.1 u_6.1) (fun u_7 => some (1, u_7))))))))))))) (f_X11_readDuty N) := by
  have l11 : (11 : Int32).toInt = 11 := rfl
  have l9 : (999 : Int32).toInt = 999 := rfl
  have hmne : ¬ nI d = 6 := fun z => by rw [i_eq, i_nI (by omega)] at z; have : (d : Int) = 6 := z; omega
  have hr0 : f_X11_readDuty N = zbn (f_X11_number N 0 11) (fun u_14 => if 0 ≤ u_14.1 then (zbn (f_X11_after u_14.2 10 0 999) (fun u_15 => b_X11_readDuty_39 u_15.2 (nI d) u_14.1 u_15.1)) else (b_X11_readDuty_39 u_14.2 (nI d) u_14.1 ((-1)))) := by
    rw [f_X11_readDuty, r_duties, hd, zbn_s, if_neg hmne]
  have nm : ¬ (0 : Int32) ≤ -1 := by decide
  rw [hr0]
  rcases j_num h.1 (lo := 0) (hi := 11) (by decide) with ⟨M1, N1, b1, c1, c2, c3, c4, c5, c6, c7⟩ | ⟨c1, N1, c2, c3, c4, c5⟩
  · have hne := i_m (by decide) c3.1
    rw [i_lit0, l11] at c3
    obtain ⟨p, p1, p2⟩ := nI_get (x := zpn L M b) (by omega)
    rw [p2] at c1 c2 hne
    have hco := h.move c4 c5 c7
    rw [c1, c2, zbn_s, zbn_s]
    dsimp only
    rw [if_neg hne, if_pos (by rw [i_le, i_lit0, i_nI (by omega)]; omega), show (10 : Int32) = nI 10 from rfl, show f_X11_after N1 10 0 999 = f_X11_after N1 (zwi 10) 0 999 from rfl]
    rcases j_after hco.1 (i := 10) (by omega) (lo := 0) (hi' := 999) (by decide) with ⟨M2, M3, N3, b2, b3, d1, d2, d3, d4, d5, d6, d7, d8⟩ | ⟨Mf, bf, N3, d1, d2, d3, d4, d5⟩
    · rw [i_lit0, l9] at d4
      obtain ⟨f, P1, P2⟩ := nI_get (x := zpn L M1 b2) (by omega)
      have hne2 : ¬ nI f = -1 := fun z => by rw [z] at P2; rw [P2] at d4; exact absurd d4.1 (by decide)
      rw [P2] at d2 d3
      have hco2 := hco.move d5 d6 d8
      rw [d1, zbn_s, d3, zbn_s]
      dsimp only
      rw [if_neg n10, d2, zbn_s]
      dsimp only
      rw [if_neg hne2, b_X11_readDuty_39, if_pos (by rw [i_le, i_lit0, i_nI (by omega)]; omega), show (11 : Int32) = nI 11 from rfl, show f_X11_after N3 5 (nI f) 999 = f_X11_after N3 (zwi 11) (nI f) 999 from rfl]
      have hd3 : N3 1 1 = nI d := by rw [d8, c7]; exact hd
      rcases j_after hco2.1 (i := 11) (by omega) (lo := nI f) (hi' := 999) (by rw [i_nI (by omega)]; omega) with ⟨M4, M5, N5, b4, b5, e1, e2, e3, e4, e5, e6, e7, e8⟩ | ⟨Mf, bf, N5, e1, e2, e3, e4, e5⟩
      · rw [i_nI (by omega), l9] at e4
        obtain ⟨tt, g1, g2⟩ := nI_get (x := zpn L M3 b4) (by omega)
        have hne3 : ¬ nI tt = -1 := fun z => by rw [z] at g2; rw [g2] at e4; have : (f : Int) ≤ -1 := e4.1; omega
        rw [g2] at e2 e3
        have hco3 := hco2.move e5 e6 e8
        obtain ⟨M', N', a1, a2, a3, a4, a5⟩ := add_duty hco3 (d := d) (p := p) (f := f) (t := tt) (by rw [e8]; exact hd3) hd6 (by omega) (by omega) (by omega)
        left
        refine ⟨M', N', b5, ?_, ?_, a3, ((c5.cm.trans d6.cm).trans e6.cm).trans a4, (((c6.cn c7).trans (d7.cn d8)).trans (e7.cn e8)).trans a5⟩
        · rw [e1, zbn_s]
          dsimp only
          rw [if_neg n10, e2, zbn_s]
          dsimp only
          rw [if_neg hne3, a1, zbn_s]
        · rw [e3, zbn_s, a2]
      · right
        have hr : zbn (f_X11_after N3 (zwi 11) (nI f) 999) (fun u_11 => b_X11_readDuty_58 u_11.2 (nI d) (nI p) (nI f) u_11.1) = some (0, N5) := by
          rw [e1, zbn_s, b_X11_readDuty_58, if_neg nm]
        rcases e5 with ⟨f1, f2, f3⟩ | ⟨M4, f1, f2, f3, f4⟩
        · refine ⟨Mf, N5, bf, ?_, hr, f2, e2, (c5.cm.trans d6.cm).trans f3.cm, (c6.trans d7).trans e3⟩
          rw [f1, zbn_s, if_pos rfl]
        · refine ⟨Mf, N5, bf, ?_, hr, f3, e2, (c5.cm.trans d6.cm).trans f4.cm, (c6.trans d7).trans e3⟩
          rw [f1, zbn_s]
          dsimp only
          rw [if_neg n10, f2, zbn_s, if_pos rfl]
    · right
      have hr : zbn (f_X11_after N1 (zwi 10) 0 999) (fun u_15 => b_X11_readDuty_39 u_15.2 (nI d) (nI p) u_15.1) = some (0, N3) := by
        rw [d1, zbn_s, b_X11_readDuty_39, if_neg nm, b_X11_readDuty_58, if_neg nm]
      rcases d5 with ⟨e1, e2, e3⟩ | ⟨M2, e1, e2, e3, e4⟩
      · refine ⟨Mf, N3, bf, ?_, hr, e2, d2, c5.cm.trans e3.cm, c6.trans d3⟩
        rw [e1, zbn_s, if_pos rfl]
      · refine ⟨Mf, N3, bf, ?_, hr, e3, d2, c5.cm.trans e4.cm, c6.trans d3⟩
        rw [e1, zbn_s]
        dsimp only
        rw [if_neg n10, e2, zbn_s, if_pos rfl]
  · right
    refine ⟨_, N1, b, by rw [c1, zbn_s, if_pos rfl], ?_, by rw [zu_at, if_pos ⟨rfl, rfl⟩], c3, miss_f.cm, c4⟩
    rw [c2, zbn_s]
    dsimp only
    rw [if_neg nm, b_X11_readDuty_39, if_neg nm, b_X11_readDuty_58, if_neg nm]
theorem j_signed (h : zPr L M N b) {c : Nat} (hc : c < 332) : (∃ v M' N' b', f_X1_change M = some (v, M') ∧ ¬ v = -9 ∧ (-3 ≤ v.toInt ∧ v.toInt ≤ 3) ∧ f_X11_readSigned N (nI c) = some (1, zu N' 1 c v) ∧ zPr L M' N' b' ∧ zMf M M' ∧ zNf N N' ∧ N' 1 = N 1) ∨ (∃ M' N' bf, f_X1_change M = some (-9, M') ∧ f_X11_readSigned N (nI c) = some (0, N') ∧ M' 39 6 = nI bf ∧ zBf (N' 0 12) bf ∧ zMf M M' ∧ zNf N N') := by
  obtain ⟨u, u1, u2, u3, u4⟩ := x_word h
  have l3 : (3 : Int32).toInt = 3 := rfl
  have hlt : ¬ (-1 : Int32) < 0 → False := fun z => z (by decide)
  have hr0 : f_X11_readSigned N (nI c) = (if (if zwm M b (zle L M b) (zwi 13) then (1 : Int32) else 0) = 0 then (if (if zwm M b (zle L M b) (zwi 12) then (1 : Int32) else 0) = 0 then (b_X11_readSigned_34 (zNb N b (zle L M b)) (nI c) (if zwm M b (zle L M b) (zwi 13) then (1 : Int32) else 0) ((-1))) else (b_X11_readSigned_24 (zNb N b (zle L M b)) (nI c) (if zwm M b (zle L M b) (zwi 13) then (1 : Int32) else 0))) else (b_X11_readSigned_24 (zNb N b (zle L M b)) (nI c) (if zwm M b (zle L M b) (zwi 13) then (1 : Int32) else 0))) := by
    have e13 : f_X11_isWord (zNb N b (zle L M b)) 13 = some (if zwm M b (zle L M b) (zwi 13) then (1 : Int32) else 0) := r_isw h (i := 13) (by omega)
    have e14 : f_X11_isWord (zNb N b (zle L M b)) 14 = some (if zwm M b (zle L M b) (zwi 12) then (1 : Int32) else 0) := r_isw h (i := 12) (by omega)
    rw [f_X11_readSigned, r_let h, zbn_s, e13, zbn_s, e14, zbn_s]
  have body : ∀ (i : Nat) (less : Int32), (i = 12 ∧ less = 0 ∨ i = 13 ∧ less = 1) → zwm M b (zle L M b) (zwi i) = true → f_X1_change M = b_X1_change_31 M (nI i) → f_X11_readSigned N (nI c) = b_X11_readSigned_24 (zNb N b (zle L M b)) (nI c) less → (∃ v M' N' b', f_X1_change M = some (v, M') ∧ ¬ v = -9 ∧ (-3 ≤ v.toInt ∧ v.toInt ≤ 3) ∧ f_X11_readSigned N (nI c) = some (1, zu N' 1 c v) ∧ zPr L M' N' b' ∧ zMf M M' ∧ zNf N N' ∧ N' 1 = N 1) ∨ (∃ M' N' bf, f_X1_change M = some (-9, M') ∧ f_X11_readSigned N (nI c) = some (0, N') ∧ M' 39 6 = nI bf ∧ zBf (N' 0 12) bf ∧ zMf M M' ∧ zNf N N') := by
    intro i less hi hm ex er
    obtain ⟨M1, g1, g2, g3⟩ := j_go h (i := i) (by omega) hm
    rw [ex, er, b_X1_change_31, g1, zbn_s, b_X11_readSigned_24]
    rcases j_num g3 (lo := 0) (hi := 3) (by decide) with ⟨M', N', b', c1, c2, c3, c4, c5, c6, c7⟩ | ⟨c1, N', c2, c3, c4, c5⟩
    · left
      have hne := i_m (by decide) c3.1
      rw [i_lit0, l3] at c3
      obtain ⟨v, hv⟩ : ∃ v, v = zpn L M1 (zsk L M (zle L M b)) := ⟨_, rfl⟩
      rw [← hv] at c1 c2 c3 hne
      have hnn : ¬ v < 0 := by rw [i_lt, i_lit0]; omega
      have hneg : (-v).toInt = -v.toInt := by
        rw [show -v = 0 - v from (Int32.zero_sub v).symm, i_sub (by rw [i_lit0]; omega) (by rw [i_lit0]; omega), i_lit0]; omega
      rw [c1, zbn_s, c2, zbn_s]
      dsimp only
      rw [if_neg hne, b_X11_readSigned_34, if_neg hnn, b_X11_readSigned_54, b_X11_readSigned_54, zck_t (nI_lt_i (by omega) (by omega)), zck_t (nI_lt_i (by omega) (by omega)), nI_cl (by omega), znm_e, znm_e, b_X11_readSigned_55, b_X11_readSigned_55, if_neg hnn, if_neg hnn]
      rcases hi with ⟨rfl, rfl⟩ | ⟨rfl, rfl⟩
      · refine ⟨v, M', N', b', by rw [if_pos (show nI 12 = 12 from rfl)], fun z => ?_, by omega, by rw [if_pos rfl], c4, fun q hq => by rw [c5 q hq, g2 q hq], zNb_f.trans c6, by rw [c7, zNb_1]⟩
        rw [z] at c3; exact absurd c3.1 (by decide)
      · refine ⟨-v, M', N', b', by rw [if_neg (by decide)], fun z => ?_, by omega, by rw [if_neg n10], c4, fun q hq => by rw [c5 q hq, g2 q hq], zNb_f.trans c6, by rw [c7, zNb_1]⟩
        rw [z] at hneg; have : (-9 : Int) = -v.toInt := hneg; omega
    · right
      refine ⟨zu M1 39 6 _, N', _, by rw [c1, zbn_s, if_pos rfl], ?_, by rw [zu_at, if_pos ⟨rfl, rfl⟩], c3, fun q hq => by rw [zu_row hq, g2 q hq], zNb_f.trans c4⟩
      rw [c2, zbn_s, b_X11_readSigned_34, if_pos (show (-1 : Int32) < 0 by decide), b_X11_readSigned_55, if_pos (show (-1 : Int32) < 0 by decide)]
  cases m13 : zwm M b (zle L M b) (zwi 13) with
  | true =>
    have hu : u = nI 13 := (u2 13 (by omega)).mpr m13
    refine body 13 1 (Or.inr ⟨rfl, rfl⟩) m13 ?_ (by rw [hr0, m13, if_neg (by decide)]; rfl)
    rw [f_X1_change, u1, zbn_s, hu, if_neg (by decide), if_pos (show nI 13 = 13 from rfl)]
  | false =>
    rw [m13, if_pos (by decide)] at hr0
    have hu13 : ¬ u = nI 13 := fun z => by have := (u2 13 (by omega)).mp z; rw [m13] at this; exact absurd this (by decide)
    cases m12 : zwm M b (zle L M b) (zwi 12) with
    | true =>
      have hu : u = nI 12 := (u2 12 (by omega)).mpr m12
      refine body 12 0 (Or.inl ⟨rfl, rfl⟩) m12 ?_ (by rw [hr0, m12, if_neg (by decide)]; rfl)
      rw [f_X1_change, u1, zbn_s, hu, if_pos (show nI 12 = 12 from rfl)]
    | false =>
      rw [m12, if_pos (by decide)] at hr0
      have hu12 : ¬ u = nI 12 := fun z => by have := (u2 12 (by omega)).mp z; rw [m12] at this; exact absurd this (by decide)
      right
      refine ⟨zu M 39 6 (nI b), zNb N b (zle L M b), b, ?_, ?_, by rw [zu_at, if_pos ⟨rfl, rfl⟩], ⟨zNb_12, h.b4⟩, miss_f, zNb_f⟩
      · rw [f_X1_change, u1, zbn_s, if_neg (by exact hu12), if_neg (by exact hu13), h.miss, zbn_s]
      · rw [hr0, b_X11_readSigned_34, if_pos (by decide), b_X11_readSigned_55, if_pos (by decide)]
end
