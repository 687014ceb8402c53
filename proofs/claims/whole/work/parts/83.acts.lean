section
variable {t : Nat} {M N : zM}
theorem xw_all : ∀ s, s < 12 → (xl (53 + 6 * s + 1) = 12 ∧ xl (53 + 6 * s + 2) = 12 ∧ xl (53 + 6 * s + 3) = 24 ∧ xl (53 + 6 * s + 4) = 18 ∧ xl (53 + 6 * s + 5) = 60) ∧ xk (53 + 6 * s) = 8 := by decide +kernel
theorem xw_3 : xw 3 := by unfold xw; decide +kernel
theorem xw_9 : xw 9 := by unfold xw; decide +kernel
theorem xw_15 : xw 15 := by unfold xw; decide +kernel
theorem xw_p {s : Nat} (h : s < 12) : xw (53 + 6 * s) := (xw_all s h).1
theorem xlw_21 : xlw 21 := by unfold xlw; decide +kernel
theorem xlw_27 : xlw 27 := by unfold xlw; decide +kernel
theorem xlw_33 : xlw 33 := by unfold xlw; decide +kernel
theorem x_worldAt {o i : Nat} (ho : M 51 1 = nI o) (ho12 : o < 12) (hi : i < 12) : f_X5_worldAt M (nI i) = some (some (53 + 6 * ((o + i) % 12))) := by
  have e1 : (M 51 1 + nI i) - (M 51 1 + nI i) / 12 * 12 = nI ((o + i) % 12) := by
    have a1 := i_nI (n := o + i) (by omega)
    have a2 := i_nI (n := (o + i) % 12) (by omega)
    rw [ho, nI_add, i_eq, i_rem (by omega) (by decide), a1, a2]
    exact (Int.natCast_emod _ _).symm
  have hlt := Nat.mod_lt (o + i) (show 0 < 12 by omega)
  rw [f_X5_worldAt, zck_t (by decide), znm_e, e1, if_neg (by rw [i_lt, i_nI (by omega), i_lit0]; omega), if_neg (by rw [nI_12 (by omega)]; omega), zck_t (nI_lt_i hlt (by omega)), nI_cl (by omega)]
theorem s_remember (h : zRel t M N) : ∃ M' N', f_X5_remember M 3 = some M' ∧ f_X11_remembers N = some N' ∧ zRel t M' N' ∧ (∀ q, q < 51 → M' q = M q) ∧ (∀ q, q ≠ 0 → q ≠ 5 → N' q = N q) ∧ (∀ j, j ≠ 7 → N' 0 j = N 0 j) := by
  obtain ⟨p1, p2, p3, p4, p5, p6⟩ := h.past
  obtain ⟨S, s1, s2⟩ := nI_get (x := N 0 7) p2
  obtain ⟨o, o1, o2⟩ := nI_get (x := M 51 1) p4
  have hps : ∀ i, zPs M i = 53 + 6 * ((o + i) % 12) := fun i => by unfold zPs; rw [← o1]; rfl
  by_cases q : S = 12
  · -- full: the oldest goes
    subst q
    have hM2 : M 51 2 = 12 := by rw [p1, s2]; rfl
    have ho' : (M 51 1 + 1) - (M 51 1 + 1) / 12 * 12 = nI ((o + 1) % 12) := by
      have a1 := i_nI (n := o + 1) (by omega)
      have a2 := i_nI (n := (o + 1) % 12) (by omega)
      rw [o2, nI_p1, i_eq, i_rem (by omega) (by decide), a1, a2]
      exact (Int.natCast_emod _ _).symm
    obtain ⟨Z, hZ⟩ : ∃ Z, Z = zu (zu M 51 1 (nI ((o + 1) % 12))) 51 2 (nI 11) := ⟨_, rfl⟩
    have z1 : Z 51 1 = nI ((o + 1) % 12) := by rw [hZ, zu_at, if_neg (by decide), zu_at, if_pos ⟨rfl, rfl⟩]
    have z2 : Z 51 2 = nI 11 := by rw [hZ, zu_at, if_pos ⟨rfl, rfl⟩]
    have zr : ∀ q, q ≠ 51 → Z q = M q := fun q hq => by rw [hZ, zu_row hq, zu_row hq]
    have hsl : ((o + 1) % 12 + 11) % 12 = o := by omega
    have hw := x_worldAt (M := Z) z1 (by omega) (show 11 < 12 by omega)
    rw [hsl] at hw
    have ho12 : o < 12 := by omega
    have hwr : zWr (1200 * t) Z 3 (N 1) := h.w.eq6 (fun q _ _ => zr q (by omega))
    obtain ⟨Y, ey, uy, wy⟩ := hwr.cp (xw_p ho12) xw_3 (Or.inr (by omega))
    have ex : f_X5_remember M 3 = some (zu Y 51 2 12) := by
      have e2 : zu M 51 1 (nI ((o + 1) % 12)) 51 2 - 1 = nI 11 := by rw [zu_at, if_neg (by decide), hM2]; rfl
      rw [f_X5_remember, if_pos hM2, zck_t (by decide), znm_e, znm_e, ho', e2, ← hZ, z2, hw, zbn_s]
      show zck (decide (xk (53 + 6 * o) = 8)) _ = _
      rw [zck_t (by rw [(xw_all o ho12).2]; rfl), ey, zbn_s, znm_e, uy 51 (by omega), z2]
      rfl
    have hN7 : N 0 7 = 12 := by rw [s2]; rfl
    have er : f_X11_remembers N = some (zcpy (zcpy N 5 0 5 332 3652) 5 (332 * 11) 1 0 332) := by
      rw [f_X11_remembers, if_pos hN7, r_shift_cp (by omega), b_X11_remembers_40, b_X11_remembers_53, r_rem_cp (r := 11) (by rw [zcpy_row (by decide), hN7]; rfl) (by omega) (by omega)]
    refine ⟨_, _, ex, er, ?_, fun q hq => ?_, fun q h0 h5 => ?_, fun j hj => ?_⟩
    · have hQ : ∀ q, q ≠ 51 → ¬ (53 + 6 * o ≤ q ∧ q < 53 + 6 * o + 6) → zu Y 51 2 12 q = M q := fun q h1 h2 => by rw [zu_row h1, uy q h2, zr q h1]
      have n1 : zcpy (zcpy N 5 0 5 332 3652) 5 (332 * 11) 1 0 332 1 = N 1 := by rw [zcpy_row (by decide), zcpy_row (by decide)]
      have n2 : zcpy (zcpy N 5 0 5 332 3652) 5 (332 * 11) 1 0 332 2 = N 2 := by rw [zcpy_row (by decide), zcpy_row (by decide)]
      have n6 : zcpy (zcpy N 5 0 5 332 3652) 5 (332 * 11) 1 0 332 6 = N 6 := by rw [zcpy_row (by decide), zcpy_row (by decide)]
      have n0 : zcpy (zcpy N 5 0 5 332 3652) 5 (332 * 11) 1 0 332 0 = N 0 := by rw [zcpy_row (by decide), zcpy_row (by decide)]
      refine ⟨?_, ?_, ?_, ?_, ?_, ?_, ?_, ?_⟩
      · rw [n1]; exact h.w.eq6 (fun q _ _ => hQ q (by omega) (by omega))
      · rw [n1]; exact h.ok
      · rw [n1]; exact h.law.eq (by rw [hQ 21 (by omega) (by omega)]) (hQ _ (by omega) (by omega)) (hQ _ (by omega) (by omega)) (hQ _ (by omega) (by omega)) (hQ _ (by omega) (by omega))
      · exact h.tape.eq (by rw [hQ 1 (by omega) (by omega)]) (hQ _ (by omega) (by omega)) (by rw [n0]) n6
      · rw [hQ 0 (by omega) (by omega), n0]; exact h.fault
      · exact h.img.eq (by rw [hQ 0 (by omega) (by omega)]) (fun q _ _ => hQ _ (by omega) (by omega)) (fun q _ _ => hQ _ (by omega) (by omega)) (by rw [n0]) n2
      · have y1 : zu Y 51 2 12 51 1 = nI ((o + 1) % 12) := by rw [zu_at, if_neg (by decide), uy 51 (by omega), z1]
        have y2 : zu Y 51 2 12 51 2 = 12 := by rw [zu_at, if_pos ⟨rfl, rfl⟩]
        have hi1 := i_nI (n := (o + 1) % 12) (by omega)
        unfold zPast
        rw [n0, n1, hN7, y2, y1, hi1]
        refine ⟨rfl, by decide, by decide, by omega, by omega, fun i hi => ?_⟩
        have hi12 : i < 12 := by rw [show (12 : Int32).toInt = 12 from rfl] at hi; omega
        have hps' : zPs (zu Y 51 2 12) i = 53 + 6 * ((o + (i + 1)) % 12) := by
          unfold zPs; rw [y1, hi1]
          have : ((((o + 1) % 12 : Nat) : Int).toNat + i) % 12 = (o + (i + 1)) % 12 := by omega
          rw [this]
        rw [hps']
        by_cases q11 : i = 11
        · subst q11
          have hrow : ∀ j, j < 332 → zcpy (zcpy N 5 0 5 332 3652) 5 (332 * 11) 1 0 332 5 (332 * 11 + j) = N 1 j := fun j hj => by rw [zcpy_in hj, zcpy_row (by decide), Nat.zero_add]
          rw [show (o + (11 + 1)) % 12 = o by omega]
          refine ⟨((wy.eq6 (fun q _ _ => zu_row (by omega))).row (fun j hj => hrow j hj)), h.ok.row (fun j hj => hrow j hj), hrow 3 (by omega)⟩
        · have hrow : ∀ j, j < 332 → zcpy (zcpy N 5 0 5 332 3652) 5 (332 * 11) 1 0 332 5 (332 * i + j) = N 5 (332 * (i + 1) + j) := fun j hj => by
            rw [zcpy_out (by omega)]
            have := zcpy_in (M := N) (A := 5) (a0 := 0) (B := 5) (b0 := 332) (K := 3652) (i := 332 * i + j) (by omega)
            rw [Nat.zero_add] at this
            rw [this]; congr 1; omega
          obtain ⟨g1, g2, g3⟩ := p6 (i + 1) (by omega)
          rw [hps] at g1
          have hne : (o + (i + 1)) % 12 ≠ o := by omega
          have hlt := Nat.mod_lt (o + (i + 1)) (show 0 < 12 by omega)
          refine ⟨(g1.eq6 (fun q h1 h2 => hQ q (by omega) (by omega))).row (fun j hj => hrow j hj), g2.row (fun j hj => hrow j hj), ?_⟩
          rw [hrow 3 (by omega)]; exact g3
      · rw [hQ 40 (by omega) (by omega)]; exact h.words
    · rw [zu_row (by omega), uy q (by omega), zr q (by omega)]
    · rw [zcpy_row h5, zcpy_row h5]
    · rw [zcpy_row (by decide), zcpy_row (by decide)]
  · have hS : S < 12 := by omega
    have hM2 : M 51 2 = nI S := by rw [p1, s2]
    have hne : ¬ nI S = 12 := by rw [i_eq, i_nI (by omega)]; show ¬ (S : Int) = 12; omega
    have ho12 : o < 12 := by omega
    have hw := x_worldAt (M := M) o2 ho12 hS
    have hlt := Nat.mod_lt (o + S) (show 0 < 12 by omega)
    obtain ⟨Y, ey, uy, wy⟩ := h.w.cp (xw_p hlt) xw_3 (Or.inr (by omega))
    have ex : f_X5_remember M 3 = some (zu Y 51 2 (nI (S + 1))) := by
      rw [f_X5_remember, if_neg (by rw [hM2]; exact hne), hM2, hw, zbn_s]
      show zck (decide (xk (53 + 6 * ((o + S) % 12)) = 8)) _ = _
      rw [zck_t (by rw [(xw_all _ hlt).2]; rfl), ey, zbn_s, znm_e, uy 51 (by omega), hM2, nI_p1]
    have y7 : zu N 0 7 (nI (S + 1)) 0 7 = nI (S + 1) := by rw [zu_at, if_pos ⟨rfl, rfl⟩]
    have er : f_X11_remembers N = some (zcpy (zu N 0 7 (nI (S + 1))) 5 (332 * S) 1 0 332) := by
      rw [f_X11_remembers, if_neg (by rw [s2]; exact hne), znm_e, s2, nI_p1, b_X11_remembers_53, r_rem_cp (r := S) y7 hS (by omega)]
    have n1 : zcpy (zu N 0 7 (nI (S + 1))) 5 (332 * S) 1 0 332 1 = N 1 := by rw [zcpy_row (by decide), zu_row (by decide)]
    have n2 : zcpy (zu N 0 7 (nI (S + 1))) 5 (332 * S) 1 0 332 2 = N 2 := by rw [zcpy_row (by decide), zu_row (by decide)]
    have n6 : zcpy (zu N 0 7 (nI (S + 1))) 5 (332 * S) 1 0 332 6 = N 6 := by rw [zcpy_row (by decide), zu_row (by decide)]
    have n0 : ∀ j, j ≠ 7 → zcpy (zu N 0 7 (nI (S + 1))) 5 (332 * S) 1 0 332 0 j = N 0 j := fun j hj => by rw [zcpy_row (by decide), zu_at, if_neg (by omega)]
    have n07 : zcpy (zu N 0 7 (nI (S + 1))) 5 (332 * S) 1 0 332 0 7 = nI (S + 1) := by rw [zcpy_row (by decide), y7]
    refine ⟨_, _, ex, er, ?_, fun q hq => ?_, fun q h0 h5 => ?_, n0⟩
    · have hQ : ∀ q, q ≠ 51 → ¬ (53 + 6 * ((o + S) % 12) ≤ q ∧ q < 53 + 6 * ((o + S) % 12) + 6) → zu Y 51 2 (nI (S + 1)) q = M q := fun q h1 h2 => by rw [zu_row h1, uy q h2]
      refine ⟨?_, ?_, ?_, ?_, ?_, ?_, ?_, ?_⟩
      · rw [n1]; exact h.w.eq6 (fun q _ _ => hQ q (by omega) (by omega))
      · rw [n1]; exact h.ok
      · rw [n1]; exact h.law.eq (by rw [hQ 21 (by omega) (by omega)]) (hQ _ (by omega) (by omega)) (hQ _ (by omega) (by omega)) (hQ _ (by omega) (by omega)) (hQ _ (by omega) (by omega))
      · exact h.tape.eq (by rw [hQ 1 (by omega) (by omega)]) (hQ _ (by omega) (by omega)) (n0 _ (by omega)) n6
      · rw [hQ 0 (by omega) (by omega), n0 _ (by omega)]; exact h.fault
      · exact h.img.eq (by rw [hQ 0 (by omega) (by omega)]) (fun q _ _ => hQ _ (by omega) (by omega)) (fun q _ _ => hQ _ (by omega) (by omega)) (n0 _ (by omega)) n2
      · have y1 : zu Y 51 2 (nI (S + 1)) 51 1 = nI o := by rw [zu_at, if_neg (by decide), uy 51 (by omega), o2]
        have y2 : zu Y 51 2 (nI (S + 1)) 51 2 = nI (S + 1) := by rw [zu_at, if_pos ⟨rfl, rfl⟩]
        have hi1 := i_nI (n := o) (by omega)
        have hi2 := i_nI (n := S + 1) (by omega)
        unfold zPast
        rw [n07, n1, y2, y1, hi1, hi2]
        refine ⟨rfl, by omega, by omega, by omega, by omega, fun i hi => ?_⟩
        have hps' : zPs (zu Y 51 2 (nI (S + 1))) i = 53 + 6 * ((o + i) % 12) := by
          unfold zPs; rw [y1, hi1]; rfl
        rw [hps']
        by_cases q11 : i = S
        · subst q11
          have hrow : ∀ j, j < 332 → zcpy (zu N 0 7 (nI (i + 1))) 5 (332 * i) 1 0 332 5 (332 * i + j) = N 1 j := fun j hj => by rw [zcpy_in hj, zu_row (by decide), Nat.zero_add]
          refine ⟨((wy.eq6 (fun q _ _ => zu_row (by omega))).row (fun j hj => hrow j hj)), h.ok.row (fun j hj => hrow j hj), hrow 3 (by omega)⟩
        · have hrow : ∀ j, j < 332 → zcpy (zu N 0 7 (nI (S + 1))) 5 (332 * S) 1 0 332 5 (332 * i + j) = N 5 (332 * i + j) := fun j hj => by
            rw [zcpy_out (by omega), zu_row (by decide)]
          obtain ⟨g1, g2, g3⟩ := p6 i (by omega)
          rw [hps] at g1
          have hne : (o + i) % 12 ≠ (o + S) % 12 := by omega
          have hlt2 := Nat.mod_lt (o + i) (show 0 < 12 by omega)
          refine ⟨(g1.eq6 (fun q h1 h2 => hQ q (by omega) (by omega))).row (fun j hj => hrow j hj), g2.row (fun j hj => hrow j hj), ?_⟩
          rw [hrow 3 (by omega)]; exact g3
      · rw [hQ 40 (by omega) (by omega)]; exact h.words
    · rw [zu_row (by omega), uy q (by omega)]
    · rw [zcpy_row h5, zu_row h0]
theorem s_undo (t : Nat) : zs_undo (zRel t) (zRel (t + 1)) := by
  intro M N h
  obtain ⟨p1, p2, p3, p4, p5, p6⟩ := h.past
  obtain ⟨S, s1, s2⟩ := nI_get (x := N 0 7) p2
  obtain ⟨o, o1, o2⟩ := nI_get (x := M 51 1) p4
  have y7 : zu N 0 0 0 0 7 = N 0 7 := zu00_0 (by decide)
  by_cases q : S = 0
  · subst q
    have h0 : M 51 2 = 0 := by rw [p1, s2]; rfl
    refine ⟨0, M, zu N 0 0 0, ?_, ?_, (h.thr 0).more⟩
    · rw [f_X10_undo, f_X5_recall, h0, if_pos (by decide), zbn_s, zck_t (by exact (show zbl 0 = true by decide))]
    · rw [f_X11_undo, znm_e, y7, s2, if_pos (show nI 0 = 0 from rfl)]
  · obtain ⟨S, rfl⟩ : ∃ k, S = k + 1 := ⟨S - 1, by omega⟩
    have hS : S < 12 := by omega
    have ho12 : o < 12 := by omega
    have hM2 : M 51 2 = nI (S + 1) := by rw [p1, s2]
    have hlt := Nat.mod_lt (o + S) (show 0 < 12 by omega)
    obtain ⟨g1, g2, g3⟩ := p6 S (by omega)
    have hps : ∀ i, zPs M i = 53 + 6 * ((o + i) % 12) := fun i => by unfold zPs; rw [← o1]; rfl
    rw [hps] at g1
    obtain ⟨Y, ey, uy, wy⟩ := g1.cp xw_3 (xw_p hlt) (Or.inl (by omega))
    have ex : f_X10_undo M = some (1, zu Y 51 2 (nI S)) := by
      rw [f_X10_undo, f_X5_recall, hM2, if_neg (by rw [i_le, i_nI (by omega), i_lit0]; omega), nI_m1, x_worldAt o2 ho12 hS, zbn_s]
      show zbn (zck (decide (xk (53 + 6 * ((o + S) % 12)) = 8)) _) _ = _
      rw [zck_t (by rw [(xw_all _ hlt).2]; rfl), ey, zbn_s, znm_e, zbn_s, zck_t (by exact (show zbl 1 = true by decide)), uy 51 (by omega), hM2, nI_m1]
    have e7 : zu (zu N 0 0 0) 0 7 (nI S) 0 7 = nI S := by rw [zu_at, if_pos ⟨rfl, rfl⟩]
    have er : f_X11_undo N = some (1, zcpy (zu (zu N 0 0 0) 0 7 (nI S)) 1 0 5 (332 * S) 332) := by
      rw [f_X11_undo, znm_e, y7, s2, if_neg (by rw [i_eq, i_nI (by omega), i_lit0]; omega), znm_e, nI_m1, r_undo_cp (r := S) e7 hS (by omega)]
    refine ⟨1, _, _, ex, er, ?_⟩
    have n0 : ∀ j, j ≠ 0 → j ≠ 7 → zcpy (zu (zu N 0 0 0) 0 7 (nI S)) 1 0 5 (332 * S) 332 0 j = N 0 j := fun j h0 hj => by rw [zcpy_row (by decide), zu_at, if_neg (by omega), zu_at, if_neg (by omega)]
    have n07 : zcpy (zu (zu N 0 0 0) 0 7 (nI S)) 1 0 5 (332 * S) 332 0 7 = nI S := by rw [zcpy_row (by decide), e7]
    have nr : ∀ q, 2 ≤ q → zcpy (zu (zu N 0 0 0) 0 7 (nI S)) 1 0 5 (332 * S) 332 q = N q := fun q hq => by rw [zcpy_row (by omega), zu_row (by omega), zu_row (by omega)]
    have n1 : ∀ j, j < 332 → zcpy (zu (zu N 0 0 0) 0 7 (nI S)) 1 0 5 (332 * S) 332 1 j = N 5 (332 * S + j) := fun j hj => by
      have := zcpy_in (M := zu (zu N 0 0 0) 0 7 (nI S)) (A := 1) (a0 := 0) (B := 5) (b0 := 332 * S) (K := 332) (i := j) hj
      rw [Nat.zero_add] at this
      rw [this, zu_row (by decide), zu_row (by decide)]
    have n1' : ∀ j, 332 ≤ j → zcpy (zu (zu N 0 0 0) 0 7 (nI S)) 1 0 5 (332 * S) 332 1 j = N 1 j := fun j hj => by rw [zcpy_out (by omega), zu_row (by decide), zu_row (by decide)]
    have hQ : ∀ q, q ≠ 51 → ¬ (3 ≤ q ∧ q < 9) → zu Y 51 2 (nI S) q = M q := fun q h1 h2 => by rw [zu_row h1, uy q (by omega)]
    refine ⟨?_, ?_, ?_, ?_, ?_, ?_, ?_, ?_⟩
    · exact ((wy.more (by omega)).eq6 (fun q _ _ => zu_row (by omega))).row n1
    · exact g2.row n1
    · refine (h.law.eq (M' := zu Y 51 2 (nI S)) (by rw [hQ 21 (by omega) (by omega)]) (hQ _ (by omega) (by omega)) (hQ _ (by omega) (by omega)) (hQ _ (by omega) (by omega)) (hQ _ (by omega) (by omega))).row ?_ (fun j h1 h2 => n1' j h1)
      rw [n1 3 (by omega)]; exact g3
    · exact h.tape.eq (by rw [hQ 1 (by omega) (by omega)]) (hQ _ (by omega) (by omega)) (n0 _ (by omega) (by omega)) (nr _ (by omega))
    · rw [hQ 0 (by omega) (by omega), n0 _ (by omega) (by omega)]; exact h.fault
    · exact (h.img.more (by omega)).eq (by rw [hQ 0 (by omega) (by omega)]) (fun q _ _ => hQ _ (by omega) (by omega)) (fun q _ _ => hQ _ (by omega) (by omega)) (n0 _ (by omega) (by omega)) (nr _ (by omega))
    · have y1 : zu Y 51 2 (nI S) 51 1 = nI o := by rw [zu_at, if_neg (by decide), uy 51 (by omega), o2]
      have y2 : zu Y 51 2 (nI S) 51 2 = nI S := by rw [zu_at, if_pos ⟨rfl, rfl⟩]
      have hi1 := i_nI (n := o) (by omega)
      have hi2 := i_nI (n := S) (by omega)
      unfold zPast
      rw [n07, y2, y1, hi1, hi2, nr 5 (by omega), n1 3 (by omega), g3]
      refine ⟨rfl, by omega, by omega, by omega, by omega, fun i hi => ?_⟩
      have hps' : zPs (zu Y 51 2 (nI S)) i = 53 + 6 * ((o + i) % 12) := by
        unfold zPs; rw [y1, hi1]; rfl
      rw [hps']
      obtain ⟨f1, f2, f3⟩ := p6 i (by omega)
      rw [hps] at f1
      exact ⟨(f1.more (by omega)).eq6 (fun q h1 h2 => hQ q (by omega) (by omega)), f2, f3⟩
    · rw [hQ 40 (by omega) (by omega)]; exact h.words
theorem s_image (t : Nat) : zs_image (zRel t) (zRel (t + 1)) := by
  intro M N h
  obtain ⟨Y, ey, uy, wy⟩ := h.w.cp xw_15 xw_3 (Or.inr (by omega))
  have hl : zLaw Y 21 (N 1) := h.law.eq (by rw [uy 21 (by omega)]) (uy _ (by omega)) (uy _ (by omega)) (uy _ (by omega)) (uy _ (by omega))
  obtain ⟨X, ex, ux, lx, -⟩ := x_lawCopy hl xlw_33 xlw_21 (Or.inr (by omega))
  have efx : f_X10_image M = some (zu X 0 14 1) := by rw [f_X10_image, ey, zbn_s, ex, zbn_s, znm_e]
  have efr : f_X11_image N = some (zu (zcpy (zu N 0 0 0) 2 0 1 0 1181) 0 6 1) := by rw [f_X11_image, znm_e, r_image_cp (by omega), b_X11_image_32, znm_e]
  refine ⟨_, _, efx, efr, ?_⟩
  have hQ : ∀ q, q ≠ 0 → ¬ (15 ≤ q ∧ q < 21) → ¬ (33 ≤ q ∧ q < 38) → zu X 0 14 1 q = M q := fun q h1 h2 h3 => by rw [zu_row h1, ux q (by omega), uy q (by omega)]
  have hQ0 : ∀ j, j ≠ 14 → zu X 0 14 1 0 j = M 0 j := fun j hj => by rw [zu_at, if_neg (by omega), ux 0 (by omega), uy 0 (by omega)]
  have n0 : ∀ j, j ≠ 0 → j ≠ 6 → zu (zcpy (zu N 0 0 0) 2 0 1 0 1181) 0 6 1 0 j = N 0 j := fun j h0 hj => by rw [zu_at, if_neg (by omega), zcpy_row (by decide), zu_at, if_neg (by omega)]
  have n06 : zu (zcpy (zu N 0 0 0) 2 0 1 0 1181) 0 6 1 0 6 = 1 := by rw [zu_at, if_pos ⟨rfl, rfl⟩]
  have nr : ∀ q, q ≠ 0 → q ≠ 2 → zu (zcpy (zu N 0 0 0) 2 0 1 0 1181) 0 6 1 q = N q := fun q h0 h2 => by rw [zu_row h0, zcpy_row h2, zu_row h0]
  have n2 : ∀ j, j < 1181 → zu (zcpy (zu N 0 0 0) 2 0 1 0 1181) 0 6 1 2 j = N 1 j := fun j hj => by
    have := zcpy_in (M := zu N 0 0 0) (A := 2) (a0 := 0) (B := 1) (b0 := 0) (K := 1181) (i := j) hj
    rw [Nat.zero_add] at this
    rw [zu_row (by decide), this, zu_row (by decide)]
  refine ⟨?_, ?_, ?_, ?_, ?_, ?_, ?_, ?_⟩
  · rw [nr 1 (by decide) (by decide)]; exact (h.w.more (by omega)).eq6 (fun q _ _ => hQ q (by omega) (by omega) (by omega))
  · rw [nr 1 (by decide) (by decide)]; exact h.ok
  · rw [nr 1 (by decide) (by decide)]; exact h.law.eq (by rw [hQ 21 (by omega) (by omega) (by omega)]) (hQ _ (by omega) (by omega) (by omega)) (hQ _ (by omega) (by omega) (by omega)) (hQ _ (by omega) (by omega) (by omega)) (hQ _ (by omega) (by omega) (by omega))
  · exact h.tape.eq (by rw [hQ 1 (by omega) (by omega) (by omega)]) (hQ _ (by omega) (by omega) (by omega)) (n0 _ (by omega) (by omega)) (nr _ (by omega) (by omega))
  · rw [hQ0 _ (by omega), n0 _ (by omega) (by omega)]; exact h.fault
  · unfold zImg
    rw [n06, zu_at, if_pos ⟨rfl, rfl⟩]
    refine ⟨rfl, Or.inr ⟨rfl, ?_, ?_, ?_⟩⟩
    · exact ((wy.more (by omega)).eq6 (fun q h1 h2 => by rw [zu_row (by omega), ux q (by omega)])).row (fun j hj => n2 j (by omega))
    · exact h.ok.row (fun j hj => n2 j (by omega))
    · exact (lx.eq (M' := zu X 0 14 1) (by rw [zu_row (by omega)]) (zu_row (by omega)) (zu_row (by omega)) (zu_row (by omega)) (zu_row (by omega))).row (n2 3 (by omega)) (fun j h1 h2 => n2 j h2)
  · exact (h.past.more (by omega)).eq (hQ _ (by omega) (by omega) (by omega)) (fun q _ _ => hQ _ (by omega) (by omega) (by omega)) (n0 _ (by omega) (by omega)) (nr _ (by omega) (by omega)) (by rw [nr 1 (by decide) (by decide)])
  · rw [hQ 40 (by omega) (by omega) (by omega)]; exact h.words
theorem s_back (t : Nat) : zs_back (zRel t) (zRel (t + 1)) := by
  intro M N h
  have y6 : zu N 0 0 0 0 6 = N 0 6 := zu00_0 (by decide)
  rcases h.img.2 with q | ⟨q, i1, i2, i3⟩
  · have h0 : M 0 14 = 0 := by rw [h.img.1, q]
    exact ⟨0, M, zu N 0 0 0, by rw [f_X10_back, if_pos h0], by rw [f_X11_back, znm_e, y6, q, if_pos rfl], (h.thr 0).more⟩
  · have h0 : M 0 14 = 1 := by rw [h.img.1, q]
    obtain ⟨Y, ey, uy, wy⟩ := i1.cp xw_3 xw_15 (Or.inl (by omega))
    have hl : zLaw Y 33 (N 2) := i3.eq (by rw [uy 33 (by omega)]) (uy _ (by omega)) (uy _ (by omega)) (uy _ (by omega)) (uy _ (by omega))
    obtain ⟨X, ex, ux, lx, -⟩ := x_lawCopy hl xlw_21 xlw_33 (Or.inl (by omega))
    have efx : f_X10_back M = some (1, zu X 51 2 0) := by rw [f_X10_back, if_neg (by rw [h0]; decide), ey, zbn_s, ex, zbn_s, f_X5_forget, znm_e, zbn_s]
    have efr : f_X11_back N = some (1, zu (zcpy (zu N 0 0 0) 1 0 2 0 1181) 0 7 0) := by rw [f_X11_back, znm_e, y6, q, if_neg (by decide), r_back_cp (by omega), b_X11_back_41, znm_e]
    refine ⟨1, _, _, efx, efr, ?_⟩
    have hQ : ∀ q, q ≠ 51 → ¬ (3 ≤ q ∧ q < 9) → ¬ (21 ≤ q ∧ q < 26) → zu X 51 2 0 q = M q := fun q h1 h2 h3 => by rw [zu_row h1, ux q (by omega), uy q (by omega)]
    have n0 : ∀ j, j ≠ 0 → j ≠ 7 → zu (zcpy (zu N 0 0 0) 1 0 2 0 1181) 0 7 0 0 j = N 0 j := fun j h0 hj => by rw [zu_at, if_neg (by omega), zcpy_row (by decide), zu_at, if_neg (by omega)]
    have nr : ∀ q, q ≠ 0 → q ≠ 1 → zu (zcpy (zu N 0 0 0) 1 0 2 0 1181) 0 7 0 q = N q := fun q h0 h2 => by rw [zu_row h0, zcpy_row h2, zu_row h0]
    have n1 : ∀ j, j < 1181 → zu (zcpy (zu N 0 0 0) 1 0 2 0 1181) 0 7 0 1 j = N 2 j := fun j hj => by
      have := zcpy_in (M := zu N 0 0 0) (A := 1) (a0 := 0) (B := 2) (b0 := 0) (K := 1181) (i := j) hj
      rw [Nat.zero_add] at this
      rw [zu_row (by decide), this, zu_row (by decide)]
    refine ⟨?_, ?_, ?_, ?_, ?_, ?_, ?_, ?_⟩
    · exact ((wy.more (by omega)).eq6 (fun q h1 h2 => by rw [zu_row (by omega), ux q (by omega)])).row (fun j hj => n1 j (by omega))
    · exact i2.row (fun j hj => n1 j (by omega))
    · exact (lx.eq (M' := zu X 51 2 0) (by rw [zu_row (by omega)]) (zu_row (by omega)) (zu_row (by omega)) (zu_row (by omega)) (zu_row (by omega))).row (n1 3 (by omega)) (fun j h1 h2 => n1 j h2)
    · exact h.tape.eq (by rw [hQ 1 (by omega) (by omega) (by omega)]) (hQ _ (by omega) (by omega) (by omega)) (n0 _ (by omega) (by omega)) (nr _ (by omega) (by omega))
    · rw [hQ 0 (by omega) (by omega) (by omega), n0 _ (by omega) (by omega)]; exact h.fault
    · exact (h.img.more (by omega)).eq (by rw [hQ 0 (by omega) (by omega) (by omega)]) (fun q _ _ => hQ _ (by omega) (by omega) (by omega)) (fun q _ _ => hQ _ (by omega) (by omega) (by omega)) (n0 _ (by omega) (by omega)) (nr _ (by omega) (by omega))
    · refine zPast.none (by rw [zu_at, if_pos ⟨rfl, rfl⟩]) (by rw [zu_at, if_pos ⟨rfl, rfl⟩]) ?_
      rw [zu_at, if_neg (by decide), ux 51 (by omega), uy 51 (by omega)]
      exact ⟨h.past.2.2.2.1, h.past.2.2.2.2.1⟩
    · rw [hQ 40 (by omega) (by omega) (by omega)]; exact h.words
end
