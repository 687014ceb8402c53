section
variable {L : Nat} {T : Int} {M M' N N' : zM} {b : Nat}
theorem zCn.nf (h : zCn N N') : zNf N N' := h.1
theorem j_coast (hL : L ≤ 400) (h11 : M 1 1 = nI L) (hb : ∀ j, j < 400 → 0 ≤ (M 2 j).toInt ∧ (M 2 j).toInt ≤ 255 ∧ N 6 j = (M 2 j).toInt8.toInt32) (hw : ∀ j, j < 154 → M 40 j = zWds.getD j 0) (h9 : N 0 9 = nI L) (wr : zWr T M 9 (N 1)) (ok : zOk (N 1)) :
    (∃ M' N' m, f_X1_read M 9 = some (-1, M') ∧ f_X11_readAll N 1 = some (nI m, N') ∧ m ≤ 14 ∧ zWr T M' 9 (N' 1) ∧ zOk (N' 1) ∧ zCm M M' ∧ zCn (zUz N L) N') ∨ (∃ M' N' bf, f_X1_read M 9 = some (nI bf, M') ∧ f_X11_readAll N 1 = some (-1, N') ∧ zBf (N' 0 12) bf ∧ zCm M M' ∧ zNf (zUz N L) N') := by
  have e1 : zUz N L 1 = N 1 := zUz_q (by decide)
  obtain ⟨M3, o1, o2, o3⟩ := j_open (N := zUz N L) hL h11 (fun j hj => by rw [zUz_q (by decide)]; exact hb j hj) hw (by rw [zUz_0]; rfl) (by rw [zUz_0]; rfl)
  have hbL := o3.bL
  obtain ⟨b0, hb0⟩ : ∃ b0, b0 = zsk L M 0 := ⟨_, rfl⟩
  rw [← hb0] at o3 hbL
  have co : zCo L T M3 (zNb (zUz N L) b0 b0) b0 := ⟨o3.bb, by rw [zNb_1, e1]; exact wr.eq6 (fun q _ _ => o2 q (by omega)), by rw [zNb_1, e1]; exact ok⟩
  have e11 : zNb (zUz N L) b0 b0 0 11 = nI L := by rw [zNb_16 (by decide) (by decide), zUz_0]; rfl
  rw [r_readAll h9, r_bl o3, zbn_s, zNb_10, e11, f_X1_read, o1, zbn_s, x_ended o3, zbn_s]
  by_cases q : b0 = L
  · left
    rw [if_pos q, if_neg n10, if_pos (by rw [q])]
    exact ⟨M3, _, 0, rfl, rfl, by omega, co.2.1, co.2.2, o2.cm, zNb_f.cn zNb_1⟩
  · rw [if_neg q, if_pos rfl, if_neg (fun z => q (by rw [i_eq, i_nI (by omega), i_nI (by omega)] at z; omega))]
    have lp := read_loop (L := L) (K := 14) (x1 := 1) (Or.inr ⟨rfl, rfl⟩) (F := fun n M x => b_X1_read_21 9 n M x) (line := fun M => f_X1_line M 9)
      (I := fun _ M' N' b' => zCo L T M' N' b' ∧ zCm M M' ∧ zCn (zUz N L) N') (Q := fun M' N' => zCm M M' ∧ zNf (zUz N L) N')
      (fun n Z x => by
        show b_X1_read_21 9 (n + 1) Z x = _
        rw [b_X1_read_21]; rfl)
      (fun n M' N' b' h => h.1.1)
      (fun n M1 N1 b1 M2 N2 b2 h p _ hm hn h1 => ⟨h.1.move p hm h1, h.2.1.trans hm.cm, h.2.2.trans (hn.cn h1)⟩)
      (fun n M1 N1 b1 M2 N2 h hm hn h1 => ⟨h.2.1.trans hm.cm, h.2.2.nf.trans hn⟩)
      (fun n M1 N1 b1 h hn => by
        rcases l_line h.1 (i := n) hn with ⟨M2, N2, b2, c1, c2, c3, c4, c5⟩ | ⟨M2, N2, bf, c1, c2, c3, c4, c5, c6⟩
        · exact Or.inl ⟨M2, N2, b2, c1, c2, c3, h.2.1.trans c4, h.2.2.trans c5⟩
        · exact Or.inr ⟨M2, N2, bf, c1, c2, c3, c4, h.2.1.trans c5, h.2.2.nf.trans c6⟩)
      14 0 6000 6000 M3 (zNb (zUz N L) b0 b0) b0 (by omega) (by omega) (by omega) ⟨co, o2.cm, zNb_f.cn zNb_1⟩
    rcases lp with ⟨M2, N2, b2, m, c1, c2, c3, c4⟩ | ⟨M2, N2, bf, c1, c2, c3, c4⟩
    · exact Or.inl ⟨M2, N2, m, c1, c2, c4, c3.1.2.1, c3.1.2.2, c3.2.1, c3.2.2⟩
    · exact Or.inr ⟨M2, N2, bf, c1, c2, c3, c4.1, c4.2⟩
theorem r_coast_cp {n : Nat} (hn : 1181 < n) : b_X11_coast_2 n M 0 = b_X11_coast_27 (zcpy M 3 0 1 0 1181) := by
  refine cp_loop (L := b_X11_coast_2) (A := 3) (a0 := 0) (B := 1) (b0 := 0) (K := 1181) (Or.inl (by decide)) (fun n i hi => ?_) (fun n => ?_) hn
  · rw [b_X11_coast_2, if_neg (by exact nI_cond (K := 1181) hi (by omega)), zck_t (nI_lt_i (by omega) (by omega)), zck_t (nI_lt_i (by omega) (by omega)), znm_e, znm_e, nI_cl (by omega), nI_p1, Nat.zero_add]
  · rw [b_X11_coast_2, if_pos (show (1181 : Int32) ≤ nI 1181 by decide)]
theorem r_coast_bk {n : Nat} (hn : 1181 < n) : b_X11_coast_92 n M 0 = some (0, zcpy M 1 0 3 0 1181) := by
  refine cp_loop (L := b_X11_coast_92) (C := fun Z => some (0, Z)) (A := 1) (a0 := 0) (B := 3) (b0 := 0) (K := 1181) (Or.inl (by decide)) (fun n i hi => ?_) (fun n => ?_) hn
  · rw [b_X11_coast_92, if_neg (by exact nI_cond (K := 1181) hi (by omega)), zck_t (nI_lt_i (by omega) (by omega)), zck_t (nI_lt_i (by omega) (by omega)), znm_e, znm_e, nI_cl (by omega), nI_p1, Nat.zero_add]
  · rw [b_X11_coast_92, if_pos (show (1181 : Int32) ≤ nI 1181 by decide)]
theorem nI_ne1 {n : Nat} (h : n < 2147483648) : ¬ nI n = -1 := fun z => by rw [i_eq, i_nI h] at z; exact absurd z (by show ¬ (n : Int) = -1; omega)
theorem s_coast (t : Nat) : zs_coast (zRel t) (zRel (t + 1)) := by
  intro M N h
  obtain ⟨L, hL1, hL2⟩ := nI_get (x := N 0 9) h.tape.2.1
  have hL : L ≤ 400 := by have := h.tape.2.2.1; omega
  obtain ⟨M1, e1, u1, w1⟩ := h.w.cp xw_9 xw_3 (Or.inr (by omega))
  obtain ⟨Nc, hNc⟩ : ∃ Z, Z = zcpy N 3 0 1 0 1181 := ⟨_, rfl⟩
  have nc : ∀ q, q ≠ 3 → Nc q = N q := fun q hq => by rw [hNc, zcpy_row hq]
  have nc3 : ∀ j, j < 1181 → Nc 3 j = N 1 j := fun j hj => by
    have := zcpy_in (M := N) (A := 3) (a0 := 0) (B := 1) (b0 := 0) (K := 1181) (i := j) hj
    rw [Nat.zero_add] at this
    rw [hNc, this]
  have hX : f_X10_coast M = zbn (f_X1_read M1 9) (fun u_3 => znm (zu u_3.2 0 13 u_3.1) (fun M_4 => znm (zu M_4 1 1 0) (fun M_5 => if (M_5 0 13) = ((-1)) then (if (M_5 3 9) < 12 then (zbn (f_X9_copyFrom M_5 3 9) (fun u_6 => znm (zu u_6 3 9 ((u_6 3 9) + 1)) (fun M_7 => zbn (f_X5_forget M_7) (fun u_8 => some (u_8, .inr (u_8 3 9)))))) else (some (M_5, .inl 4))) else (some (M_5, .inl 1))))) := by
    rw [f_X10_coast, f_X10_trialCopy, e1, zbn_s, zbn_s, zmo_s, zck_t (by decide)]
  have hR : f_X11_coast N = b_X11_coast_27 Nc := by
    rw [f_X11_coast, r_coast_cp (by omega), hNc]
  have hc1 : Nc 1 = N 1 := nc 1 (by decide)
  have rd := j_coast (M := M1) (N := Nc) (T := 1200 * t) hL (by rw [u1 1 (by omega), h.tape.1]; exact hL2) (fun j hj => by rw [u1 2 (by omega), nc 6 (by decide)]; exact h.tape.2.2.2 j hj) (by rw [u1 40 (by omega)]; exact h.words) (by rw [nc 0 (by decide)]; exact hL2) (by rw [hc1]; exact w1) (by rw [hc1]; exact h.ok)
  have back : ∀ (M2 N2 : zM) (v c : Int32), zCm M1 M2 → zNf (zUz Nc L) N2 → zRel (t + 1) (zu (zu M2 0 13 v) 1 1 0) (zcpy (zu (zu N2 0 14 v) 0 0 c) 1 0 3 0 1181) := by
    intro M2 N2 v c hm hn
    have n0 : ∀ j, j ≠ 0 → j ≠ 9 → j ≠ 10 → j ≠ 11 → j ≠ 12 → j ≠ 14 → j ≠ 16 → zcpy (zu (zu N2 0 14 v) 0 0 c) 1 0 3 0 1181 0 j = N 0 j := fun j a1 a2 a3 a4 a5 a6 a7 => by
      rw [zcpy_row (by decide), zu_at, if_neg (by omega), zu_at, if_neg (by omega), hn.2 j a3 a5, zUz_0, if_neg a7, if_neg a3, if_neg a2, if_neg a4, if_neg a1, nc 0 (by decide)]
    have nq : ∀ q, q ≠ 0 → q ≠ 1 → q ≠ 3 → zcpy (zu (zu N2 0 14 v) 0 0 c) 1 0 3 0 1181 q = N q := fun q a1 a2 a3 => by rw [zcpy_row a2, zu_row a1, zu_row a1, hn.1 q a1 a2, zUz_q a1, nc q a3]
    refine h.read (v := v) (fun q a1 a2 a3 a4 => ?_) ?_ ?_ ?_ (fun j hj => ?_) (nq 2 (by decide) (by decide) (by decide)) (nq 5 (by decide) (by decide) (by decide)) (nq 6 (by decide) (by decide) (by decide)) (n0 6 (by decide) (by decide) (by decide) (by decide) (by decide) (by decide) (by decide)) (n0 7 (by decide) (by decide) (by decide) (by decide) (by decide) (by decide) (by decide)) ?_ ?_
    · have d : ¬ (9 ≤ q ∧ q < 15) ∧ q ≠ 39 := by
        unfold zDull at a2
        simp at a2
        omega
      rw [zu_row a4, zu_row a3, hm q d.1 d.2, u1 q (by omega)]
    · rw [zu_row (by decide), zu_at, if_neg (by decide), hm 0 (by omega) (by decide), u1 0 (by omega)]
    · rw [zu_row (by decide), zu_at, if_pos ⟨rfl, rfl⟩]
    · rw [zu_at, if_pos ⟨rfl, rfl⟩]
    · have := zcpy_in (M := zu (zu N2 0 14 v) 0 0 c) (A := 1) (a0 := 0) (B := 3) (b0 := 0) (K := 1181) (i := j) hj
      rw [Nat.zero_add] at this
      rw [this, zu_row (by decide), zu_row (by decide), hn.1 3 (by decide) (by decide), zUz_q (by decide), nc3 j hj]
    · rw [zcpy_row (by decide), zu_at, if_neg (by decide), zu_at, if_neg (by decide), hn.2 9 (by decide) (by decide), zUz_0]; rfl
    · rw [zcpy_row (by decide), zu_at, if_neg (by decide), zu_at, if_pos ⟨rfl, rfl⟩]
  have m13 : ∀ (Z : zM) (v : Int32), zu (zu Z 0 13 v) 1 1 0 0 13 = v := fun Z v => by rw [zu_row (by decide), zu_at, if_pos ⟨rfl, rfl⟩]
  rcases rd with ⟨M2, N2, m, c1, c2, c3, c4, c5, c6, c7⟩ | ⟨M2, N2, bf, c1, c2, c3, c6, c7⟩
  · have hm0 : (0 : Int32) ≤ nI m := by rw [i_le, i_lit0, i_nI (by omega)]; omega
    have h39 : zu (zu M2 0 13 (-1)) 1 1 0 3 9 = N 1 2 := by rw [zu_row (by decide), zu_row (by decide), c6 3 (by omega) (by decide), u1 3 (by omega)]; exact h.w.texts
    have hx : f_X10_coast M = (if N 1 2 < 12 then (zbn (f_X9_copyFrom (zu (zu M2 0 13 (-1)) 1 1 0) 3 9) (fun u_6 => znm (zu u_6 3 9 ((u_6 3 9) + 1)) (fun M_7 => zbn (f_X5_forget M_7) (fun u_8 => some (u_8, .inr (u_8 3 9)))))) else (some (zu (zu M2 0 13 (-1)) 1 1 0, .inl 4))) := by
      rw [hX, c1, zbn_s, znm_e, znm_e, m13, if_pos rfl, h39]
    obtain ⟨c, k1, k2⟩ := nI_get (x := N 1 2) h.ok.c2.1
    have hc12 : c ≤ 12 := by have := h.ok.c2.2; omega
    have e2 : N2 1 2 = nI c := by rw [c7.2.1, zUz_q (by decide), hc1, k2]
    have z2 : (2 : Int32).toNatClampNeg = 2 := rfl
    have e2' : zu N2 0 14 (-1) 1 2 = nI c := by rw [zu_row (by decide)]; exact e2
    have hr : f_X11_coast N = (if nI c = 12 then b_X11_coast_83 (zu N2 0 14 (-1)) 1 else b_X11_coast_83 (zu N2 0 14 (-1)) 0) := by
      rw [hR, b_X11_coast_27, c2, zbn_s]
      dsimp only
      rw [if_pos hm0, b_X11_coast_46, znm_e, if_pos hm0, b_X11_coast_59, r_thr (Or.inl rfl), zbn_s]
      dsimp only
      rw [if_pos rfl, if_pos rfl, zck_t (by decide), z2]
      simp only [e2']
    by_cases q : c < 12
    · have w5 : zWr (1200 * t) (zu (zu M2 0 13 (-1)) 1 1 0) 9 (N2 1) := c4.eq6 (fun q _ _ => by rw [zu_row (by omega), zu_row (by omega)])
      obtain ⟨M6, e6, u6, w6⟩ := w5.cp xw_3 xw_9 (Or.inl (by omega))
      have t6 : M6 3 9 = nI c := by rw [w6.texts, e2]
      have w7 := (w6.put (j := 9) (c := 2) (by decide) (nI (c + 1))).more (T' := 1200 * (t + 1 : Nat)) (by omega)
      obtain ⟨M8, hM8⟩ : ∃ Z, Z = zu (zu M6 3 9 (nI (c + 1))) 51 2 0 := ⟨_, rfl⟩
      obtain ⟨N8, hN8⟩ : ∃ Z, Z = zu (zu (zu N2 0 14 (-1)) 1 2 (nI (c + 1))) 0 7 0 := ⟨_, rfl⟩
      have m8 : M8 3 9 = nI (c + 1) := by rw [hM8, zu_row (by decide), zu_at, if_pos ⟨rfl, rfl⟩]
      have n8 : N8 1 = upd (N2 1) 2 (nI (c + 1)) := by rw [hN8, zu_row (by decide), zu_self, zu_row (by decide)]
      have n82 : N8 1 2 = nI (c + 1) := by rw [n8, upd_at, if_pos rfl]
      have n80 : ∀ j, j ≠ 7 → j ≠ 14 → N8 0 j = N2 0 j := fun j a1 a2 => by rw [hN8, zu_at, if_neg (by omega), zu_row (by decide), zu_at, if_neg (by omega)]
      have hfx : f_X10_coast M = some (M8, .inr (nI (c + 1))) := by
        rw [hx, if_pos (by rw [k2, i_lt, i_nI (by omega)]; show (c : Int) < 12; omega), e6, zbn_s, znm_e, t6, nI_p1, f_X5_forget, znm_e, zbn_s, ← hM8, m8]
      have hfr : f_X11_coast N = some (nI (c + 1), N8) := by
        rw [hr, if_neg (fun z => by rw [i_eq, i_nI (by omega)] at z; have : (c : Int) = 12 := z; omega), b_X11_coast_83, r_thr (Or.inl rfl), zbn_s]
        dsimp only
        rw [if_pos rfl, if_pos rfl, zck_t (by decide), zck_t (by decide), z2, e2', nI_p1, znm_e, znm_e, zck_t (by decide), ← hN8, n82]
      have u0 : ∀ j, j ≠ 0 → j ≠ 7 → j ≠ 9 → j ≠ 10 → j ≠ 11 → j ≠ 12 → j ≠ 14 → j ≠ 16 → N8 0 j = N 0 j := fun j a0 a1 a2 a3 a4 a5 a6 a7 => by
        rw [n80 j a1 a6, c7.1.2 j a3 a5, zUz_0, if_neg a7, if_neg a3, if_neg a2, if_neg a4, if_neg a0, nc 0 (by decide)]
      have uq : ∀ q, q ≠ 0 → q ≠ 1 → q ≠ 3 → N8 q = N q := fun q a1 a2 a3 => by rw [hN8, zu_row a1, zu_row a2, zu_row a1, c7.1.1 q a1 a2, zUz_q a1, nc q a3]
      have mq : ∀ q, ¬ (3 ≤ q ∧ q < 15) → q ≠ 39 → q ≠ 0 → q ≠ 1 → q ≠ 51 → M8 q = M q := fun q a1 a2 a3 a4 a5 => by rw [hM8, zu_row a5, zu_row (by omega), u6 q (by omega), zu_row a4, zu_row a3, c6 q (by omega) a2, u1 q (by omega)]
      have lrow : ∀ j, 332 ≤ j → N8 1 j = N 1 j := fun j hj => by rw [n8, upd_at, if_neg (by omega), c7.2.2.2 j hj, zUz_q (by decide), hc1]
      have l3 : N8 1 3 = N 1 3 := by rw [n8, upd_at, if_neg (by decide), c7.2.2.1, zUz_q (by decide), hc1]
      refine zsT_ok hfx hfr ?_ ⟨?_, ?_, ?_, ?_, ?_, ?_, ?_, ?_⟩
      · rw [n80 0 (by decide) (by decide), c7.1.2 0 (by decide) (by decide), zUz_0]; rfl
      · rw [n8, hM8]; exact w7.eq6 (fun q _ _ => zu_row (by omega))
      · rw [n8]; exact c5.put (by rw [i_nI (by omega)]; show (0 : Int) ≤ _ ∧ _ ≤ (12 : Int); omega) (by omega) (by omega) (by omega) (by omega) (fun m hm => by omega) (fun m hm => by omega)
      · exact (h.law.eq (M' := M8) (by rw [mq 21 (by omega) (by omega) (by omega) (by omega) (by omega)]) (mq _ (by omega) (by omega) (by omega) (by omega) (by omega)) (mq _ (by omega) (by omega) (by omega) (by omega) (by omega)) (mq _ (by omega) (by omega) (by omega) (by omega) (by omega)) (mq _ (by omega) (by omega) (by omega) (by omega) (by omega))).row l3 (fun j a1 a2 => lrow j a1)
      · have m11 : M8 1 1 = 0 := by rw [hM8, zu_row (by decide), zu_row (by decide), u6 1 (by omega), zu_at, if_pos ⟨rfl, rfl⟩]
        have n9 : N8 0 9 = 0 := by rw [n80 9 (by decide) (by decide), c7.1.2 9 (by decide) (by decide), zUz_0]; rfl
        refine ⟨by rw [m11, n9], by rw [n9]; decide, by rw [n9]; decide, fun j hj => ?_⟩
        rw [mq 2 (by omega) (by omega) (by omega) (by omega) (by omega), uq 6 (by decide) (by decide) (by decide)]; exact h.tape.2.2.2 j hj
      · rw [hM8, zu_row (by decide), zu_row (by decide), u6 0 (by omega), m13, hN8, zu_at, if_neg (by decide), zu_row (by decide), zu_at, if_pos ⟨rfl, rfl⟩]
      · refine (h.img.more (by omega)).eq ?_ (fun q a1 a2 => mq q (by omega) (by omega) (by omega) (by omega) (by omega)) (fun q a1 a2 => mq q (by omega) (by omega) (by omega) (by omega) (by omega)) (u0 6 (by decide) (by decide) (by decide) (by decide) (by decide) (by decide) (by decide) (by decide)) (uq 2 (by decide) (by decide) (by decide))
        rw [hM8, zu_row (by decide), zu_row (by decide), u6 0 (by omega), zu_row (by decide), zu_at, if_neg (by decide), c6 0 (by omega) (by decide), u1 0 (by omega)]
      · refine zPast.none (by rw [hM8, zu_at, if_pos ⟨rfl, rfl⟩]) (by rw [hN8, zu_at, if_pos ⟨rfl, rfl⟩]) ?_
        rw [hM8, zu_at, if_neg (by decide), zu_row (by decide), u6 51 (by omega), zu_row (by decide), zu_row (by decide), c6 51 (by omega) (by decide), u1 51 (by omega)]
        exact ⟨h.past.2.2.2.1, h.past.2.2.2.2.1⟩
      · rw [mq 40 (by omega) (by omega) (by omega) (by omega) (by omega)]; exact h.words
    · have q12 : c = 12 := by omega
      have hfx : f_X10_coast M = some (zu (zu M2 0 13 (-1)) 1 1 0, .inl 4) := by
        rw [hx, if_neg (by rw [k2, i_lt, i_nI (by omega)]; show ¬ (c : Int) < 12; omega)]
      have hfr : f_X11_coast N = some (0, zcpy (zu (zu N2 0 14 (-1)) 0 0 2) 1 0 3 0 1181) := by
        rw [hr, if_pos (by rw [q12]; rfl), b_X11_coast_83, r_thr (Or.inr rfl), zbn_s]
        dsimp only
        rw [if_neg n10, if_neg n10, b_X11_coast_90, r_coast_bk (by omega)]
      refine zsT_ex hfx hfr (Or.inr rfl) ?_ (back M2 N2 (-1) 2 c6 c7.1)
      rw [zcpy_row (by decide), zu_at, if_pos ⟨rfl, rfl⟩]; rfl
  · have hfx : f_X10_coast M = some (zu (zu M2 0 13 (nI bf)) 1 1 0, .inl 1) := by
      rw [hX, c1, zbn_s, znm_e, znm_e, m13, if_neg (nI_ne1 (by have := c3.2; omega))]
    have nm : ¬ (0 : Int32) ≤ -1 := by decide
    have hfr : f_X11_coast N = some (0, zcpy (zu (zu N2 0 14 (nI bf)) 0 0 1) 1 0 3 0 1181) := by
      rw [hR, b_X11_coast_27, c2, zbn_s]
      dsimp only
      rw [if_neg nm, c3.1, b_X11_coast_46, znm_e, if_neg nm, b_X11_coast_59, r_thr (Or.inr rfl), zbn_s]
      dsimp only
      rw [if_neg n10, if_neg n10, b_X11_coast_90, r_coast_bk (by omega)]
    refine zsT_ex hfx hfr (Or.inl rfl) ?_ (back M2 N2 (nI bf) 1 c6 c7)
    rw [zcpy_row (by decide), zu_at, if_pos ⟨rfl, rfl⟩]; rfl
end
