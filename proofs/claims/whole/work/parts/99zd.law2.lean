section
variable {L : Nat} {T : Int} {M M' N N' : zM} {b s n : Nat}
theorem zWr.row3 {k : Nat} {w w' : Nat → Int32} (h : zWr T M k w) (hj : ∀ j, j < 332 → j ≠ 3 → w' j = w j) : zWr T M k w' := by
  obtain ⟨⟨a0, a1, a2, a3, a4, a5, a6, a7, a8, a9, a10, a11⟩, ⟨b1, b2⟩, ⟨c1, c2, c3⟩, d1, d2, d3, d4, d5⟩ := h
  refine ⟨⟨?_, ?_, ?_, ?_, ?_, ?_, ?_, ?_, ?_, ?_, ?_, ?_⟩, ⟨?_, ?_⟩, ⟨c1, c2, ?_⟩, ?_, ?_, ?_, ?_, ?_⟩
  · rw [hj _ (by decide) (by decide)]; exact a0
  · rw [hj _ (by decide) (by decide)]; exact a1
  · rw [hj _ (by decide) (by decide)]; exact a2
  · rw [hj _ (by decide) (by decide)]; exact a3
  · rw [hj _ (by decide) (by decide)]; exact a4
  · rw [hj _ (by decide) (by decide)]; exact a5
  · rw [hj _ (by decide) (by decide)]; exact a6
  · rw [hj _ (by decide) (by decide)]; exact a7
  · rw [hj _ (by decide) (by decide)]; exact a8
  · rw [hj _ (by decide) (by decide)]; exact a9
  · rw [hj _ (by decide) (by decide)]; exact a10
  · rw [hj _ (by decide) (by decide)]; exact a11
  · intro j hj2
    rw [b1 j hj2]
    by_cases q : j < 6
    · simp only [hj (42 + 5 * j) (by omega) (by omega)]
    · simp [q]
  · intro j hj2
    rw [b2 j hj2]
    by_cases q : j < 6
    · simp only [hj (71 + 4 * j) (by omega) (by omega)]
    · simp [q]
  · rw [hj _ (by decide) (by decide)]; exact c3
  · intro p hp; rw [hj _ (by omega) (by omega)]; exact d1 p hp
  · intro p hp; rw [hj _ (by omega) (by omega)]; exact d2 p hp
  · intro m hm c hc; rw [hj _ (by omega) (by omega)]; exact d3 m hm c hc
  · intro m hm c hc; rw [hj _ (by omega) (by omega)]; exact d4 m hm c hc
  · intro a ha hl; rw [hj _ (by omega) (by omega), hj _ (by omega) (by omega), hj _ (by omega) (by omega), hj _ (by omega) (by omega)]; exact d5 a ha hl
theorem j_law (hL : L ≤ 400) (h11 : M 1 1 = nI L) (hb : ∀ j, j < 400 → 0 ≤ (M 2 j).toInt ∧ (M 2 j).toInt ≤ 255 ∧ N 6 j = (M 2 j).toInt8.toInt32) (hw : ∀ j, j < 154 → M 40 j = zWds.getD j 0) (h9 : N 0 9 = nI L) :
    (∃ M' N' b' s' m, f_X4_read M = some (-1, M') ∧ f_X11_readAll N 0 = some (nI m, N') ∧ zLrr L M' N' b' s' m ∧ zLq M (zUz N L) M' N') ∨ (∃ M' N' bf, f_X4_read M = some (nI bf, M') ∧ f_X11_readAll N 0 = some (-1, N') ∧ zBf (N' 0 12) bf ∧ zLq M (zUz N L) M' N') := by
  obtain ⟨Mc, hMc⟩ : ∃ Z, Z = zu (zu M 27 0 0) 27 5 0 := ⟨_, rfl⟩
  have mc : ∀ q, q ≠ 27 → Mc q = M q := fun q hq => by rw [hMc, zu_row hq, zu_row hq]
  obtain ⟨M3, o1, o2, o3⟩ := j_open (M := Mc) (N := zUz N L) hL (by rw [mc 1 (by decide)]; exact h11) (fun j hj => by rw [mc 2 (by decide), zUz_q (by decide)]; exact hb j hj) (by rw [mc 40 (by decide)]; exact hw) (by rw [zUz_0]; rfl) (by rw [zUz_0]; rfl)
  have hbL := o3.bL
  obtain ⟨b0, hb0⟩ : ∃ b0, b0 = zsk L Mc 0 := ⟨_, rfl⟩
  rw [← hb0] at o3 hbL
  have e11 : zNb (zUz N L) b0 b0 0 11 = nI L := by rw [zNb_16 (by decide) (by decide), zUz_0]; rfl
  have q3 : zLq M (zUz N L) M3 (zNb (zUz N L) b0 b0) := ⟨fun q a c => by rw [o2 q c, mc q (by omega)], zNb_f.1, fun j a c _ _ => zNb_f.2 j a c, fun j _ => by rw [zNb_1]⟩
  have r3 : zLrr L M3 (zNb (zUz N L) b0 b0) b0 0 0 := by
    refine ⟨o3.bb, ⟨?_, ?_, fun i hi => by omega⟩, by omega, by omega, ?_, rfl, fun m hm => by omega⟩
    · rw [o2 27 (by decide), hMc, zu_at, if_pos ⟨rfl, rfl⟩]; rfl
    · rw [zNb_16 (by decide) (by decide), zUz_0]; rfl
    · rw [o2 27 (by decide), hMc, zu_at, if_neg (by decide), zu_at, if_pos ⟨rfl, rfl⟩]; rfl
  rw [r_readAll h9, r_bl o3, zbn_s, zNb_10, e11, f_X4_read, f_X3_clear, znm_e, znm_e, zbn_s, ← hMc, o1, zbn_s, x_ended o3, zbn_s]
  by_cases q : b0 = L
  · left
    rw [if_pos q, if_neg n10, if_pos (by rw [q])]
    exact ⟨M3, _, b0, 0, 0, rfl, rfl, r3, q3⟩
  · rw [if_neg q, if_pos rfl, if_neg (fun z => q (by rw [i_eq, i_nI (by omega), i_nI (by omega)] at z; omega))]
    have lp := read_loop (L := L) (K := 12) (x1 := 0) (Or.inl ⟨rfl, rfl⟩) (F := fun n M x => b_X4_read_28 n M x) (line := fun M => f_X4_line M)
      (I := fun n M' N' b' => (∃ s', zLrr L M' N' b' s' n) ∧ zLq M (zUz N L) M' N') (Q := fun M' N' => zLq M (zUz N L) M' N')
      (fun n Z x => by
        show b_X4_read_28 (n + 1) Z x = _
        rw [b_X4_read_28]; rfl)
      (fun n M' N' b' h => h.1.elim (fun s' h => h.1))
      (fun n M1 N1 b1 M2 N2 b2 h p hbb hm hn h1 => ⟨h.1.elim (fun s' h => ⟨s', h.move p hbb hm hn h1⟩), h.2.trans (zLq.text hm hn h1)⟩)
      (fun n M1 N1 b1 M2 N2 h hm hn h1 => h.2.trans (zLq.text hm hn h1))
      (fun n M1 N1 b1 h hn => by
        obtain ⟨⟨s', h1⟩, h2⟩ := h
        rcases l_lawline h1 hn with ⟨M2, N2, b2, s2, c1, c2, c3, c4⟩ | ⟨M2, N2, bf, c1, c2, c3, c4, c5⟩
        · exact Or.inl ⟨M2, N2, b2, c1, c2, ⟨s2, c3⟩, h2.trans c4⟩
        · exact Or.inr ⟨M2, N2, bf, c1, c2, c3, c4, h2.trans c5⟩)
      12 0 6000 6000 M3 (zNb (zUz N L) b0 b0) b0 (by omega) (by omega) (by omega) ⟨⟨0, r3⟩, q3⟩
    rcases lp with ⟨M2, N2, b2, m, c1, c2, c3, c4⟩ | ⟨M2, N2, bf, c1, c2, c3, c4⟩
    · obtain ⟨⟨s', h1⟩, h2⟩ := c3
      exact Or.inl ⟨M2, N2, b2, s', m, c1, c2, h1, h2⟩
    · exact Or.inr ⟨M2, N2, bf, c1, c2, c3, c4⟩
theorem r_law_cp {x1 : Int32} {n : Nat} (hn : 849 < n) : b_X11_law_52 x1 n M 0 = b_X11_law_85 (zcpy M 1 332 1 1181 849) x1 := by
  refine cp_loop (L := b_X11_law_52 x1) (C := fun Z => b_X11_law_85 Z x1) (A := 1) (a0 := 332) (B := 1) (b0 := 1181) (K := 849) (Or.inr (by decide)) (fun n i hi => ?_) (fun n => ?_) hn
  · have e1 : (1181 : Int32) + nI i = nI (1181 + i) := nI_add 1181 i
    have e2 : (332 : Int32) + nI i = nI (332 + i) := nI_add 332 i
    rw [b_X11_law_52, if_neg (by exact nI_cond (K := 849) hi (by omega)), e1, e2, zck_t (nI_lt_i (by omega) (by omega)), zck_t (nI_lt_i (by omega) (by omega)), znm_e, znm_e, nI_cl (by omega), nI_cl (by omega), nI_p1]
  · rw [b_X11_law_52, if_pos (show (849 : Int32) ≤ nI 849 by decide)]
theorem s_law (t : Nat) : zs_law (zRel t) (zRel (t + 1)) := by
  intro M N h
  obtain ⟨L, hL1, hL2⟩ := nI_get (x := N 0 9) h.tape.2.1
  have hL : L ≤ 400 := by have := h.tape.2.2.1; omega
  have rd := j_law (M := M) (N := N) hL (by rw [h.tape.1]; exact hL2) h.tape.2.2.2 h.words hL2
  have m13 : ∀ (Z : zM) (v : Int32), zu (zu Z 0 13 v) 1 1 0 0 13 = v := fun Z v => by rw [zu_row (by decide), zu_at, if_pos ⟨rfl, rfl⟩]
  rcases rd with ⟨M2, N2, b2, s2, m, c1, c2, c3, c4⟩ | ⟨M2, N2, bf, c1, c2, c3, c4⟩
  · obtain ⟨r1, r2, r3, r4, r5, r6, r7⟩ := c3
    have hm0 : (0 : Int32) ≤ nI m := by rw [i_le, i_lit0, i_nI (by omega)]; omega
    have hb4 := r1.b4
    obtain ⟨M4, hM4⟩ : ∃ Z, Z = zu (zu M2 0 13 (-1)) 1 1 0 := ⟨_, rfl⟩
    have m4 : ∀ q, q ≠ 0 → q ≠ 1 → M4 q = M2 q := fun q a c => by rw [hM4, zu_row c, zu_row a]
    obtain ⟨N4, hN4⟩ : ∃ Z, Z = zu (zu N2 0 14 (-1)) 1 1181 (nI m) := ⟨_, rfl⟩
    obtain ⟨N8, hN8⟩ : ∃ Z, Z = zu (zu (zcpy N4 1 332 1 1181 849) 1 3 1) 0 7 0 := ⟨_, rfl⟩
    have n41 : ∀ j, N4 1 j = if j = 1181 then nI m else N2 1 j := fun j => by
      rw [hN4, zu_at, zu_row (by decide)]; simp only [true_and]
    have n81 : ∀ j, j < 1181 → N8 1 j = if j = 3 then 1 else if j < 332 then N 1 j else if j = 332 then nI m else zdf N2 j := fun j hj => by
      rw [hN8, zu_row (by decide), zu_at]
      simp only [true_and]
      by_cases e3 : j = 3
      · rw [if_pos e3, if_pos e3]
      · rw [if_neg e3, if_neg e3]
        by_cases e4 : j < 332
        · rw [if_pos e4, zcpy_out (Or.inl e4), n41, if_neg (by omega), c4.2.2.2 j (by omega), zUz_q (by decide)]
        · have := zcpy_in (M := N4) (A := 1) (a0 := 332) (B := 1) (b0 := 1181) (K := 849) (i := j - 332) (by omega)
          rw [show 332 + (j - 332) = j by omega] at this
          rw [if_neg e4, this, n41]
          by_cases e5 : j = 332
          · rw [if_pos e5, if_pos (by omega)]
          · rw [if_neg e5, if_neg (by omega)]
            unfold zdf
            rw [show 1181 + (j - 332) = 849 + j by omega]
    have n80 : ∀ j, j ≠ 7 → j ≠ 14 → N8 0 j = N2 0 j := fun j a c => by rw [hN8, zu_at, if_neg (by omega), zu_row (by decide), zcpy_row (by decide), hN4, zu_row (by decide), zu_at, if_neg (by omega)]
    have n8q : ∀ q, q ≠ 0 → q ≠ 1 → N8 q = N q := fun q a c => by rw [hN8, zu_row a, zu_row c, zcpy_row c, hN4, zu_row c, zu_row a, c4.2.1 q a c, zUz_q a]
    have hN83 : N8 1 3 = 1 := by rw [n81 3 (by decide), if_pos rfl]
    have lw : zLaw M4 27 (N8 1) := by
      refine ⟨fun z => by rw [hN83] at z; exact absurd z (by decide), fun _ => ?_⟩
      have w332 : N8 1 332 = nI m := by rw [n81 332 (by decide), if_neg (by decide), if_neg (by decide), if_pos rfl]
      have wj : ∀ j, 332 < j → j < 1181 → N8 1 j = zdf N2 j := fun j a c => by rw [n81 j c, if_neg (by omega), if_neg (by omega), if_neg (by omega)]
      have hF : ∀ i, i ≤ 12 → zFrom (N8 1) i = zFrom (zdf N2) i := fun i hi => by
        unfold zFrom
        by_cases e : i = 0
        · rw [if_pos e, if_pos e]
        · rw [if_neg e, if_neg e, wj _ (by omega) (by omega)]
      refine ⟨by rw [m4 27 (by decide) (by decide), w332]; exact r5, by rw [w332, i_nI (by omega)]; omega, by rw [w332, i_nI (by omega)]; omega, fun i hi => ?_⟩
      rw [w332, i_nI (by omega)] at hi
      obtain ⟨x1, x2, x3⟩ := r7 i (by omega)
      rw [hF i (by omega)]
      refine ⟨x1, x2.mv x1 (hF i (by omega)) (wj _ (by omega) (by omega)) (wj _ (by omega) (by omega)) (wj _ (by omega) (by omega)) (wj _ (by omega) (by omega)) (by rw [m4 28 (by decide) (by decide)]) (by rw [m4 29 (by decide) (by decide)]) (by rw [m4 30 (by decide) (by decide)]) (fun k hk => ⟨by rw [m4 31 (by decide) (by decide)], wj _ (by omega) (by omega), wj _ (by omega) (by omega)⟩)⟩
    obtain ⟨M6, e6, u6, l6, z6⟩ := x_lawCopy lw xlw_21 xlw_27 (Or.inl (by omega))
    obtain ⟨M8, hM8⟩ : ∃ Z, Z = zu M6 51 2 0 := ⟨_, rfl⟩
    have m80 : M8 21 0 = nI m := by rw [hM8, zu_row (by decide), z6, m4 27 (by decide) (by decide)]; exact r5
    have hfx : f_X10_law M = some (M8, .inr (nI m)) := by
      rw [f_X10_law, c1, zbn_s, znm_e, znm_e, m13, if_pos rfl, ← hM4, e6, zbn_s, f_X5_forget, znm_e, zbn_s, ← hM8, m80]
    have z1 : (1181 : Int32).toNatClampNeg = 1181 := rfl
    have z3 : (3 : Int32).toNatClampNeg = 3 := rfl
    have hfr : f_X11_law N = some (nI m, N8) := by
      rw [f_X11_law, c2, zbn_s]
      dsimp only
      rw [if_pos hm0, b_X11_law_19, znm_e, if_pos hm0, b_X11_law_32, r_thr (Or.inl rfl), zbn_s]
      dsimp only
      rw [if_pos rfl, if_pos rfl, zck_t (by decide), z1, znm_e, ← hN4, r_law_cp (by omega), b_X11_law_85, zck_t (by decide), z3, znm_e, znm_e, ← hN8]
    have mq : ∀ q, ¬ (21 ≤ q ∧ q < 32) → q ≠ 39 → q ≠ 0 → q ≠ 1 → q ≠ 51 → M8 q = M q := fun q a1 a2 a3 a4 a5 => by rw [hM8, zu_row a5, u6 q (by omega), m4 q a3 a4, c4.1 q (by omega) a2]
    have u0 : ∀ j, j ≠ 0 → j ≠ 7 → j ≠ 9 → j ≠ 10 → j ≠ 11 → j ≠ 12 → j ≠ 13 → j ≠ 14 → j ≠ 16 → N8 0 j = N 0 j := fun j a0 a1 a2 a3 a4 a5 a55 a6 a7 => by
      rw [n80 j a1 a6, c4.2.2.1 j a3 a5 a55 a7, zUz_0, if_neg a7, if_neg a3, if_neg a2, if_neg a4, if_neg a0]
    have w8 : ∀ j, j < 332 → j ≠ 3 → N8 1 j = N 1 j := fun j a c => by rw [n81 j (by omega), if_neg c, if_pos a]
    have ok8 : zOk (N8 1) := (h.ok.put (c := 3) (v := 1) (by decide) (by decide) (by decide) (by decide) (by decide) (fun m hm => by omega) (fun m hm => by omega)).row (fun j hj => by
      rw [upd_at]
      by_cases e : j = 3
      · rw [if_pos e, e, hN83]
      · rw [if_neg e, w8 j hj e])
    refine zsT_ok hfx hfr ?_ ⟨?_, ok8, ?_, ?_, ?_, ?_, ?_, ?_⟩
    · rw [n80 0 (by decide) (by decide), c4.2.2.1 0 (by decide) (by decide) (by decide) (by decide), zUz_0]; rfl
    · exact ((h.w.more (by omega)).eq6 (fun q _ _ => mq q (by omega) (by omega) (by omega) (by omega) (by omega))).row3 w8
    · rw [hM8]; exact l6.eq (by rw [zu_row (by decide)]) (zu_row (by decide)) (zu_row (by decide)) (zu_row (by decide)) (zu_row (by decide))
    · have m11 : M8 1 1 = 0 := by rw [hM8, zu_row (by decide), u6 1 (by omega), hM4, zu_at, if_pos ⟨rfl, rfl⟩]
      have n9 : N8 0 9 = 0 := by rw [n80 9 (by decide) (by decide), c4.2.2.1 9 (by decide) (by decide) (by decide) (by decide), zUz_0]; rfl
      refine ⟨by rw [m11, n9], by rw [n9]; decide, by rw [n9]; decide, fun j hj => ?_⟩
      rw [mq 2 (by omega) (by omega) (by omega) (by omega) (by omega), n8q 6 (by decide) (by decide)]; exact h.tape.2.2.2 j hj
    · rw [hM8, zu_row (by decide), u6 0 (by omega), hM4, m13, hN8, zu_at, if_neg (by decide), zu_row (by decide), zcpy_row (by decide), hN4, zu_row (by decide), zu_at, if_pos ⟨rfl, rfl⟩]
    · refine (h.img.more (by omega)).eq ?_ (fun q a1 a2 => mq q (by omega) (by omega) (by omega) (by omega) (by omega)) (fun q a1 a2 => mq q (by omega) (by omega) (by omega) (by omega) (by omega)) (u0 6 (by decide) (by decide) (by decide) (by decide) (by decide) (by decide) (by decide) (by decide) (by decide)) (n8q 2 (by decide) (by decide))
      rw [hM8, zu_row (by decide), u6 0 (by omega), hM4, zu_row (by decide), zu_at, if_neg (by decide), c4.1 0 (by omega) (by decide)]
    · refine zPast.none (by rw [hM8, zu_at, if_pos ⟨rfl, rfl⟩]) (by rw [hN8, zu_at, if_pos ⟨rfl, rfl⟩]) ?_
      rw [hM8, zu_at, if_neg (by decide), u6 51 (by omega), m4 51 (by decide) (by decide), c4.1 51 (by omega) (by decide)]
      exact ⟨h.past.2.2.2.1, h.past.2.2.2.2.1⟩
    · rw [mq 40 (by omega) (by omega) (by omega) (by omega) (by omega)]; exact h.words
  · have nm : ¬ (0 : Int32) ≤ -1 := by decide
    have hfx : f_X10_law M = some (zu (zu M2 0 13 (nI bf)) 1 1 0, .inl 1) := by
      rw [f_X10_law, c1, zbn_s, znm_e, znm_e, m13, if_neg (nI_ne1 (by have := c3.2; omega))]
    have hfr : f_X11_law N = some (0, zu (zu N2 0 14 (nI bf)) 0 0 1) := by
      rw [f_X11_law, c2, zbn_s]
      dsimp only
      rw [if_neg nm, c3.1, b_X11_law_19, znm_e, if_neg nm, b_X11_law_32, r_thr (Or.inr rfl), zbn_s]
      dsimp only
      rw [if_neg n10, if_neg n10]
    have n0 : ∀ j, j ≠ 0 → j ≠ 9 → j ≠ 10 → j ≠ 11 → j ≠ 12 → j ≠ 13 → j ≠ 14 → j ≠ 16 → zu (zu N2 0 14 (nI bf)) 0 0 1 0 j = N 0 j := fun j a1 a2 a3 a4 a5 a55 a6 a7 => by
      rw [zu_at, if_neg (by omega), zu_at, if_neg (by omega), c4.2.2.1 j a3 a5 a55 a7, zUz_0, if_neg a7, if_neg a3, if_neg a2, if_neg a4, if_neg a1]
    have nq : ∀ q, q ≠ 0 → q ≠ 1 → zu (zu N2 0 14 (nI bf)) 0 0 1 q = N q := fun q a1 a2 => by rw [zu_row a1, zu_row a1, c4.2.1 q a1 a2, zUz_q a1]
    refine zsT_ex hfx hfr rfl (by rw [zu_at, if_pos ⟨rfl, rfl⟩]) (h.read (v := nI bf) (fun q a1 a2 a3 a4 => ?_) ?_ ?_ ?_ (fun j hj => ?_) (nq 2 (by decide) (by decide)) (nq 5 (by decide) (by decide)) (nq 6 (by decide) (by decide)) (n0 6 (by decide) (by decide) (by decide) (by decide) (by decide) (by decide) (by decide) (by decide)) (n0 7 (by decide) (by decide) (by decide) (by decide) (by decide) (by decide) (by decide) (by decide)) ?_ ?_)
    · have d : ¬ (27 ≤ q ∧ q < 32) ∧ q ≠ 39 := by
        unfold zDull at a2
        simp at a2
        omega
      rw [zu_row a4, zu_row a3, c4.1 q d.1 d.2]
    · rw [zu_row (by decide), zu_at, if_neg (by decide), c4.1 0 (by omega) (by decide)]
    · exact m13 _ _
    · rw [zu_at, if_pos ⟨rfl, rfl⟩]
    · rw [zu_row (by decide), zu_row (by decide), c4.2.2.2 j hj, zUz_q (by decide)]
    · rw [zu_at, if_neg (by decide), zu_at, if_neg (by decide), c4.2.2.1 9 (by decide) (by decide) (by decide) (by decide), zUz_0]; rfl
    · rw [zu_at, if_neg (by decide), zu_at, if_pos ⟨rfl, rfl⟩]
end
