section
variable {L : Nat} {M M' N N' : zM} {b s n : Nat}
theorem zSp.cell {j : Nat} {v : Int32} (h : zSp M N s) (hj : j < 1230) : zSp M (zu N 1 j v) s := ⟨h.1, by rw [zu_row (by decide)]; exact h.2.1, fun i hi => by rw [zu_at, if_neg (by omega), zu_at, if_neg (by omega)]; exact h.2.2 i hi⟩
theorem zPr.cell {j : Nat} {v : Int32} (h : zPr L M N b) : zPr L M (zu N 1 j v) b := h.oth rfl rfl rfl rfl (by rw [zu_row (by decide)]) (by rw [zu_row (by decide)]) (zu_row (by decide))
theorem l_lawline (h : zLrr L M N b s n) (hn : n < 12) : (∃ M' N' b' s', f_X4_line M = some (1, M') ∧ f_X11_readLine N 0 (nI n) = some (1, N') ∧ zLrr L M' N' b' s' (n + 1) ∧ zLq M N M' N') ∨ (∃ M' N' bf, f_X4_line M = some (0, M') ∧ f_X11_readLine N 0 (nI n) = some (0, N') ∧ M' 39 6 = nI bf ∧ zBf (N' 0 12) bf ∧ zLq M N M' N') := by
  have h0 := h
  obtain ⟨p, sp, hsb, h12, h27, hF, hmm⟩ := h
  have hbL := p.bL
  have hL := p.1.1
  obtain ⟨u, u1, u2, u3, u4⟩ := x_word p
  have hw : ∀ k, k < 29 → f_X11_isWord (zNb N b (zle L M b)) (zwi k) = some (if u = nI k then 1 else 0) := fun k hk => by
    rw [r_isw p hk]
    by_cases e : u = nI k
    · rw [if_pos e, if_pos ((u2 k hk).mp e)]
    · rw [if_neg e, if_neg (fun z => e ((u2 k hk).mpr z))]
  obtain ⟨x, hx⟩ : ∃ x, x = 1182 + 4 * n := ⟨_, rfl⟩
  have ex : (1182 : Int32) + 4 * nI n = nI x := by rw [show (1182 : Int32) = nI 1182 from rfl, show (4 : Int32) = nI 4 from rfl, nI_mul, nI_add, hx]
  have e14 : f_X11_isWord (zNb N b (zle L M b)) 16 = some (if u = nI 14 then 1 else 0) := hw 14 (by omega)
  have e15 : f_X11_isWord (zNb N b (zle L M b)) 17 = some (if u = nI 15 then 1 else 0) := hw 15 (by omega)
  have e16 : f_X11_isWord (zNb N b (zle L M b)) 18 = some (if u = nI 16 then 1 else 0) := hw 16 (by omega)
  have hR0 : f_X11_readLine N 0 (nI n) = zbn (f_X11_readLawLine (zNb N b (zle L M b)) (nI n)) (fun u_1 => if u_1.1 = 0 then (some (0, u_1.2)) else (some (1, u_1.2))) := by
    rw [f_X11_readLine, r_let p, zbn_s, if_pos rfl, b_X11_readLine_16, if_neg (by rw [show (12 : Int32) = nI 12 from rfl, i_le, i_nI (by omega), i_nI (by omega)]; omega), if_pos rfl]
  have hR1 : f_X11_readLawLine (zNb N b (zle L M b)) (nI n) = if u = nI 14 then b_X11_readLawLine_53 (zNb N b (zle L M b)) (nI x) 0 (nI x) else if u = nI 15 then b_X11_readLawLine_53 (zNb N b (zle L M b)) (nI x) 1 (nI x) else if u = nI 16 then b_X11_readLawLine_53 (zNb N b (zle L M b)) (nI x) 2 (nI x) else b_X11_readLawLine_53 (zNb N b (zle L M b)) (nI x) (-1) (nI x) := by
    rw [f_X11_readLawLine, znm_e, ex, e14, zbn_s, e15, zbn_s, e16, zbn_s]
    simp only [d_if]
  have hX : f_X4_line M = if u = nI 14 then b_X4_line_34 M u else if u = nI 15 then b_X4_line_34 M u else if u = nI 16 then b_X4_line_34 M u else some (0, zu M 39 6 (nI b)) := by
    rw [f_X4_line, u1, zbn_s, p.miss, zbn_s]; rfl
  have yes : ∀ k, k < 3 → u = nI (14 + k) → f_X4_line M = b_X4_line_34 M u → f_X11_readLawLine (zNb N b (zle L M b)) (nI n) = b_X11_readLawLine_53 (zNb N b (zle L M b)) (nI x) (nI k) (nI x) → (∃ M' N' b' s', f_X4_line M = some (1, M') ∧ f_X11_readLine N 0 (nI n) = some (1, N') ∧ zLrr L M' N' b' s' (n + 1) ∧ zLq M N M' N') ∨ (∃ M' N' bf, f_X4_line M = some (0, M') ∧ f_X11_readLine N 0 (nI n) = some (0, N') ∧ M' 39 6 = nI bf ∧ zBf (N' 0 12) bf ∧ zLq M N M' N') := by
    intro k hk hu hX1 hR2
    have hm := (u2 (14 + k) (by omega)).mp hu
    obtain ⟨M1, g1, g2, g3⟩ := j_go p (i := 14 + k) (by omega) hm
    have hl4 : ∀ k, k < 3 → zLen.getD (zwi (14 + k)) 0 = 4 := by decide
    have hle := zle_le (M := M) (p := b) (L := L) hbL
    have hb4 : b + 4 ≤ zsk L M (zle L M b) := by
      have e4 := hl4 k hk
      have hsk := (zsk_le (M := M) (L := L) hle.2).1
      unfold zwm at hm
      rw [Bool.and_eq_true, decide_eq_true_eq] at hm
      omega
    obtain ⟨b1, hb1⟩ : ∃ b1, b1 = zsk L M (zle L M b) := ⟨_, rfl⟩
    rw [← hb1] at hb4 g3
    obtain ⟨N2, hN2⟩ : ∃ Z, Z = zu (zNb N b (zle L M b)) 1 x (nI k) := ⟨_, rfl⟩
    have p2 : zPr L M1 N2 b1 := by rw [hN2]; exact g3.cell
    have sp2 : zSp M1 N2 s := by rw [hN2]; exact (sp.move g2 zNb_f zNb_1).cell (by omega)
    have q2 : zLq M N M1 N2 := by rw [hN2]; exact (zLq.text g2 zNb_f zNb_1).trans (zLq.cell (by omega))
    have n2 : ∀ j, N2 1 j = if j = x then nI k else N 1 j := fun j => by
      rw [hN2, zu_at, zNb_1]; simp only [true_and]
    have hk0 : (0 : Int32) ≤ nI k := by rw [i_le, i_lit0, i_nI (by omega)]; omega
    have h53 : b_X11_readLawLine_53 (zNb N b (zle L M b)) (nI x) (nI k) (nI x) = (if nI k = 1 then (b_X11_readLawLine_93 N2 (nI x) 1 (nI (x + 1))) else (zbn (f_X11_number N2 0 9) (fun u_11 => b_X11_readLawLine_93 u_11.2 (nI x) u_11.1 (nI (x + 1))))) := by
      have e : N2 1 x = nI k := by rw [n2, if_pos rfl]
      rw [b_X11_readLawLine_53, zck_t (nI_lt_i (by omega) (by omega)), nI_cl (by omega), ← hN2, znm_e, zck_t (nI_lt_i (by omega) (by omega)), e, if_pos hk0, zck_t (nI_lt_i (by omega) (by omega)), nI_p1]
    have h34 : b_X4_line_34 M u = (if u = nI 15 then (b_X4_line_61 M1 (nI (14 + k)) 1) else (zbn (f_X7_takeNumber M1 0 9) (fun u_8 => b_X4_line_61 u_8.2 (nI (14 + k)) u_8.1))) := by
      rw [b_X4_line_34, g1, zbn_s, hu]; rfl
    have tail : ∀ (M2 N3 : zM) (b2 a : Nat), zPr L M2 N3 b2 → zMf M1 M2 → zNf N2 N3 → N3 1 = N2 1 → b1 ≤ b2 → a ≤ 9 → (∃ M' N' b' s', b_X4_line_61 M2 (nI (14 + k)) (nI a) = some (1, M') ∧ b_X11_readLawLine_93 N3 (nI x) (nI a) (nI (x + 1)) = some (1, N') ∧ zLrr L M' N' b' s' (n + 1) ∧ zLq M N M' N') ∨ (∃ M' N' bf, b_X4_line_61 M2 (nI (14 + k)) (nI a) = some (0, M') ∧ b_X11_readLawLine_93 N3 (nI x) (nI a) (nI (x + 1)) = some (0, N') ∧ M' 39 6 = nI bf ∧ zBf (N' 0 12) bf ∧ zLq M N M' N') := by
      intro M2 N3 b2 a p3 hm2 hn3 h31 hb2 ha
      have sp3 : zSp M2 N3 s := sp2.move hm2 hn3 h31
      have ha0 : (0 : Int32) ≤ nI a := by rw [i_le, i_lit0, i_nI (by omega)]; omega
      obtain ⟨N4, hN4⟩ : ∃ Z, Z = zu (zu (zu N3 1 (x + 1) (nI a)) 1 (x + 2) (nI s)) 0 13 0 := ⟨_, rfl⟩
      have p4' : zPr L M2 (zu (zu N3 1 (x + 1) (nI a)) 1 (x + 2) (nI s)) b2 := p3.cell.cell
      have sp4' : zSp M2 (zu (zu N3 1 (x + 1) (nI a)) 1 (x + 2) (nI s)) s := (sp3.cell (by omega)).cell (by omega)
      have lp4 : zLp L M2 N4 b2 s := by rw [hN4]; exact zLp.deep ⟨p4', sp4', by omega⟩
      have q4 : zLq M N M2 N4 := by
        rw [hN4]
        exact (((q2.trans (zLq.text hm2 hn3 h31)).trans (zLq.cell (by omega))).trans (zLq.cell (by omega))).trans (zLg.q (s := s) zLg.deep)
      have n4 : ∀ j, N4 1 j = if j = x + 2 then nI s else if j = x + 1 then nI a else if j = x then nI k else N 1 j := fun j => by
        rw [hN4, zu_row (by decide), zu_at, zu_at, h31, n2]; simp only [true_and]
      have n413 : N4 0 13 = 0 := by rw [hN4, zu_at, if_pos ⟨rfl, rfl⟩]
      have h93 : b_X11_readLawLine_93 N3 (nI x) (nI a) (nI (x + 1)) = zbn (f_X11_passes N4 (zwi 17)) (fun u_5 => if u_5.1 = 0 then (b_X11_readLawLine_142 u_5.2 (nI x)) else (zbn (f_X11_readCond u_5.2) (fun u_6 => if u_6.1 = 0 then (some (0, u_6.2)) else (b_X11_readLawLine_142 u_6.2 (nI x))))) := by
        have e1 : zu N3 1 (x + 1) (nI a) 1 (x + 1) = nI a := by rw [zu_at, if_pos ⟨rfl, rfl⟩]
        have e2 : zu N3 1 (x + 1) (nI a) 0 16 = nI s := by rw [zu_row (by decide)]; exact sp3.2.1
        rw [b_X11_readLawLine_93, zck_t (nI_lt_i (by omega) (by omega)), nI_cl (by omega), znm_e, nI_p1, zck_t (nI_lt_i (by omega) (by omega)), nI_cl (by omega), e1, if_pos ha0, show nI x + 2 = nI (x + 2) from nI_add x 2, zck_t (nI_lt_i (by omega) (by omega)), nI_cl (by omega), e2, znm_e, znm_e, ← hN4]; rfl
      have h61 : b_X4_line_61 M2 (nI (14 + k)) (nI a) = zbn (f_X7_skipWord M2 (nI 17)) (fun u_2 => if u_2.1 = 0 then (b_X4_line_91 u_2.2 (nI (14 + k)) (nI a)) else (zbn (f_X4_condition u_2.2 0) (fun u_3 => if u_3.1 = 0 then (some (0, u_3.2)) else (b_X4_line_91 u_3.2 (nI (14 + k)) (nI a))))) := by
        rw [b_X4_line_61, if_neg (nI_ne1 (by omega))]; rfl
      have hM : ∀ q, q ≠ 39 → M2 q = M q := fun q hq => by rw [hm2 q hq, g2 q hq]
      rw [h93, h61]
      rcases k_pass lp4.1 (i := 17) (by omega) with ⟨M3, N5, b3, f1, -, f2, f3, f4, f5, f6, f7, -, -⟩ | ⟨N5, f1, f2, f3, f6, f7, -⟩
      · rw [f1, zbn_s, f2, zbn_s]
        dsimp only
        rw [if_neg n10, if_neg n10]
        have q5 : zLq M N M3 N5 := q4.trans (zLq.text f5 f6 f7)
        rcases l_if (⟨f3, lp4.2.1.move f5 f6 f7, by have := lp4.2.2; omega⟩ : zLp L M3 N5 b3 s) (by rw [f6.2 13 (by decide) (by decide)]; exact n413) with ⟨M4, N6, b4, s4, e1, e2, e3, e4, e5, e6, e7, e8⟩ | ⟨M4, N6, e1, e2, e3⟩
        · have n6 : ∀ j, j < 1230 + 2 * s → N6 1 j = if j = x + 2 then nI s else if j = x + 1 then nI a else if j = x then nI k else N 1 j := fun j hj => by rw [e6.2.2.2.2.2 j hj, f7, n4]
          obtain ⟨M5, y1, y2, y3, y4⟩ := l_fin h0 hn e3 e4 hk ha (q5.trans e6.q) ⟨by rw [e6.1 28 (by decide) (by decide) (by decide), f5 28 (by decide), hM 28 (by decide)], by rw [e6.1 29 (by decide) (by decide) (by decide), f5 29 (by decide), hM 29 (by decide)], by rw [e6.1 30 (by decide) (by decide) (by decide), f5 30 (by decide), hM 30 (by decide)], by rw [e6.2.1 0 (by decide), f5 27 (by decide), hM 27 (by decide)], fun i hi => by rw [e6.2.2.1 i hi, f5 31 (by decide), hM 31 (by decide)]⟩ (fun j hj hne => by rw [n6 j hj, if_neg (by omega), if_neg (by omega), if_neg (by omega)]) (by rw [n6 _ (by omega), if_neg (by omega), if_neg (by omega), if_pos (by omega)]) (by rw [n6 _ (by omega), if_neg (by omega), if_pos (by omega)]) (by rw [n6 _ (by omega), if_pos (by omega)]) (fun _ => e8)
          left
          refine ⟨M5, _, b4, s4, ?_, ?_, y3, y4⟩
          · rw [e1, zbn_s]
            dsimp only
            rw [if_neg n10, y1]
          · rw [e2, zbn_s]
            dsimp only
            rw [if_neg n10, hx, y2]
        · right
          obtain ⟨bf, z1, z2, z3, z4, z5, z6⟩ := e3
          exact ⟨M4, N6, bf, by rw [e1, zbn_s, if_pos rfl], by rw [e2, zbn_s, if_pos rfl], z1, z2, q5.trans ⟨fun q a1 a2 => z3 q (by omega) (by omega) a2, z4, z5, z6⟩⟩
      · rw [f1, zbn_s, f2, zbn_s]
        dsimp only
        rw [if_pos rfl, if_pos rfl]
        have n6 : ∀ j, N5 1 j = if j = x + 2 then nI s else if j = x + 1 then nI a else if j = x then nI k else N 1 j := fun j => by rw [f7, n4]
        obtain ⟨M5, y1, y2, y3, y4⟩ := l_fin h0 hn (⟨f3, lp4.2.1.move (fun _ _ => rfl) f6 f7, lp4.2.2⟩ : zLp L M2 N5 b2 s) (Nat.le_refl _) hk ha (q4.trans (zLq.text (fun _ _ => rfl) f6 f7)) ⟨hM 28 (by decide), hM 29 (by decide), hM 30 (by decide), by rw [hM 27 (by decide)], fun i _ => by rw [hM 31 (by decide)]⟩ (fun j hj hne => by rw [n6 j, if_neg (by omega), if_neg (by omega), if_neg (by omega)]) (by rw [n6, if_neg (by omega), if_neg (by omega), if_pos (by omega)]) (by rw [n6, if_neg (by omega), if_pos (by omega)]) (by rw [n6, if_pos (by omega)]) (fun z => by omega)
        left
        exact ⟨M5, _, b2, s, y1, by rw [hx, y2], y3, y4⟩
    rw [hX1, h34, hR0, hR2, h53]
    have wrap : ∀ {fx fr : Option (Int32 × zM)}, ((∃ M' N' b' s', fx = some (1, M') ∧ fr = some (1, N') ∧ zLrr L M' N' b' s' (n + 1) ∧ zLq M N M' N') ∨ (∃ M' N' bf, fx = some (0, M') ∧ fr = some (0, N') ∧ M' 39 6 = nI bf ∧ zBf (N' 0 12) bf ∧ zLq M N M' N')) → ((∃ M' N' b' s', fx = some (1, M') ∧ zbn fr (fun u_1 => if u_1.1 = 0 then (some ((0 : Int32), u_1.2)) else (some ((1 : Int32), u_1.2))) = some (1, N') ∧ zLrr L M' N' b' s' (n + 1) ∧ zLq M N M' N') ∨ (∃ M' N' bf, fx = some (0, M') ∧ zbn fr (fun u_1 => if u_1.1 = 0 then (some ((0 : Int32), u_1.2)) else (some ((1 : Int32), u_1.2))) = some (0, N') ∧ M' 39 6 = nI bf ∧ zBf (N' 0 12) bf ∧ zLq M N M' N')) := by
      intro fx fr z
      rcases z with ⟨M', N', b', s', z1, z2, z3⟩ | ⟨M', N', bf, z1, z2, z3⟩
      · exact Or.inl ⟨M', N', b', s', z1, by rw [z2, zbn_s, if_neg n10], z3⟩
      · exact Or.inr ⟨M', N', bf, z1, by rw [z2, zbn_s, if_pos rfl], z3⟩
    by_cases k1 : k = 1
    · rw [if_pos (by rw [hu, k1]), if_pos (by rw [k1]; rfl)]
      exact wrap (tail M1 N2 b1 1 p2 (fun _ _ => rfl) zNf.refl rfl (Nat.le_refl _) (by omega))
    · rw [if_neg (fun z => k1 (by rw [hu, i_eq, i_nI (by omega), i_nI (by omega)] at z; omega)), if_neg (fun z => k1 (by rw [show (1 : Int32) = nI 1 from rfl, i_eq, i_nI (by omega), i_nI (by omega)] at z; omega))]
      refine wrap ?_
      rcases k_num p2 (lo := 0) (hi := 9) (by decide) with ⟨M2, N3, b2, c1, c2, c3, c4, c5, c6, c7, c8⟩ | ⟨c1, N3, c2, c3, c4, c5⟩
      · have l9 : (9 : Int32).toInt = 9 := rfl
        rw [i_lit0, l9] at c3
        obtain ⟨a, a1, a2⟩ := nI_get (x := zpn L M1 b1) c3.1
        rw [c1, zbn_s, c2, zbn_s, a2]
        exact tail M2 N3 b2 a c4 c6 c7 c8 c5 (by omega)
      · right
        refine ⟨zu M1 39 6 (nI b1), zu N3 1 (x + 1) (-1), b1, ?_, ?_, by rw [zu_at, if_pos ⟨rfl, rfl⟩], by rw [zu_row (by decide)]; exact c3, (q2.trans (zLq.text miss_f c4 c5)).trans (zLq.cell (by omega))⟩
        · rw [c1, zbn_s, b_X4_line_61, if_pos rfl]
        · have e1 : zu N3 1 (x + 1) (-1) 1 (x + 1) = -1 := by rw [zu_at, if_pos ⟨rfl, rfl⟩]
          rw [c2, zbn_s, b_X11_readLawLine_93, zck_t (nI_lt_i (by omega) (by omega)), nI_cl (by omega), znm_e, nI_p1, zck_t (nI_lt_i (by omega) (by omega)), nI_cl (by omega), e1, if_neg (by decide)]
  by_cases q0 : u = nI 14
  · exact yes 0 (by omega) q0 (by rw [hX, if_pos q0]) (by rw [hR1, if_pos q0]; rfl)
  by_cases q1 : u = nI 15
  · exact yes 1 (by omega) q1 (by rw [hX, if_neg q0, if_pos q1]) (by rw [hR1, if_neg q0, if_pos q1]; rfl)
  by_cases q2 : u = nI 16
  · exact yes 2 (by omega) q2 (by rw [hX, if_neg q0, if_neg q1, if_pos q2]) (by rw [hR1, if_neg q0, if_neg q1, if_pos q2]; rfl)
  right
  have e1 : zu (zNb N b (zle L M b)) 1 x (-1) 1 x = -1 := by rw [zu_at, if_pos ⟨rfl, rfl⟩]
  refine ⟨zu M 39 6 (nI b), zu (zNb N b (zle L M b)) 1 x (-1), b, by rw [hX, if_neg q0, if_neg q1, if_neg q2], ?_, by rw [zu_at, if_pos ⟨rfl, rfl⟩], ⟨by rw [zu_row (by decide)]; exact zNb_12, p.b4⟩, (zLq.text miss_f zNb_f zNb_1).trans (zLq.cell (by omega))⟩
  rw [hR0, hR1, if_neg q0, if_neg q1, if_neg q2, b_X11_readLawLine_53, zck_t (nI_lt_i (by omega) (by omega)), nI_cl (by omega), znm_e, zck_t (nI_lt_i (by omega) (by omega)), e1, if_neg (by decide), zbn_s, if_pos rfl]
end
