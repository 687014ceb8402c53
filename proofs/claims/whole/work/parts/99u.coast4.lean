section
variable {L : Nat} {T : Int} {M M' N N' : zM} {b : Nat}
theorem l_edition (h : zCo L T M N b) : zOuc L T M N (zbn (f_X1_change M) (fun u_2 => if u_2.1 = ((-9)) then (some (0, u_2.2)) else (znm (zu u_2.2 9 3 u_2.1) (fun M_3 => some (1, M_3))))) (f_X11_readSigned N 10) := by
  rw [show (10 : Int32) = nI 10 from rfl]
  rcases j_signed h.1 (c := 10) (by omega) with ⟨v, M', N', b', c1, c2, c3, c4, c5, c6, c7, c8⟩ | ⟨M', N', bf, c1, c2, c3, c4, c5, c6⟩
  · left
    have hco := h.move c5 c6 c8
    refine ⟨_, _, b', by rw [c1, zbn_s, if_neg c2, znm_e], c4, hco.put (o := 9) (j := 3) (c := 10) (v := v) (by omega) (hco.2.1.put (by decide) _) (hco.2.2.put (by exact c3) (by omega) (by omega) (by omega) (by omega) (fun m hm => by omega) (fun m hm => by omega)), c6.cm.trans (put_cm (by omega)), (c7.cn c8).trans (put_cn (by omega) (by omega) (by omega))⟩
  · right
    exact ⟨M', N', bf, by rw [c1, zbn_s, if_pos rfl], c2, c3, c4, c5.cm, c6⟩
theorem l_error (h : zCo L T M N b) : zOuc L T M N (zbn (f_X7_takeNumber M 0 11) (fun u_4 => if u_4.1 = ((-1)) then (b_X1_errorLine_32 9 u_4.2 u_4.1 ((-9))) else (zbn (f_X1_change u_4.2 ) (fun u_5 => b_X1_errorLine_32 9 u_5.2 u_4.1 u_5.1)))) (f_X11_readError N) := by
  have l11 : (11 : Int32).toInt = 11 := rfl
  rcases j_num h.1 (lo := 0) (hi := 11) (by decide) with ⟨M1, N1, b1, c1, c2, c3, c4, c5, c6, c7⟩ | ⟨c1, N1, c2, c3, c4, c5⟩
  · have hne := i_m (by decide) c3.1
    rw [i_lit0, l11] at c3
    obtain ⟨p, p1, p2⟩ := nI_get (x := zpn L M b) (by omega)
    rw [p2] at c1 c2 hne
    have hco := h.move c4 c5 c7
    have hr : f_X11_readError N = zbn (f_X11_readSigned N1 (nI (26 + p))) (fun u_2 => if u_2.1 = 0 then (some (0, u_2.2)) else (some (1, u_2.2))) := by
      rw [f_X11_readError, c2, zbn_s]
      dsimp only
      rw [if_neg (by rw [i_lt, i_lit0, i_nI (by omega)]; omega), show (26 : Int32) = nI 26 from rfl, nI_add]
    rw [hr, c1, zbn_s]
    dsimp only
    rw [if_neg hne]
    rcases j_signed hco.1 (c := 26 + p) (by omega) with ⟨v, M', N', b', d1, d2, d3, d4, d5, d6, d7, d8⟩ | ⟨M', N', bf, d1, d2, d3, d4, d5, d6⟩
    · left
      have hco2 := hco.move d5 d6 d8
      have hp : f_X10_put M' (9 + 2) (nI p) v = some (zu M' (9 + 2) p v) := x_put (n := 12) (by decide +kernel) (by omega) (by omega)
      refine ⟨zu M' (9 + 2) p v, zu N' 1 (26 + p) v, b', ?_, ?_, hco2.put (by omega) (hco2.2.1.putE (by omega) _) (hco2.2.2.put (by rw [(zlo_e (by omega)).1, (zlo_e (by omega)).2]; exact d3) (by omega) (by omega) (by omega) (by omega) (fun m hm => by omega) (fun m hm => by omega)), (c5.cm.trans d6.cm).trans (put_cm (by omega)), ((c6.cn c7).trans (d7.cn d8)).trans (put_cn (by omega) (by omega) (by omega))⟩
      · rw [d1, zbn_s, b_X1_errorLine_32, if_neg d2, hp, zbn_s]
      · rw [d4, zbn_s, if_neg n10]
    · right
      refine ⟨M', N', bf, ?_, ?_, d3, d4, c5.cm.trans d5.cm, c6.trans d6⟩
      · rw [d1, zbn_s, b_X1_errorLine_32, if_pos rfl]
      · rw [d2, zbn_s, if_pos rfl]
  · right
    refine ⟨_, N1, b, by rw [c1, zbn_s, if_pos rfl, b_X1_errorLine_32, if_pos rfl], ?_, by rw [zu_at, if_pos ⟨rfl, rfl⟩], c3, miss_f.cm, c4⟩
    rw [f_X11_readError, c2, zbn_s, if_pos (show (-1 : Int32) < 0 by decide)]
theorem d_if {α : Type} {P : Prop} [Decidable P] {A B : α} : (if (if P then (1 : Int32) else 0) = 0 then A else B) = if P then B else A := by
  by_cases h : P
  · rw [if_pos h, if_pos h, if_neg n10]
  · rw [if_neg h, if_neg h, if_pos rfl]
theorem zOuc.x {fx fr : Option (Int32 × zM)} (h : zOuc L T M N fx fr) : zOuc L T M N (zbn fx (fun u => zck (zbl u.1) (some (u.1, u.2)))) fr := by
  rcases h with ⟨M', N', b', h1, h2, h3⟩ | ⟨M', N', b', h1, h2, h3⟩
  · exact Or.inl ⟨M', N', b', by rw [h1, zbn_s, zck_t (by first | exact (show zbl 1 = true by decide) | exact (show zbl 0 = true by decide))], h2, h3⟩
  · exact Or.inr ⟨M', N', b', by rw [h1, zbn_s, zck_t (by first | exact (show zbl 1 = true by decide) | exact (show zbl 0 = true by decide))], h2, h3⟩
theorem zOuc.r {fx fr : Option (Int32 × zM)} (h : zOuc L T M N fx fr) : zOuc L T M N fx (zbn fr (fun u => zck (zbl u.1) (some (u.1, u.2)))) := by
  rcases h with ⟨M', N', b', h1, h2, h3⟩ | ⟨M', N', b', h1, h2, h3⟩
  · exact Or.inl ⟨M', N', b', h1, by rw [h2, zbn_s, zck_t (by first | exact (show zbl 1 = true by decide) | exact (show zbl 0 = true by decide))], h3⟩
  · exact Or.inr ⟨M', N', b', h1, by rw [h2, zbn_s, zck_t (by first | exact (show zbl 1 = true by decide) | exact (show zbl 0 = true by decide))], h3⟩
theorem zOuc.q {fx fr : Option (Int32 × zM)} (h : zOuc L T M N fx fr) : zOuc L T M N fx (zbn fr (fun u => if u.1 = 0 then (some (0, u.2)) else (some (1, u.2)))) := by
  rcases h with ⟨M', N', b', h1, h2, h3⟩ | ⟨M', N', b', h1, h2, h3⟩
  · exact Or.inl ⟨M', N', b', h1, by rw [h2, zbn_s, if_neg n10], h3⟩
  · exact Or.inr ⟨M', N', b', h1, by rw [h2, zbn_s, if_pos rfl], h3⟩
theorem zOuc.from {fx fr : Option (Int32 × zM)} (h : zOuc L T M' N' fx fr) (hM : zMf M M') (hN : zNf N N') (h1 : N' 1 = N 1) : zOuc L T M N fx fr := by
  rcases h with ⟨M2, N2, b', c1, c2, c3, c4, c5⟩ | ⟨M2, N2, b', c1, c2, c3, c4, c5, c6⟩
  · exact Or.inl ⟨M2, N2, b', c1, c2, c3, hM.cm.trans c4, (hN.cn h1).trans c5⟩
  · exact Or.inr ⟨M2, N2, b', c1, c2, c3, c4, hM.cm.trans c5, hN.trans c6⟩
theorem l_line (h : zCo L T M N b) {i : Nat} (hi : i < 14) : zOuc L T M N (f_X1_line M 9) (f_X11_readLine N 1 (nI i)) := by
  obtain ⟨u, u1, u2, u3, u4⟩ := x_word h.1
  have hw : ∀ k, k < 29 → f_X11_isWord (zNb N b (zle L M b)) (zwi k) = some (if u = nI k then 1 else 0) := fun k hk => by
    rw [r_isw h.1 hk]
    by_cases e : u = nI k
    · rw [if_pos e, if_pos ((u2 k hk).mp e)]
    · rw [if_neg e, if_neg (fun z => e ((u2 k hk).mpr z))]
  have hr0 : f_X11_readLine N 1 (nI i) = zbn (f_X11_readCoastLine (zNb N b (zle L M b))) (fun u_3 => if u_3.1 = 0 then (some (0, u_3.2)) else (some (1, u_3.2))) := by
    rw [f_X11_readLine, r_let h.1, zbn_s, if_neg n10, b_X11_readLine_16, if_neg (by rw [show (14 : Int32) = nI 14 from rfl, i_le, i_nI (by omega), i_nI (by omega)]; omega), if_neg n10]
  obtain ⟨m, m1, m2⟩ := nI_get (x := N 1 0) h.2.2.c0.1
  obtain ⟨d, d1, d2⟩ := nI_get (x := N 1 1) h.2.2.c1.1
  have hm6 : m ≤ 6 := by have := h.2.2.c0.2; omega
  have hd6 : d ≤ 6 := by have := h.2.2.c1.2; omega
  have km : M 9 10 = nI m := by rw [h.2.1.monks, m2]
  have kd : M 9 11 = nI d := by rw [h.2.1.duties, d2]
  have l6 : (6 : Int32) = nI 6 := rfl
  have missed : f_X1_line M 9 = b_X1_line_52 9 M ∨ f_X1_line M 9 = b_X1_line_218 9 M → f_X11_readCoastLine (zNb N b (zle L M b)) = some (0, zNb N b (zle L M b)) → zOuc L T M N (f_X1_line M 9) (f_X11_readLine N 1 (nI i)) := by
    intro e1 e2
    right
    refine ⟨zu M 39 6 (nI b), zNb N b (zle L M b), b, ?_, by rw [hr0, e2, zbn_s, if_pos rfl], by rw [zu_at, if_pos ⟨rfl, rfl⟩], ⟨zNb_12, h.1.b4⟩, miss_f.cm, zNb_f⟩
    rcases e1 with e1 | e1
    · rw [e1, b_X1_line_52, h.1.miss, zbn_s, zck_t (by first | exact (show zbl 1 = true by decide) | exact (show zbl 0 = true by decide))]
    · rw [e1, b_X1_line_218, h.1.miss, zbn_s, zck_t (by first | exact (show zbl 1 = true by decide) | exact (show zbl 0 = true by decide))]
  have go : ∀ k, k < 29 → u = nI k → ∀ (g : zM → Option (Int32 × zM)) (fr : Option (Int32 × zM)), (∀ M1 b1, zCo L T M1 (zNb N b (zle L M b)) b1 → zOuc L T M1 (zNb N b (zle L M b)) (g M1) fr) → zOuc L T M N (zbn (f_X7_next M) g) fr := by
    intro k hk hu g fr hg
    obtain ⟨M1, g1, g2, g3⟩ := j_go h.1 hk ((u2 k hk).mp hu)
    rw [g1, zbn_s]
    exact (hg M1 _ (h.move g3 g2 zNb_1)).from g2 zNb_f zNb_1
  have e0 : f_X11_isWord (zNb N b (zle L M b)) 1 = some (if u = nI 0 then 1 else 0) := hw 0 (by omega)
  have e1 : f_X11_isWord (zNb N b (zle L M b)) 2 = some (if u = nI 1 then 1 else 0) := hw 1 (by omega)
  have e2 : f_X11_isWord (zNb N b (zle L M b)) 3 = some (if u = nI 2 then 1 else 0) := hw 2 (by omega)
  have e3 : f_X11_isWord (zNb N b (zle L M b)) 4 = some (if u = nI 3 then 1 else 0) := hw 3 (by omega)
  have e21 : f_X11_isWord (zNb N b (zle L M b)) 6 = some (if u = nI 21 then 1 else 0) := hw 21 (by omega)
  have e4 : f_X11_isWord (zNb N b (zle L M b)) 9 = some (if u = nI 4 then 1 else 0) := hw 4 (by omega)
  have e5 : f_X11_isWord (zNb N b (zle L M b)) 11 = some (if u = nI 5 then 1 else 0) := hw 5 (by omega)
  have e6 : f_X11_isWord (zNb N b (zle L M b)) 12 = some (if u = nI 6 then 1 else 0) := hw 6 (by omega)
  have e7 : f_X11_isWord (zNb N b (zle L M b)) 15 = some (if u = nI 7 then 1 else 0) := hw 7 (by omega)
  have hc : f_X11_readCoastLine (zNb N b (zle L M b)) = if u = nI 0 then (zbn (f_X11_readGround (zNb N b (zle L M b))) (fun u => zck (zbl u.1) (some (u.1, u.2)))) else (if u = nI 1 then (zbn (f_X11_readNumber (zNb N b (zle L M b)) 5 4 24) (fun u => zck (zbl u.1) (some (u.1, u.2)))) else (if u = nI 2 then (zbn (f_X11_readNumber (zNb N b (zle L M b)) 6 2 28) (fun u => zck (zbl u.1) (some (u.1, u.2)))) else (if u = nI 3 then (zbn (f_X11_readRange (zNb N b (zle L M b))) (fun u => zck (zbl u.1) (some (u.1, u.2)))) else (if u = nI 21 then (zbn (f_X11_readMonk (zNb N b (zle L M b))) (fun u => zck (zbl u.1) (some (u.1, u.2)))) else (if u = nI 4 then (zbn (f_X11_readDuty (zNb N b (zle L M b))) (fun u => zck (zbl u.1) (some (u.1, u.2)))) else (if u = nI 5 then (zbn (f_X11_readNumber (zNb N b (zle L M b)) 11 0 100) (fun u => zck (zbl u.1) (some (u.1, u.2)))) else (if u = nI 6 then (zbn (f_X11_readSigned (zNb N b (zle L M b)) 10) (fun u => zck (zbl u.1) (some (u.1, u.2)))) else (if u = nI 7 then (zbn (f_X11_readError (zNb N b (zle L M b))) (fun u => if u.1 = 0 then (some (0, u.2)) else (some (1, u.2)))) else ((some (0, zNb N b (zle L M b)))))))))))) := by
    rw [f_X11_readCoastLine, e0, zbn_s, e1, zbn_s, e2, zbn_s, e3, zbn_s, e21, zbn_s, e4, zbn_s, e5, zbn_s, e6, zbn_s, e7, zbn_s]
    simp only [d_if]
  by_cases q0 : u = nI 0
  · have hc2 := hc
    rw [if_pos q0] at hc2
    have hx : f_X1_line M 9 = zbn (f_X1_groundLine M 9) (fun u => zck (zbl u.1) (some (u.1, u.2))) := by
      rw [f_X1_line, u1, zbn_s, q0, if_neg (by decide), b_X1_line_23, if_neg (by decide), b_X1_line_41, b_X1_line_42, if_neg (by decide), if_pos rfl, if_pos (show nI 0 = 0 from rfl)]
    rw [hx, hr0, hc2, f_X1_groundLine]
    exact (go 0 (by omega) q0 _ _ (fun M1 b1 H => l_ground H)).x.r.q
  by_cases q1 : u = nI 1
  · have hc2 := hc
    rw [if_neg q0, if_pos q1] at hc2
    have hx : f_X1_line M 9 = zbn (f_X1_periodLine M 9) (fun u => zck (zbl u.1) (some (u.1, u.2))) := by
      rw [f_X1_line, u1, zbn_s, q1, if_neg (by decide), b_X1_line_23, if_neg (by decide), b_X1_line_41, b_X1_line_42, if_neg (by decide), if_pos rfl, if_neg (by decide), if_pos (show nI 1 = 1 from rfl)]
    rw [hx, hr0, hc2, f_X1_periodLine]
    exact (go 1 (by omega) q1 _ _ (fun M1 b1 H => l_num H (j := 5) (c := 5) (by decide) (by decide) (by decide) (by omega))).x.r.q
  by_cases q2 : u = nI 2
  · have hc2 := hc
    rw [if_neg q0, if_neg q1, if_pos q2] at hc2
    have hx : f_X1_line M 9 = zbn (f_X1_roundLine M 9) (fun u => zck (zbl u.1) (some (u.1, u.2))) := by
      rw [f_X1_line, u1, zbn_s, q2, if_neg (by decide), b_X1_line_23, if_neg (by decide), b_X1_line_41, b_X1_line_42, if_neg (by decide), if_pos rfl, if_neg (by decide), if_neg (by decide), if_pos (show nI 2 = 2 from rfl)]
    rw [hx, hr0, hc2, f_X1_roundLine]
    exact (go 2 (by omega) q2 _ _ (fun M1 b1 H => l_num H (j := 6) (c := 6) (by decide) (by decide) (by decide) (by omega))).x.r.q
  by_cases q3 : u = nI 3
  · have hc2 := hc
    rw [if_neg q0, if_neg q1, if_neg q2, if_pos q3] at hc2
    have hx : f_X1_line M 9 = zbn (f_X1_rangeLine M 9) (fun u => zck (zbl u.1) (some (u.1, u.2))) := by
      rw [f_X1_line, u1, zbn_s, q3, if_neg (by decide), b_X1_line_23, if_neg (by decide), b_X1_line_41, b_X1_line_42, if_neg (by decide), if_pos rfl, if_neg (by decide), if_neg (by decide), if_neg (by decide), if_pos (show nI 3 = 3 from rfl)]
    rw [hx, hr0, hc2, f_X1_rangeLine]
    exact (go 3 (by omega) q3 _ _ (fun M1 b1 H => l_range H)).x.r.q
  by_cases q21 : u = nI 21
  · have hc2 := hc
    rw [if_neg q0, if_neg q1, if_neg q2, if_neg q3, if_pos q21] at hc2
    by_cases hm : m < 6
    · have hx : f_X1_line M 9 = zbn (f_X1_monkLine M 9) (fun u => zck (zbl u.1) (some (u.1, u.2))) := by
        rw [f_X1_line, u1, zbn_s, q21, if_pos (show nI 21 = 21 from rfl), km, if_neg (by rw [l6, i_le, i_nI (by omega), i_nI (by omega)]; omega), b_X1_line_23, if_neg (by decide), b_X1_line_41, b_X1_line_42, if_neg (by decide), if_pos rfl, if_neg (by decide), if_neg (by decide), if_neg (by decide), if_neg (by decide), if_neg (by decide), if_neg (by decide), if_neg (by decide), if_neg (by decide), if_pos (show nI 21 = 21 from rfl)]
      rw [hx, hr0, hc2, f_X1_monkLine]
      exact (go 21 (by omega) q21 _ _ (fun M1 b1 H => l_monk H (m := m) (by rw [zNb_1]; exact m2) hm)).x.r.q
    · have m6 : m = 6 := by omega
      refine missed (Or.inl ?_) (by rw [hc2, f_X11_readMonk, r_monks, zNb_1, m2, zbn_s, m6, if_pos (show nI 6 = 6 from rfl), zbn_s, zck_t (by first | exact (show zbl 1 = true by decide) | exact (show zbl 0 = true by decide))])
      rw [f_X1_line, u1, zbn_s, q21, if_pos (show nI 21 = 21 from rfl), km, if_pos (by rw [l6, i_le, i_nI (by omega), i_nI (by omega)]; omega), b_X1_line_37, b_X1_line_42, if_neg (by decide), if_neg n10]
  by_cases q4 : u = nI 4
  · have hc2 := hc
    rw [if_neg q0, if_neg q1, if_neg q2, if_neg q3, if_neg q21, if_pos q4] at hc2
    by_cases hm : d < 6
    · have hx : f_X1_line M 9 = zbn (f_X1_dutyLine M 9) (fun u => zck (zbl u.1) (some (u.1, u.2))) := by
        rw [f_X1_line, u1, zbn_s, q4, if_neg (by decide), b_X1_line_23, if_pos (show nI 4 = 4 from rfl), kd, if_pos (by rw [l6, i_lt, i_nI (by omega), i_nI (by omega)]; omega), b_X1_line_41, b_X1_line_42, if_neg (by decide), if_pos rfl, if_neg (by decide), if_neg (by decide), if_neg (by decide), if_neg (by decide), if_pos (show nI 4 = 4 from rfl)]
      rw [hx, hr0, hc2, f_X1_dutyLine]
      exact (go 4 (by omega) q4 _ _ (fun M1 b1 H => l_duty H (d := d) (by rw [zNb_1]; exact d2) hm)).x.r.q
    · have m6 : d = 6 := by omega
      refine missed (Or.inl ?_) (by rw [hc2, f_X11_readDuty, r_duties, zNb_1, d2, zbn_s, m6, if_pos (show nI 6 = 6 from rfl), zbn_s, zck_t (by first | exact (show zbl 1 = true by decide) | exact (show zbl 0 = true by decide))])
      rw [f_X1_line, u1, zbn_s, q4, if_neg (by decide), b_X1_line_23, if_pos (show nI 4 = 4 from rfl), kd, if_neg (by rw [l6, i_lt, i_nI (by omega), i_nI (by omega)]; omega), b_X1_line_37, b_X1_line_42, if_neg (by decide), if_neg n10]
  by_cases q5 : u = nI 5
  · have hc2 := hc
    rw [if_neg q0, if_neg q1, if_neg q2, if_neg q3, if_neg q21, if_neg q4, if_pos q5] at hc2
    have hx : f_X1_line M 9 = zbn (f_X1_stormLine M 9) (fun u => zck (zbl u.1) (some (u.1, u.2))) := by
      rw [f_X1_line, u1, zbn_s, q5, if_neg (by decide), b_X1_line_23, if_neg (by decide), b_X1_line_41, b_X1_line_42, if_neg (by decide), if_pos rfl, if_neg (by decide), if_neg (by decide), if_neg (by decide), if_neg (by decide), if_neg (by decide), if_pos (show nI 5 = 5 from rfl)]
    rw [hx, hr0, hc2, f_X1_stormLine]
    exact (go 5 (by omega) q5 _ _ (fun M1 b1 H => l_num H (j := 4) (c := 11) (by decide) (by decide) (by decide) (by omega))).x.r.q
  by_cases q6 : u = nI 6
  · have hc2 := hc
    rw [if_neg q0, if_neg q1, if_neg q2, if_neg q3, if_neg q21, if_neg q4, if_neg q5, if_pos q6] at hc2
    have hx : f_X1_line M 9 = zbn (f_X1_editionLine M 9) (fun u => zck (zbl u.1) (some (u.1, u.2))) := by
      rw [f_X1_line, u1, zbn_s, q6, if_neg (by decide), b_X1_line_23, if_neg (by decide), b_X1_line_41, b_X1_line_42, if_neg (by decide), if_pos rfl, if_neg (by decide), if_neg (by decide), if_neg (by decide), if_neg (by decide), if_neg (by decide), if_neg (by decide), if_pos (show nI 6 = 6 from rfl)]
    rw [hx, hr0, hc2, f_X1_editionLine]
    exact (go 6 (by omega) q6 _ _ (fun M1 b1 H => l_edition H)).x.r.q
  by_cases q7 : u = nI 7
  · have hc2 := hc
    rw [if_neg q0, if_neg q1, if_neg q2, if_neg q3, if_neg q21, if_neg q4, if_neg q5, if_neg q6, if_pos q7] at hc2
    have hx : f_X1_line M 9 = zbn (f_X1_errorLine M 9) (fun u => zck (zbl u.1) (some (u.1, u.2))) := by
      rw [f_X1_line, u1, zbn_s, q7, if_neg (by decide), b_X1_line_23, if_neg (by decide), b_X1_line_41, b_X1_line_42, if_neg (by decide), if_pos rfl, if_neg (by decide), if_neg (by decide), if_neg (by decide), if_neg (by decide), if_neg (by decide), if_neg (by decide), if_neg (by decide), if_pos (show nI 7 = 7 from rfl)]
    rw [hx, hr0, hc2, f_X1_errorLine]
    exact (go 7 (by omega) q7 _ _ (fun M1 b1 H => l_error H)).x.q.q
  rw [if_neg q0, if_neg q1, if_neg q2, if_neg q3, if_neg q21, if_neg q4, if_neg q5, if_neg q6, if_neg q7] at hc
  by_cases qm : u = -1
  · refine missed (Or.inl ?_) hc
    rw [f_X1_line, u1, zbn_s, if_neg (by exact q21), b_X1_line_23, if_neg (by exact q4), b_X1_line_41, b_X1_line_42, if_pos qm]
  · refine missed (Or.inr ?_) hc
    rw [f_X1_line, u1, zbn_s, if_neg (by exact q21), b_X1_line_23, if_neg (by exact q4), b_X1_line_41, b_X1_line_42, if_neg qm, if_pos rfl, if_neg (by exact q0), if_neg (by exact q1), if_neg (by exact q2), if_neg (by exact q3), if_neg (by exact q4), if_neg (by exact q5), if_neg (by exact q6), if_neg (by exact q7), if_neg (by exact q21)]
end
