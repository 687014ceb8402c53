section
variable {L hh d : Nat} {M M' N N' : zM} {b s : Nat} {RA RC : zM → Int32 → Option (Int32 × zM)} {ra rc x y r1 r3 : zM → Option (Int32 × zM)}
theorem zLf.mk0 (hb : b ≤ 400) (hN : zNf N N') (h1 : N' 1 = N 1) (h12 : N' 0 12 = nI b) : zLf M N (zu M 39 6 (nI b)) N' := ⟨b, by rw [zu_at, if_pos ⟨rfl, rfl⟩], ⟨h12, hb⟩, fun q _ _ z => zu_row z, hN.1, fun j x y _ _ => hN.2 j x y, fun j _ => by rw [h1]⟩
theorem zLg.deep {v : Int32} : zLg s M N M (zu N 0 13 v) := ⟨fun _ _ _ _ => rfl, fun _ _ => rfl, fun _ _ => rfl, fun q x _ => zu_row x, fun j _ _ z _ => by rw [zu_at, if_neg (by omega)], fun j _ => by rw [zu_row (by decide)]⟩
theorem zLp.deep {v : Int32} (h : zLp L M N b s) : zLp L M (zu N 0 13 v) b s := ⟨h.1.oth rfl rfl rfl rfl (by rw [zu_at, if_neg (by decide)]) (by rw [zu_at, if_neg (by decide)]) (zu_row (by decide)), h.2.1.eq rfl rfl (by rw [zu_at, if_neg (by decide)]) (zu_row (by decide)), h.2.2⟩
theorem d_m1 : nI (d + 1) - 1 = nI d := by
  rw [← nI_p1]; exact Int32.add_sub_cancel _ _
theorem l_cmp (h : zLp L M N b s) (hs : s + 5 ≤ b) {sg x1 c : Int32} (hc : sg = 60 ∧ x1 = 1 ∧ c = 10 ∨ sg = 62 ∧ x1 = 0 ∧ c = 11) : zLo L 3 [false] [true] M N (b - 1) s (zbn (f_X4_sum M) (fun u_15 => if u_15.1 = 0 then (b_X4_atom_185 RA RC u_15.2 sg) else (b_X4_atom_186 RA RC u_15.2 sg 1))) (b_X11_readAtom_152 ra y rc N x1) := by
  rcases l_sums h with ⟨M1, N1, b1, s1, e1, e2, e3, e4, e5, e6, e7, e8⟩ | ⟨M1, N1, e1, e2, e3⟩
  · left
    have hs1 := e3.s4
    have hst : zSt (1000 + sg) c 0 := by
      rcases hc with ⟨rfl, rfl, rfl⟩ | ⟨rfl, rfl, rfl⟩
      · right; right; right; right; left; exact ⟨rfl, rfl⟩
      · right; right; right; right; right; left; exact ⟨rfl, rfl⟩
    have g3 : zLg s1 M1 N1 (zEx M1 s1 (1000 + sg)) (zEr N1 s1 c 0) := (zLg.ex (N := N1)).trans zLg.er (Nat.le_refl _)
    refine ⟨zEx M1 s1 (1000 + sg), zEr N1 s1 c 0, b1, s1 + 1, ?_, ?_, ⟨e3.1.ex.er, e3.2.1.emit hst, by omega⟩, by omega, by omega, e6.trans g3 e4, by rw [zEr_0 (by decide), e7], ?_⟩
    · rw [e1, zbn_s]
      dsimp only
      rw [if_neg n10, b_X4_atom_186, x_emit e3.2.1.1 (by omega), zbn_s]; rfl
    · rw [b_X11_readAtom_152, e2, zbn_s]
      dsimp only
      rw [if_neg n10, b_X11_readAtom_173, b_X11_readAtom_173]
      rcases hc with ⟨rfl, rfl, rfl⟩ | ⟨rfl, rfl, rfl⟩
      · rw [if_neg n10, r_emit e3.2.1.2.1 (by omega), zbn_s]
      · rw [if_pos rfl, r_emit e3.2.1.2.1 (by omega), zbn_s]
    · refine zTp.trans (s1 := s1) (mid := [false, false]) ((e8.push (p := [false]) (h' := 3) (by decide)).eq (fun j _ z => g3.2.2.2.2.2 j z)) (zTp.one zEr_c (fun ts _ => ?_)) e4 (by omega)
      rcases hc with ⟨rfl, rfl, rfl⟩ | ⟨rfl, rfl, rfl⟩ <;> rfl
  · right
    obtain ⟨M2, a1, a2⟩ := x_emitA (M := M1) (v := 1000 + sg)
    refine ⟨M2, N1, ?_, by rw [b_X11_readAtom_152, e2, zbn_s, if_pos rfl], e3.x a2⟩
    rw [e1, zbn_s]
    dsimp only
    rw [if_pos rfl, b_X4_atom_185, b_X4_atom_186, a1, zbn_s]; rfl
theorem l_atom (hd : d ≤ 6) (h3 : 3 ≤ hh) (HA : d < 6 → zAt L hh (d + 1) RA ra) (HC : d < 6 → zAt L hh (d + 1) RC rc) : zAt L hh d (g_X4_atom RA RC) (g_X11_readAtom ra y rc) := by
  intro M N b s h h13
  have hs4 := h.s4
  obtain ⟨p, sp, hs⟩ := h
  have hL := p.1.1
  have hbL := p.bL
  obtain ⟨u, u1, u2, u3, u4⟩ := x_word p
  have l6 : (6 : Int32) = nI 6 := rfl
  have hd6 : (nI d = 6) ↔ d = 6 := by
    rw [l6, i_eq, i_nI (by omega), i_nI (by omega)]; omega
  have hlt6 : (nI d < 6) ↔ d < 6 := by rw [l6]; exact nI_ltN (by omega) (by omega)
  have hX : g_X4_atom RA RC M (nI d) = if u = nI 20 then (b_X4_atom_26 RA RC M (nI d) u) else (zbn (f_X7_isSign M (nI 40)) (fun u_19 => if u_19 = 0 then (if u = nI 27 then (b_X4_atom_113 RA RC M u) else (if u = nI 28 then (b_X4_atom_113 RA RC M u) else (zbn (f_X4_sum M) (fun u_20 => if u_20.1 = 0 then (some (0, u_20.2)) else (zbn (f_X7_isSign u_20.2 60) (fun u_21 => if u_21 = 0 then (b_X4_atom_162 RA RC u_20.2 62) else (b_X4_atom_162 RA RC u_20.2 60))))))) else (b_X4_atom_26 RA RC M (nI d) u))) := by
    rw [g_X4_atom, u1, zbn_s]; rfl
  have hlen : ∀ i, i < 29 → u = nI i → b < zle L M b := by
    intro i hi e
    have hm := (u2 i hi).mp e
    have hl : ∀ i, i < 29 → 0 < zLen.getD (zwi i) 0 := by decide
    have := hl i hi
    unfold zwm at hm
    rw [Bool.and_eq_true, decide_eq_true_eq] at hm
    omega
  rcases k_sign p (c := 40) (by omega) (by omega) with ⟨M1, N1, b1, c1, c2, c3, c4, c5, c6, c7, c8, c9, c10, c11⟩ | ⟨c1, c2, c3⟩
  · -- an opening bracket
    have hu : u = -1 := by
      rcases u3 with e | e
      · exact e
      · obtain ⟨i, i1, i2⟩ := i_u e
        have h1 := hlen i i1 i2
        have h2 : zle L M b = b := zle_b (fun _ => by unfold zir; rw [c11]; decide)
        omega
    have hR : g_X11_readAtom ra y rc N = (if (N1 0 13) = 6 then (some (0, N1)) else (znm (zu N1 0 13 ((N1 0 13) + 1)) (fun M_22 => zbn (rc M_22) (fun u_23 => if u_23.1 = 0 then (some (0, u_23.2)) else (znm (zu u_23.2 0 13 ((u_23.2 0 13) - 1)) (fun M_24 => zbn (f_X11_sign M_24 41) (fun u_25 => zck (zbl u_25.1) (some (u_25.1, u_25.2))))))))) := by
      rw [g_X11_readAtom, show (40 : Int32) = nI 40 from rfl, c3, zbn_s]
      dsimp only
      rw [if_neg n10]
    have d1 : N1 0 13 = nI d := by rw [c7.2 13 (by decide) (by decide)]; exact h13
    rw [hX, hu, if_neg (by decide), c1, zbn_s, if_neg n10, hR, d1, b_X4_atom_26]
    by_cases q : d = 6
    · right
      rw [if_neg (fun z => by rw [hlt6] at z; omega), if_pos (hd6.mpr q), p.miss, zbn_s]
      exact ⟨_, _, rfl, rfl, zLf.mk0 p.b4 c7 c8 c9⟩
    · rw [if_pos (hlt6.mpr (by omega)), if_neg (fun z => q (hd6.mp z)), c2, zbn_s, if_neg (by decide), znm_e, nI_p1]
      have hp1 : zLp L M1 (zu N1 0 13 (nI (d + 1))) b1 s := zLp.deep ⟨c4, sp.move c6 c7 c8, by omega⟩
      have g1 : zLg s M N M1 (zu N1 0 13 (nI (d + 1))) := (zLg.text c6 c7 c8).trans zLg.deep (Nat.le_refl _)
      rcases HC (by omega) M1 (zu N1 0 13 (nI (d + 1))) b1 s hp1 (by rw [zu_at, if_pos ⟨rfl, rfl⟩]) with ⟨M2, N2, b2, s2, e1, e2, e3, e4, e5, e6, e7, e8⟩ | ⟨M2, N2, e1, e2, e3⟩
      · have e13 : N2 0 13 = nI (d + 1) := by rw [e7, zu_at, if_pos ⟨rfl, rfl⟩]
        rw [e1, zbn_s, e2, zbn_s]
        dsimp only
        rw [if_neg n10, if_neg n10, znm_e, e13, d_m1]
        have hp2 : zLp L M2 (zu N2 0 13 (nI d)) b2 s2 := e3.deep
        have g2 : zLg s M N M2 (zu N2 0 13 (nI d)) := (g1.trans e6 (Nat.le_refl _)).trans zLg.deep e4
        rw [show (41 : Int32) = nI 41 from rfl]
        rcases k_sign hp2.1 (c := 41) (by omega) (by omega) with ⟨M3, N3, b3, f1, f2, f3, f4, f5, f6, f7, f8, f9, f10, f11⟩ | ⟨f1, f2, f3⟩
        · left
          refine ⟨M3, N3, b3, s2, ?_, by rw [f3, zbn_s]; rfl, ⟨f4, hp2.2.1.move f6 f7 f8, by have := hp2.2.2; omega⟩, e4, by omega, g2.trans (zLg.text f6 f7 f8) e4, by rw [f7.2 13 (by decide) (by decide), zu_at, if_pos ⟨rfl, rfl⟩, h13], (e8.eq (fun j _ _ => by rw [f8, zu_row (by decide)]))⟩
          rw [f_X7_takeSign, f1, zbn_s, if_neg n10, f2, zbn_s, zbn_s]
          dsimp only
          rw [if_neg n10]
        · right
          refine ⟨zu M2 39 6 (nI b2), _, ?_, by rw [f2, zbn_s]; rfl, (zLf.mk0 hp2.1.b4 zNb_f zNb_1 zNb_12).from g2⟩
          rw [f_X7_takeSign, f1, zbn_s, if_pos rfl, hp2.1.miss, zbn_s]; rfl
      · right
        refine ⟨M2, N2, by rw [e1, zbn_s, if_pos rfl], by rw [e2, zbn_s, if_pos rfl], e3.from g1⟩
  · have hR0 : g_X11_readAtom ra y rc N = (zbn (f_X11_passes (zNb N b b) (zwi 20)) (fun u_6 => if u_6.1 = 0 then (zbn (f_X11_readTag u_6.2) (fun u_7 => if u_7.1 = 0 then (zbn (f_X11_readSum u_7.2) (fun u_8 => if u_8.1 = 0 then (some (0, u_8.2)) else (zbn (f_X11_sign u_8.2 60) (fun u_9 => if u_9.1 = 0 then (zbn (f_X11_sign u_9.2 62) (fun u_10 => if u_10.1 = 0 then (some (0, u_10.2)) else (b_X11_readAtom_152 ra y rc u_10.2 u_9.1))) else (b_X11_readAtom_152 ra y rc u_9.2 u_9.1))))) else (some (1, u_7.2)))) else (if (u_6.2 0 13) = 6 then (some (0, u_6.2)) else (znm (zu u_6.2 0 13 ((u_6.2 0 13) + 1)) (fun M_15 => zbn (ra M_15) (fun u_16 => if u_16.1 = 0 then (some (0, u_16.2)) else (znm (zu u_16.2 0 13 ((u_16.2 0 13) - 1)) (fun M_17 => zbn (f_X11_emits M_17 12 0) (fun u_18 => some (1, u_18)))))))))) := by
      rw [g_X11_readAtom, show (40 : Int32) = nI 40 from rfl, c2, zbn_s]
      dsimp only
      rw [if_pos rfl]; rfl
    have gb : zLg s M N M (zNb N b b) := zLg.text (fun _ _ => rfl) zNb_f zNb_1
    have spb : zSp M (zNb N b b) s := sp.move (fun _ _ => rfl) zNb_f zNb_1
    rw [hX, hR0]
    rcases k_pass c3 (i := 20) (by omega) with ⟨M1, N1, b1, f1, f2, f3, f4, f5, f6, f7, f8, f9, f10⟩ | ⟨N1, f1, f2, f3, f6, f7, f8⟩
    · -- "not"
      have hu : u = nI 20 := (u2 20 (by omega)).mpr f10
      have d1 : N1 0 13 = nI d := by rw [f7.2 13 (by decide) (by decide), zNb_16 (by decide) (by decide)]; exact h13
      rw [if_pos hu, f3, zbn_s]
      dsimp only
      rw [if_neg n10, b_X4_atom_26]
      have g0 : zLg s M N M1 N1 := gb.trans (zLg.text f6 f7 f8) (Nat.le_refl _)
      by_cases q : d = 6
      · right
        rw [if_neg (fun z => by rw [hlt6] at z; omega), if_pos (show N1 0 13 = 6 by rw [d1]; exact hd6.mpr q), p.miss, zbn_s]
        exact ⟨_, _, rfl, rfl, zLf.mk0 p.b4 (zNb_f.trans f7) (by rw [f8, zNb_1]) f9⟩
      · rw [if_pos (hlt6.mpr (by omega)), if_neg (show ¬ N1 0 13 = 6 from fun z => q (hd6.mp (by rw [← d1]; exact z))), f2, zbn_s, if_pos (show u = 20 from hu), znm_e, d1, nI_p1]
        have hp1 : zLp L M1 (zu N1 0 13 (nI (d + 1))) b1 s := zLp.deep ⟨f4, spb.move f6 f7 f8, by omega⟩
        have g1 : zLg s M N M1 (zu N1 0 13 (nI (d + 1))) := g0.trans zLg.deep (Nat.le_refl _)
        rcases HA (by omega) M1 (zu N1 0 13 (nI (d + 1))) b1 s hp1 (by rw [zu_at, if_pos ⟨rfl, rfl⟩]) with ⟨M2, N2, b2, s2, e1, e2, e3, e4, e5, e6, e7, e8⟩ | ⟨M2, N2, e1, e2, e3⟩
        · have e13 : N2 0 13 = nI (d + 1) := by rw [e7, zu_at, if_pos ⟨rfl, rfl⟩]
          have hs2 := e3.s4
          rw [e1, zbn_s, e2, zbn_s]
          dsimp only
          rw [if_neg n10, znm_e, e13, d_m1]
          have hp2 : zLp L M2 (zu N2 0 13 (nI d)) b2 s2 := e3.deep
          have g2 : zLg s M N M2 (zu N2 0 13 (nI d)) := (g1.trans e6 (Nat.le_refl _)).trans zLg.deep e4
          have g3 : zLg s2 M2 (zu N2 0 13 (nI d)) (zEx M2 s2 1020) (zEr (zu N2 0 13 (nI d)) s2 12 0) := (zLg.ex (N := zu N2 0 13 (nI d))).trans zLg.er (Nat.le_refl _)
          rw [x_emit hp2.2.1.1 (by omega), zbn_s, r_emit hp2.2.1.2.1 (by omega), zbn_s]
          left
          refine ⟨_, _, b2, s2 + 1, rfl, rfl, ⟨hp2.1.ex.er, hp2.2.1.emit (by right; right; left; exact ⟨rfl, rfl⟩), by omega⟩, by omega, by omega, g2.trans g3 e4, by rw [zEr_0 (by decide), zu_at, if_pos ⟨rfl, rfl⟩, h13], ?_⟩
          exact zTp.trans (s1 := s2) (mid := [true]) (e8.eq (fun j _ z => (g3.2.2.2.2.2 j z).trans (by rw [zu_row (by decide)]))) (zTp.one zEr_c (fun ts _ => rfl)) e4 (by omega)
        · right
          obtain ⟨M3, a1, a2⟩ := x_emitA (M := M2) (v := 1020)
          refine ⟨M3, N2, ?_, by rw [e2, zbn_s, if_pos rfl], (e3.from g1).x a2⟩
          rw [e1, zbn_s]
          dsimp only
          rw [a1, zbn_s]; rfl
    · have hu20 : ¬ u = nI 20 := fun z => by have := (u2 20 (by omega)).mp z; rw [f8] at this; exact absurd this (by decide)
      rw [if_neg hu20, c1, zbn_s, if_pos rfl, f2, zbn_s]
      dsimp only
      rw [if_pos rfl]
      have sp1 : zSp M N1 s := spb.move (fun _ _ => rfl) f6 f7
      have g1 : zLg s M N M N1 := gb.trans (zLg.text (fun _ _ => rfl) f6 f7) (Nat.le_refl _)
      have d1 : N1 0 13 = N 0 13 := by rw [f6.2 13 (by decide) (by decide), zNb_16 (by decide) (by decide)]
      have hw : ∀ k, k < 29 → f_X11_isWord (zNb N1 b (zle L M b)) (zwi k) = some (if u = nI k then 1 else 0) := fun k hk => by
        rw [r_isw f3 hk]
        by_cases e : u = nI k
        · rw [if_pos e, if_pos ((u2 k hk).mp e)]
        · rw [if_neg e, if_neg (fun z => e ((u2 k hk).mpr z))]
      have e27 : f_X11_isWord (zNb N1 b (zle L M b)) 21 = some (if u = nI 27 then 1 else 0) := hw 27 (by omega)
      have e28 : f_X11_isWord (zNb N1 b (zle L M b)) 22 = some (if u = nI 28 then 1 else 0) := hw 28 (by omega)
      have hT : f_X11_readTag N1 = if u = nI 27 then b_X11_readTag_33 (zNb N1 b (zle L M b)) 6 else if u = nI 28 then b_X11_readTag_33 (zNb N1 b (zle L M b)) 7 else b_X11_readTag_33 (zNb N1 b (zle L M b)) (-1) := by
        rw [f_X11_readTag, r_let f3, zbn_s, e27, zbn_s, e28, zbn_s]
        simp only [d_if]
      have tag : ∀ (k : Nat), k = 6 ∨ k = 7 → u = nI (21 + k) → zLo L hh [] [true] M N b s (b_X4_atom_113 RA RC M u) (zbn (b_X11_readTag_33 (zNb N1 b (zle L M b)) (nI k)) (fun u_7 => if u_7.1 = 0 then (zbn (f_X11_readSum u_7.2) (fun u_8 => if u_8.1 = 0 then (some (0, u_8.2)) else (zbn (f_X11_sign u_8.2 60) (fun u_9 => if u_9.1 = 0 then (zbn (f_X11_sign u_9.2 62) (fun u_10 => if u_10.1 = 0 then (some (0, u_10.2)) else (b_X11_readAtom_152 ra y rc u_10.2 u_9.1))) else (b_X11_readAtom_152 ra y rc u_9.2 u_9.1))))) else (some (1, u_7.2)))) := by
        intro k hk hu
        have hlt := hlen (21 + k) (by omega) hu
        have hne : ¬ u = -1 := fun z => by rw [z, i_eq, i_nI (by omega)] at hu; exact absurd hu (by show ¬ (-1 : Int) = _; omega)
        obtain ⟨M2, a1, a2, a3, a4, a5, a6, a7, a8⟩ := l_tell f3 sp1 (by omega) (v := nI (1021 + k)) (c := nI k) (n := 0) (e := zle L M b) (t := true) (Or.inr (Or.inl ⟨k, by omega, rfl, rfl⟩)) hlt (zle_le hbL).2 (u4 hne) (fun ts ht => by
          unfold zTy1
          rw [if_pos (by rw [i_le, i_nI (by omega)]; show _ ≤ (8 : Int); omega), if_pos (by omega)]
          rcases hk with rfl | rfl <;> rfl)
        left
        refine ⟨M2, zEr (zNb N1 b (zle L M b)) s (nI k) 0, zsk L M (zle L M b), s + 1, ?_, ?_, ⟨a3, a5, by omega⟩, by omega, by omega, g1.trans a6 (Nat.le_refl _), by rw [a7, d1], a8.up (by omega)⟩
        · rw [b_X4_atom_113, hu, show (1000 : Int32) = nI 1000 from rfl, nI_add, show 1000 + (21 + k) = 1021 + k by omega, a1, zbn_s, a2, zbn_s]
        · have hk0 : ¬ nI k < 0 := by rw [i_lt, i_lit0, i_nI (by omega)]; omega
          rw [b_X11_readTag_33, if_neg hk0, r_emit (by rw [zNb_16 (by decide) (by decide)]; exact sp1.2.1) (by omega), zbn_s, b_X11_readTag_55, if_neg hk0, zbn_s]
          dsimp only
          rw [if_neg n10]
      rw [hT]
      by_cases q1 : u = nI 27
      · rw [if_pos q1, if_pos q1]
        exact tag 6 (by omega) q1
      · rw [if_neg q1, if_neg q1]
        by_cases q2 : u = nI 28
        · rw [if_pos q2, if_pos q2]
          exact tag 7 (by omega) q2
        · rw [if_neg q2, if_neg q2, b_X11_readTag_33, if_pos (by decide), znm_e, zNb_12, zNb_set, b_X11_readTag_55, if_pos (by decide), zbn_s]
          dsimp only
          rw [if_pos rfl]
          have hp2 : zLp L M (zNb N1 b b) b s := ⟨f3.bb, sp1.eq rfl rfl (zNb_16 (by decide) (by decide)) zNb_1, hs⟩
          have g2 : zLg s M N M (zNb N1 b b) := g1.trans (zLg.text (fun _ _ => rfl) zNb_f zNb_1) (Nat.le_refl _)
          rcases l_sums hp2 with ⟨M3, N3, b3, s3, e1, e2, e3, e4, e5, e6, e7, e8⟩ | ⟨M3, N3, e1, e2, e3⟩
          · have e13 : N3 0 13 = N 0 13 := by rw [e7, zNb_16 (by decide) (by decide), d1]
            have g3 : zLg s M N M3 N3 := g2.trans e6 (Nat.le_refl _)
            have hs3 := e3.2.2
            rw [e1, zbn_s, e2, zbn_s]
            dsimp only
            rw [if_neg n10, if_neg n10, show (60 : Int32) = nI 60 from rfl, show (62 : Int32) = nI 62 from rfl]
            have t3 : zTp N3 s s3 hh [] [false] := e8.up (by omega)
            rcases k_sign e3.1 (c := 60) (by omega) (by omega) with ⟨M4, N4, b4, f1, f2, f3, f4, f5, f6, f7, f8, f9, f10, f11⟩ | ⟨f1, f2, f3⟩
            · have o := l_cmp (RA := RA) (RC := RC) (ra := ra) (y := y) (rc := rc) (⟨f4, e3.2.1.move f6 f7 f8, by omega⟩ : zLp L M4 N4 b4 s3) (by omega) (sg := nI 60) (x1 := 1) (c := 10) (Or.inl ⟨rfl, rfl, rfl⟩)
              rw [f1, zbn_s, if_neg n10, f3, zbn_s]
              dsimp only
              rw [if_neg n10, b_X4_atom_162, f_X7_takeSign, f1, zbn_s, if_neg n10, f2, zbn_s, zbn_s]
              dsimp only
              rw [if_neg n10]
              exact (o.up h3).from (g3.trans (zLg.text f6 f7 f8) e4) e4 (by omega) (by rw [f7.2 13 (by decide) (by decide), e13]) (t3.eq (fun j _ _ => by rw [f8]))
            · rw [f1, zbn_s, if_pos rfl, f2, zbn_s]
              dsimp only
              rw [if_pos rfl, b_X4_atom_162, f_X7_takeSign]
              have spn : zSp M3 (zNb N3 b3 b3) s3 := e3.2.1.eq rfl rfl (zNb_16 (by decide) (by decide)) zNb_1
              have g4 : zLg s M N M3 (zNb N3 b3 b3) := g3.trans (zLg.text (fun _ _ => rfl) zNb_f zNb_1) e4
              rcases k_sign f3 (c := 62) (by omega) (by omega) with ⟨M4, N4, b4, v1, v2, v3, v4, v5, v6, v7, v8, v9, v10, v11⟩ | ⟨v1, v2, v3⟩
              · have o := l_cmp (RA := RA) (RC := RC) (ra := ra) (y := y) (rc := rc) (⟨v4, spn.move v6 v7 v8, by omega⟩ : zLp L M4 N4 b4 s3) (by omega) (sg := nI 62) (x1 := 0) (c := 11) (Or.inr ⟨rfl, rfl, rfl⟩)
                rw [v1, zbn_s, if_neg n10, v2, zbn_s, zbn_s, v3, zbn_s]
                dsimp only
                rw [if_neg n10, if_neg n10]
                exact (o.up h3).from (g4.trans (zLg.text v6 v7 v8) e4) e4 (by omega) (by rw [v7.2 13 (by decide) (by decide), zNb_16 (by decide) (by decide), e13]) (t3.eq (fun j _ _ => by rw [v8, zNb_1]))
              · right
                obtain ⟨M5, a1, a2⟩ := x_emitA (M := zu M3 39 6 (nI b3)) (v := 1000 + nI 62)
                refine ⟨M5, zNb (zNb N3 b3 b3) b3 b3, ?_, by rw [v2, zbn_s, if_pos rfl], ((zLf.mk0 e3.1.b4 zNb_f zNb_1 zNb_12).from g4).x a2⟩
                rw [v1, zbn_s, if_pos rfl, e3.1.miss, zbn_s, zck_t (show zbl 0 = true by decide), zbn_s]
                dsimp only
                rw [if_pos rfl, b_X4_atom_185, b_X4_atom_186, a1, zbn_s]; rfl
          · right
            exact ⟨M3, N3, by rw [e1, zbn_s, if_pos rfl], by rw [e2, zbn_s, if_pos rfl], e3.from g2⟩
theorem cond_all : ∀ (r k k' : Nat), r ≤ 6 → 2 * r + 1 ≤ k → 3 * r + 1 ≤ k' → zAt L (3 + 2 * r) (6 - r) (fr_X4 k).1 (fr_X11 k').1 ∧ zAt L (5 + 2 * r) (6 - r) (fr_X4 (k + 1)).2 (fr_X11 (k' + 2)).2.2 := by
  intro r
  induction r with
  | zero =>
    intro k k' h1 h2 h3
    have A : ∀ k k', 1 ≤ k → 1 ≤ k' → zAt L 3 6 (fr_X4 k).1 (fr_X11 k').1 := by
      intro k k' h2 h3
      obtain ⟨k, rfl⟩ : ∃ j, k = j + 1 := ⟨k - 1, by omega⟩
      obtain ⟨k', rfl⟩ : ∃ j, k' = j + 1 := ⟨k' - 1, by omega⟩
      exact l_atom (L := L) (hh := 3) (d := 6) (RA := (fr_X4 k).1) (RC := (fr_X4 k).2) (ra := (fr_X11 k').1) (y := (fr_X11 k').2.1) (rc := (fr_X11 k').2.2) (by omega) (by omega) (fun z => by omega) (fun z => by omega)
    refine ⟨A k k' (by omega) (by omega), ?_⟩
    exact l_cond (L := L) (hh := 3) (d := 6) (RA := (fr_X4 k).1) (RC := (fr_X4 k).2) (ra := (fr_X11 k').1) (x := (fr_X11 k').2.1) (y := (fr_X11 k').2.2) (r1 := (fr_X11 (k' + 1)).1) (r3 := (fr_X11 (k' + 1)).2.2) (A k k' (by omega) (by omega))
  | succ r ih =>
    intro k k' h1 h2 h3
    have A : ∀ k k', 2 * (r + 1) + 1 ≤ k → 3 * (r + 1) + 1 ≤ k' → zAt L (3 + 2 * (r + 1)) (6 - (r + 1)) (fr_X4 k).1 (fr_X11 k').1 := by
      intro k k' h2 h3
      obtain ⟨k, rfl⟩ : ∃ j, k = j + 1 + 1 := ⟨k - 2, by omega⟩
      obtain ⟨k', rfl⟩ : ∃ j, k' = j + 2 + 1 := ⟨k' - 3, by omega⟩
      have i1 := (ih (k + 1) (k' + 2) (by omega) (by omega) (by omega)).1
      have i2 := (ih k k' (by omega) (by omega) (by omega)).2
      refine l_atom (L := L) (hh := 3 + 2 * (r + 1)) (d := 6 - (r + 1)) (RA := (fr_X4 (k + 1)).1) (RC := (fr_X4 (k + 1)).2) (ra := (fr_X11 (k' + 2)).1) (y := (fr_X11 (k' + 2)).2.1) (rc := (fr_X11 (k' + 2)).2.2) (by omega) (by omega) (fun z => ?_) (fun z => ?_)
      · rw [show 6 - (r + 1) + 1 = 6 - r by omega]
        intro M N b s h h13
        exact (i1 M N b s h h13).up (by omega)
      · rw [show 6 - (r + 1) + 1 = 6 - r by omega, show 3 + 2 * (r + 1) = 5 + 2 * r by omega]
        exact i2
    refine ⟨A k k' (by omega) (by omega), ?_⟩
    rw [show 5 + 2 * (r + 1) = 3 + 2 * (r + 1) + 2 by omega]
    exact l_cond (L := L) (hh := 3 + 2 * (r + 1)) (d := 6 - (r + 1)) (RA := (fr_X4 k).1) (RC := (fr_X4 k).2) (ra := (fr_X11 k').1) (x := (fr_X11 k').2.1) (y := (fr_X11 k').2.2) (r1 := (fr_X11 (k' + 1)).1) (r3 := (fr_X11 (k' + 1)).2.2) (A k k' (by omega) (by omega))
theorem l_if (h : zLp L M N b s) (h13 : N 0 13 = 0) : zLo L 17 [] [true] M N b s (f_X4_condition M 0) (f_X11_readCond N) :=
  (cond_all (L := L) 6 23 34 (by omega) (by omega) (by omega)).2 M N b s h h13
end
