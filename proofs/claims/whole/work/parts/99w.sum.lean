section
variable {L : Nat} {M M' M1 N N' N1 : zM} {b s : Nat}
theorem zNb_16 {p j : Nat} (h1 : j ≠ 10) (h2 : j ≠ 12) : zNb N b p 0 j = N 0 j := (zNb_f (N := N) (b := b) (p := p)).2 j h1 h2
theorem i_u {u : Int32} (h : 0 ≤ u.toInt ∧ u.toInt < 29) : ∃ i : Nat, i < 29 ∧ u = nI i := by
  obtain ⟨j, j1, j2⟩ := nI_get h.1
  exact ⟨j, by omega, j2⟩
theorem l_tell (p : zPr L M N b) (sp : zSp M N s) (hs : s < 400) {v c n : Int32} {e : Nat} {t : Bool} (st : zSt v c n) (hbe : b < e) (heL : e ≤ L) (hen : zen L M b = e) (hty : ∀ ts : List Bool, ts.length + 1 ≤ 40 → zTy1 c ts = some (t :: ts)) : ∃ M1, f_X3_addStep M 27 v = some (zEx M s v) ∧ f_X7_next (zEx M s v) = some M1 ∧ zPr L M1 (zEr (zNb N b e) s c n) (zsk L M e) ∧ b < zsk L M e ∧ zSp M1 (zEr (zNb N b e) s c n) (s + 1) ∧ zLg s M N M1 (zEr (zNb N b e) s c n) ∧ (zEr (zNb N b e) s c n) 0 13 = N 0 13 ∧ zTp (zEr (zNb N b e) s c n) s (s + 1) 1 [] [t] := by
  have px : zPr L (zEx M s v) N b := p.ex
  obtain ⟨M1, n1, n2, n3⟩ := px.nx
  rw [zsk_eq zEx_by, zen_eq zEx_by, hen] at n3
  have hsk := (zsk_le (M := M) (L := L) heL).1
  have pn : zPr L M1 (zNb N b e) (zsk L M e) := by
    have := px.next (M' := M1) (N' := zNb N b e) (e := e) heL n2 (by rw [zsk_eq zEx_by]; exact n3) zNb_10 (by rw [zNb_16 (by decide) (by decide)]) (by unfold zNb; rw [zu_row (by decide), zu_row (by decide)])
    rw [zsk_eq zEx_by] at this; exact this
  refine ⟨M1, x_emit sp.1 hs, n1, pn.er, by omega, ?_, ?_, by rw [zEr_0 (by decide), zNb_16 (by decide) (by decide)], zTp.one zEr_c (fun ts ht => hty ts ht)⟩
  · have sp2 : zSp M (zNb N b e) s := sp.eq rfl rfl (zNb_16 (by decide) (by decide)) zNb_1
    exact (sp2.emit st).eq (n2.1 27 (by decide)) (n2.1 31 (by decide)) rfl rfl
  · exact ((zLg.ex (N := N)).trans (zLg.text n2.mf zNb_f zNb_1) (Nat.le_refl _)).trans zLg.er (Nat.le_refl _)
theorem l_part (h : zLp L M N b s) : (∃ v M1 N1 b1, (∀ n i, i < 400 → b_X4_sum_2 (n + 1) M (nI i) = b_X4_sum_80 (fun M x1 => b_X4_sum_2 n M x1) M (nI i) v) ∧ f_X3_addStep M 27 v = some (zEx M s v) ∧ f_X7_next (zEx M s v) = some M1 ∧ f_X11_readPart N = some (1, N1) ∧ zPr L M1 N1 b1 ∧ b < b1 ∧ zSp M1 N1 (s + 1) ∧ zLg s M N M1 N1 ∧ N1 0 13 = N 0 13 ∧ zTp N1 s (s + 1) 1 [] [false]) ∨ (∃ M1 N1, (∀ n i, i < 400 → b_X4_sum_2 (n + 1) M (nI i) = some (0, M1)) ∧ f_X11_readPart N = some (0, N1) ∧ zLf M N M1 N1) := by
  have hs4 := h.s4
  obtain ⟨p, sp, hs⟩ := h
  have hL := p.1.1
  have hbL := p.bL
  obtain ⟨u, u1, u2, u3, u4⟩ := x_word p
  obtain ⟨p1, p2⟩ := x_plain p
  have lm : (-1 : Int32).toInt = -1 := rfl
  have hle := zle_le (M := M) (p := b) (L := L) hbL
  have hde := zde_le (M := M) (p := b) (L := L) hbL
  have hsum : ∀ n i, i < 400 → b_X4_sum_2 (n + 1) M (nI i) = (if u < 21 then (b_X4_sum_41 (fun M x1 => b_X4_sum_2 n M x1) M (nI i) (zpn L M b) u) else (if 26 < u then (b_X4_sum_41 (fun M x1 => b_X4_sum_2 n M x1) M (nI i) (zpn L M b) u) else (b_X4_sum_42 (fun M x1 => b_X4_sum_2 n M x1) M (nI i) (zpn L M b) u 1))) := by
    intro n i hi
    rw [b_X4_sum_2, if_neg (by rw [i_le, i_nI (by omega)]; show ¬ (400 : Int) ≤ _; omega), p1, zbn_s, u1, zbn_s]
  have e54 : b_X4_sum_54 M = some (0, zu M 39 6 (nI b)) := by rw [b_X4_sum_54, p.miss, zbn_s]; rfl
  have emitN : ∀ (e : Nat) (c n : Int32), f_X11_emits (zNb N b e) c n = some (zEr (zNb N b e) s c n) := fun e c n => r_emit (by rw [zNb_16 (by decide) (by decide)]; exact sp.2.1) (by omega)
  have lf : ∀ (e : Nat) (c n : Int32), zLf M N (zu M 39 6 (nI b)) (zEr (zNb N b e) s c n) := fun e c n => by
    refine ⟨b, by rw [zu_at, if_pos ⟨rfl, rfl⟩], ⟨by rw [zEr_0 (by decide)]; exact zNb_12, p.b4⟩, fun q _ _ z => zu_row z, fun q x y => by rw [zEr_q x y, (zNb_f).1 q x y], fun j x y _ t => by rw [zEr_0 t, zNb_16 x y], fun j x => by rw [zEr_1, if_neg (by omega), if_neg (by omega), zNb_1]⟩
  have fin : ∀ (v c n : Int32) (e : Nat), zSt v c n → b < e → e ≤ L → zen L M b = e → (∀ ts : List Bool, ts.length + 1 ≤ 40 → zTy1 c ts = some (false :: ts)) → _ := fun v c n e st h1 h2 h3 h4 => l_tell p sp (show s < 400 by omega) (v := v) (c := c) (n := n) (e := e) st h1 h2 h3 h4
  by_cases q : zle L M b = b
  · have hu : u = -1 := by
      rcases u3 with e | e
      · exact e
      · obtain ⟨i, i1, i2⟩ := i_u e
        have hm := (u2 i i1).mp i2
        have hl : ∀ i, i < 29 → 0 < zLen.getD (zwi i) 0 := by decide
        have := hl i i1
        unfold zwm at hm
        rw [Bool.and_eq_true, decide_eq_true_eq] at hm
        omega
    have hr : f_X11_readPart N = zbn (f_X11_number (zNb N b b) 0 999) (fun u_16 => zbn (f_X11_emits u_16.2 8 u_16.1) (fun u_17 => b_X11_readPart_120 u_17 u_16.1)) := by
      rw [f_X11_readPart, r_let p, zbn_s, q, zNb_10, zNb_12, if_pos rfl]
    have hnum := r_number (zNb_tx p.1 (b := b) (p := b)) (q := b) zNb_10 hbL (lo := 0) (hi := 999) (by decide)
    rw [p.skb, zNb_zNb] at hnum
    have hzp := zpn_i (L := L) (M := M) (b := b)
    have l999 : (999 : Int32).toInt = 999 := rfl
    have hnum2 : f_X11_number (zNb N b b) 0 999 = some (zpn L M b, zNb N b (zde L M b)) := by
      rw [hnum]
      congr 2
      rcases hzp with e | e
      · rw [if_neg (by rw [e, lm]; decide), e]
      · rw [if_pos (by rw [i_lit0, l999]; omega)]
    rw [hnum2, zbn_s] at hr
    dsimp only at hr
    rw [emitN, zbn_s, b_X11_readPart_120] at hr
    by_cases z : zpn L M b = -1
    · right
      refine ⟨_, _, fun n i hi => ?_, by rw [hr, z, if_pos (by decide)], lf _ _ _⟩
      rw [hsum n i hi, hu, if_pos (by decide), b_X4_sum_41, b_X4_sum_42, if_pos z, if_pos rfl, e54]
    · left
      have e : 0 ≤ (zpn L M b).toInt ∧ (zpn L M b).toInt < 1000 := hzp.resolve_left z
      have hlt : b < zde L M b := by
        rcases Nat.lt_or_ge b (zde L M b) with a | a
        · exact a
        · exact absurd (by unfold zpn; rw [if_neg (by omega)]) z
      obtain ⟨M1, g1, g2, g3, g4, g5, g6, g7, g8⟩ := fin (zpn L M b) 8 (zpn L M b) (zde L M b) (Or.inl ⟨e.1, e.2, rfl, rfl⟩) hlt hde.2 (p2 z) (fun ts ht => by
        unfold zTy1
        rw [if_pos (by decide), if_pos (by omega)]; rfl)
      refine ⟨zpn L M b, M1, _, _, fun n i hi => ?_, g1, g2, by rw [hr, if_neg (by rw [i_lt, i_lit0]; omega)], g3, g4, g5, g6, g7, g8⟩
      rw [hsum n i hi, hu, if_pos (by decide), b_X4_sum_41, b_X4_sum_42, if_neg z, b_X4_sum_62, if_pos rfl]
  · have hlt : b < zle L M b := by omega
    have hlet : b < L ∧ zir M 97 122 b = true := by
      rcases zkd_cases (L := L) (M := M) (b := b) with ⟨k, c⟩ | ⟨c, k, k1, k2⟩ | ⟨c, k, k1, k2, k3⟩ | ⟨c, k, k1, k2, k3⟩
      · exact absurd (zle_b (fun z => by omega)) q
      · exact ⟨c, k1⟩
      · exact absurd (zle_b (fun _ => k1)) q
      · exact absurd (zle_b (fun _ => k1)) q
    have hz : zpn L M b = -1 := by
      have hd : zir M 48 57 b = false := by have := hlet.2; unfold zir at this ⊢; simp at this ⊢; omega
      unfold zpn; rw [zde_b (fun _ => hd), if_neg (by omega)]
    have hen : zen L M b = zle L M b := by unfold zen; rw [if_neg (by omega), if_pos hlet.2]
    have hw : ∀ k, k < 29 → f_X11_isWord (zNb N b (zle L M b)) (zwi k) = some (if u = nI k then 1 else 0) := fun k hk => by
      rw [r_isw p hk]
      by_cases e : u = nI k
      · rw [if_pos e, if_pos ((u2 k hk).mp e)]
      · rw [if_neg e, if_neg (fun z => e ((u2 k hk).mpr z))]
    have e21 : f_X11_isWord (zNb N b (zle L M b)) 6 = some (if u = nI 21 then 1 else 0) := hw 21 (by omega)
    have e22 : f_X11_isWord (zNb N b (zle L M b)) 23 = some (if u = nI 22 then 1 else 0) := hw 22 (by omega)
    have e23 : f_X11_isWord (zNb N b (zle L M b)) 24 = some (if u = nI 23 then 1 else 0) := hw 23 (by omega)
    have e24 : f_X11_isWord (zNb N b (zle L M b)) 25 = some (if u = nI 24 then 1 else 0) := hw 24 (by omega)
    have e25 : f_X11_isWord (zNb N b (zle L M b)) 26 = some (if u = nI 25 then 1 else 0) := hw 25 (by omega)
    have e26 : f_X11_isWord (zNb N b (zle L M b)) 27 = some (if u = nI 26 then 1 else 0) := hw 26 (by omega)
    have hr : f_X11_readPart N = if u = nI 21 then b_X11_readPart_113 (zNb N b (zle L M b)) 0 else if u = nI 22 then b_X11_readPart_113 (zNb N b (zle L M b)) 1 else if u = nI 23 then b_X11_readPart_113 (zNb N b (zle L M b)) 2 else if u = nI 24 then b_X11_readPart_113 (zNb N b (zle L M b)) 3 else if u = nI 25 then b_X11_readPart_113 (zNb N b (zle L M b)) 4 else if u = nI 26 then b_X11_readPart_113 (zNb N b (zle L M b)) 5 else b_X11_readPart_113 (zNb N b (zle L M b)) (-1) := by
      rw [f_X11_readPart, r_let p, zbn_s, zNb_10, zNb_12, if_neg (fun z => q (by rw [i_eq, i_nI (by omega), i_nI (by omega)] at z; omega)), e21, zbn_s, e22, zbn_s, e23, zbn_s, e24, zbn_s, e25, zbn_s, e26, zbn_s]
      simp only [d_if]
    have e113 : ∀ c : Int32, b_X11_readPart_113 (zNb N b (zle L M b)) c = if c < 0 then some (0, zEr (zNb N b (zle L M b)) s c 0) else some (1, zEr (zNb N b (zle L M b)) s c 0) := fun c => by
      rw [b_X11_readPart_113, emitN, zbn_s, b_X11_readPart_120]
    have yes : ∀ k : Nat, k < 6 → u = nI (21 + k) → f_X11_readPart N = b_X11_readPart_113 (zNb N b (zle L M b)) (nI k) := by
      intro k hk hu
      rw [hr, hu]
      have : k = 0 ∨ k = 1 ∨ k = 2 ∨ k = 3 ∨ k = 4 ∨ k = 5 := by omega
      rcases this with rfl | rfl | rfl | rfl | rfl | rfl
      · rw [if_pos rfl]; rfl
      · rw [if_neg (by decide), if_pos rfl]; rfl
      · rw [if_neg (by decide), if_neg (by decide), if_pos rfl]; rfl
      · rw [if_neg (by decide), if_neg (by decide), if_neg (by decide), if_pos rfl]; rfl
      · rw [if_neg (by decide), if_neg (by decide), if_neg (by decide), if_neg (by decide), if_pos rfl]; rfl
      · rw [if_neg (by decide), if_neg (by decide), if_neg (by decide), if_neg (by decide), if_neg (by decide), if_pos rfl]; rfl
    have l21 : (21 : Int32).toInt = 21 := rfl
    have l26 : (26 : Int32).toInt = 26 := rfl
    by_cases z : 21 ≤ u.toInt ∧ u.toInt ≤ 26
    · left
      obtain ⟨j, j1, j2⟩ := nI_get (x := u) (by omega)
      obtain ⟨k, rfl⟩ : ∃ k, j = 21 + k := ⟨j - 21, by omega⟩
      have hk : k < 6 := by omega
      have hk0 : 0 ≤ (nI k).toInt ∧ (nI k).toInt < 6 := by rw [i_nI (by omega)]; omega
      obtain ⟨M1, g1, g2, g3, g4, g5, g6, g7, g8⟩ := fin (nI (1021 + k)) (nI k) 0 (zle L M b) (Or.inr (Or.inl ⟨k, by omega, rfl, rfl⟩)) hlt hle.2 hen (fun ts ht => by
        have h6 : ¬ nI k = 6 := fun z => by rw [z] at hk0; exact absurd hk0.2 (by decide)
        have h7 : ¬ nI k = 7 := fun z => by rw [z] at hk0; exact absurd hk0.2 (by decide)
        unfold zTy1
        rw [if_pos (by rw [i_le]; show _ ≤ (8 : Int); omega), if_pos (by omega)]
        simp [h6, h7])
      refine ⟨nI (1021 + k), M1, _, _, fun n i hi => ?_, g1, g2, by rw [yes k hk j2, e113, if_neg (by rw [i_lt, i_lit0]; omega)], g3, g4, g5, g6, g7, g8⟩
      rw [hsum n i hi, if_neg (by rw [i_lt, l21]; omega), if_neg (by rw [i_lt, l26]; omega), hz, b_X4_sum_42, if_pos rfl, if_neg n10, b_X4_sum_62, if_neg n10, j2, show (1000 : Int32) = nI 1000 from rfl, nI_add, show 1000 + (21 + k) = 1021 + k by omega]
    · right
      have no : ∀ k : Nat, k < 6 → ¬ u = nI (21 + k) := fun k hk e => z (by rw [e, i_nI (by omega)]; omega)
      refine ⟨_, _, fun n i hi => ?_, ?_, lf (zle L M b) (-1) 0⟩
      · have e41 : b_X4_sum_41 (fun M x1 => b_X4_sum_2 n M x1) M (nI i) (zpn L M b) u = some (0, zu M 39 6 (nI b)) := by
          rw [b_X4_sum_41, b_X4_sum_42, if_pos hz, if_pos rfl, e54]
        rw [hsum n i hi, e41]
        by_cases a : u < 21
        · rw [if_pos a]
        · rw [if_neg a, if_pos (by rw [i_lt, l26]; rw [i_lt, l21] at a; omega)]
      · rw [hr, if_neg (no 0 (by omega)), if_neg (no 1 (by omega)), if_neg (no 2 (by omega)), if_neg (no 3 (by omega)), if_neg (no 4 (by omega)), if_neg (no 5 (by omega)), e113, if_pos (by decide)]
theorem sums_loop : ∀ (D : Nat) (M N : zM) (b s n n' i : Nat), L - b ≤ D → D < n → D < n' → zLp L M N b s → i ≤ s → zLo L 2 [false] [false] M N b s (b_X4_sum_104 (fun M x1 => b_X4_sum_2 n M x1) M (nI i)) (b_X11_readSum_9 n' N) := by
  intro D
  induction D using Nat.strongRecOn with
  | ind D ih =>
    intro M N b s n n' i hD hn hn' h hi
    have hs4 := h.s4
    obtain ⟨n', rfl⟩ : ∃ k, n' = k + 1 := ⟨n' - 1, by omega⟩
    have hbL := h.1.bL
    rcases k_sign h.1 (c := 43) (by omega) (by omega) with ⟨M1, N1, b1, c1, c2, c3, c4, c5, c6, c7, c8, c9, c10, c11⟩ | ⟨c1, c2, c3⟩
    · have hx : b_X4_sum_104 (fun M x1 => b_X4_sum_2 n M x1) M (nI i) = b_X4_sum_2 n M1 (nI (i + 1)) := by
        rw [b_X4_sum_104, show (43 : Int32) = nI 43 from rfl, c1, zbn_s, if_neg n10, c2, zbn_s, znm_e, nI_p1]
      have hr : b_X11_readSum_9 (n' + 1) N = zbn (f_X11_readPart N1) (fun u_2 => if u_2.1 = 0 then (some (0, u_2.2)) else (zbn (f_X11_emits u_2.2 9 0) (fun u_3 => b_X11_readSum_9 n' u_3))) := by
        rw [b_X11_readSum_9, show (43 : Int32) = nI 43 from rfl, c3, zbn_s]
        dsimp only
        rw [if_neg n10]
      have hb1 := c4.bL
      have h1 : zLp L M1 N1 b1 s := ⟨c4, h.2.1.move c6 c7 c8, by have := h.2.2; omega⟩
      have g1 : zLg s M N M1 N1 := zLg.text c6 c7 c8
      have d13 : N1 0 13 = N 0 13 := c7.2 13 (by decide) (by decide)
      obtain ⟨m, rfl⟩ : ∃ k, n = k + 1 := ⟨n - 1, by omega⟩
      rw [hx, hr]
      rcases l_part h1 with ⟨v, M2, N2, b2, d1, d2, d3, d4, d5, d6, d7, d8, d9, d10⟩ | ⟨M2, N2, d1, d2, d3⟩
      · have hx2 : b_X4_sum_2 (m + 1) M1 (nI (i + 1)) = b_X4_sum_104 (fun M x1 => b_X4_sum_2 m M x1) (zEx M2 (s + 1) 1043) (nI (i + 1)) := by
          rw [d1 m (i + 1) (by omega), b_X4_sum_80, d2, zbn_s, d3, zbn_s, if_neg (by rw [i_le, i_lit0, i_nI (by omega)]; omega), x_emit d7.1 (by omega), zbn_s]
        rw [hx2, d4, zbn_s]
        dsimp only
        rw [if_neg n10, r_emit d7.2.1 (by omega), zbn_s]
        have hb2 := d5.bL
        have sp3 : zSp (zEx M2 (s + 1) 1043) (zEr N2 (s + 1) 9 0) (s + 1 + 1) := d7.emit (Or.inr (Or.inr (Or.inr (Or.inl ⟨rfl, rfl⟩))))
        have g3 : zLg (s + 1) M2 N2 (zEx M2 (s + 1) 1043) (zEr N2 (s + 1) 9 0) := (zLg.ex (N := N2)).trans zLg.er (Nat.le_refl _)
        have o := ih (D - 1) (by omega) (zEx M2 (s + 1) 1043) (zEr N2 (s + 1) 9 0) b2 (s + 1 + 1) m n' (i + 1) (by omega) (by omega) (by omega) ⟨d5.ex.er, sp3, by have := h.2.2; omega⟩ (by omega)
        refine o.from ((g1.trans d8 (Nat.le_refl _)).trans g3 (by omega)) (by omega) (by have := h.2.2; omega) (by rw [zEr_0 (by decide), d9, d13]) ?_
        refine zTp.trans (s1 := s + 1) (mid := [false, false]) ((d10.push (p := [false]) (h' := 2) (by decide)).eq (fun j _ x => g3.2.2.2.2.2 j x)) (zTp.one zEr_c (fun ts _ => rfl)) (by omega) (by omega)
      · right
        refine ⟨M2, N2, d1 m (i + 1) (by omega), by rw [d2, zbn_s, if_pos rfl], d3.from g1⟩
    · left
      refine ⟨M, zNb N b b, b, s, ?_, ?_, ⟨c3, h.2.1.eq rfl rfl (zNb_16 (by decide) (by decide)) zNb_1, h.2.2⟩, Nat.le_refl _, by omega, zLg.text (fun _ _ => rfl) zNb_f zNb_1, zNb_16 (by decide) (by decide), zTp.nil⟩
      · rw [b_X4_sum_104, show (43 : Int32) = nI 43 from rfl, c1, zbn_s, if_pos rfl]
      · rw [b_X11_readSum_9, show (43 : Int32) = nI 43 from rfl, c2, zbn_s, if_pos rfl]
theorem l_sums (h : zLp L M N b s) : zLo L 2 [] [false] M N b s (f_X4_sum M) (f_X11_readSum N) := by
  have hs4 := h.s4
  have hL := h.1.1.1
  obtain ⟨f, hf⟩ : ∃ f, 6000 = f + 1 := ⟨5999, rfl⟩
  rw [f_X4_sum, f_X11_readSum, hf, show (0 : Int32) = nI 0 from rfl]
  rcases l_part h with ⟨v, M1, N1, b1, d1, d2, d3, d4, d5, d6, d7, d8, d9, d10⟩ | ⟨M1, N1, d1, d2, d3⟩
  · rw [d1 f 0 (by omega), b_X4_sum_80, d2, zbn_s, d3, zbn_s, if_pos (by decide), d4, zbn_s]
    dsimp only
    rw [if_neg (show ¬ (1 : Int32) = nI 0 from n10)]
    have o := sums_loop (L := L) (L - b1) M1 N1 b1 (s + 1) f (f + 1) 0 (Nat.le_refl _) (by omega) (by omega) ⟨d5, d7, by have := h.2.2; omega⟩ (by omega)
    exact o.from d8 (by omega) (by omega) d9 (d10.up (by omega))
  · right
    exact ⟨M1, N1, d1 f 0 (by omega), by rw [d2, zbn_s]; exact if_pos rfl, d3⟩
end
