section
variable {L : Nat} {M M' N N' : zM} {b s n : Nat}
theorem k_num (h : zPr L M N b) {lo hi : Int32} (hlo : 0 ≤ lo.toInt) : (∃ M' N' b', f_X7_takeNumber M lo hi = some (zpn L M b, M') ∧ f_X11_number N lo hi = some (zpn L M b, N') ∧ (lo.toInt ≤ (zpn L M b).toInt ∧ (zpn L M b).toInt ≤ hi.toInt) ∧ zPr L M' N' b' ∧ b ≤ b' ∧ zMf M M' ∧ zNf N N' ∧ N' 1 = N 1) ∨ (f_X7_takeNumber M lo hi = some (-1, zu M 39 6 (nI b)) ∧ ∃ N', f_X11_number N lo hi = some (-1, N') ∧ zBf (N' 0 12) b ∧ zNf N N' ∧ N' 1 = N 1) := by
  have h0 := h
  obtain ⟨h1, h2, h3, h4, q, q1, q2, q3⟩ := h0
  obtain ⟨p1, p2⟩ := x_plain h
  have hr := r_number h1 q1 q2 (lo := lo) (hi := hi) hlo
  rw [q3] at hr
  have lm : (-1 : Int32).toInt = -1 := rfl
  have hde := zde_le (M := M) (p := b) (L := L) h.bL
  by_cases c : lo.toInt ≤ (zpn L M b).toInt ∧ (zpn L M b).toInt ≤ hi.toInt
  · left
    have hne : ¬ zpn L M b = -1 := fun z => by rw [z, lm] at c; omega
    obtain ⟨M', n1, n2, n3⟩ := h.nx
    rw [p2 hne] at n3
    rw [if_pos c] at hr
    have hsk := (zsk_le (M := M) (L := L) hde.2).1
    refine ⟨M', _, _, ?_, hr, c, h.next hde.2 n2 n3 zNb_10 (by unfold zNb; rw [zu_at, if_neg (by decide), zu_at, if_neg (by decide)]) (by unfold zNb; rw [zu_row (by decide), zu_row (by decide)]), by omega, n2.mf, zNb_f, zNb_1⟩
    rw [f_X7_takeNumber, p1, zbn_s, if_neg hne, if_neg (by rw [i_lt]; omega), if_pos (by rw [i_le]; omega), n1, zbn_s]
  · right
    rcases j_num h (lo := lo) (hi := hi) hlo with ⟨M', N', b', c1, c2, c3, -⟩ | z
    · exact absurd c3 c
    · exact z
def zLq (M N M' N' : zM) : Prop := (∀ q, ¬ (27 ≤ q ∧ q < 32) → q ≠ 39 → M' q = M q) ∧ (∀ q, q ≠ 0 → q ≠ 1 → N' q = N q) ∧ (∀ j, j ≠ 10 → j ≠ 12 → j ≠ 13 → j ≠ 16 → N' 0 j = N 0 j) ∧ ∀ j, j < 1181 → N' 1 j = N 1 j
theorem zLq.trans {M'' N'' : zM} (g : zLq M N M' N') (g' : zLq M' N' M'' N'') : zLq M N M'' N'' := ⟨fun q a c => (g'.1 q a c).trans (g.1 q a c), fun q a c => (g'.2.1 q a c).trans (g.2.1 q a c), fun j a c d e => (g'.2.2.1 j a c d e).trans (g.2.2.1 j a c d e), fun j a => (g'.2.2.2 j a).trans (g.2.2.2 j a)⟩
theorem zLq.text (hM : zMf M M') (hN : zNf N N') (h1 : N' 1 = N 1) : zLq M N M' N' := ⟨fun q _ c => hM q c, hN.1, fun j a c _ _ => hN.2 j a c, fun j _ => by rw [h1]⟩
theorem zLg.q (g : zLg s M N M' N') : zLq M N M' N' := ⟨fun q a c => g.1 q (by omega) (by omega) c, g.2.2.2.1, g.2.2.2.2.1, fun j a => g.2.2.2.2.2 j (by omega)⟩
theorem zLq.cell {j : Nat} {v : Int32} (hj : 1181 ≤ j) : zLq M N M (zu N 1 j v) := ⟨fun _ _ _ => rfl, fun q _ c => zu_row c, fun i _ _ _ _ => by rw [zu_row (by decide)], fun i a => by rw [zu_at, if_neg (by omega)]⟩
theorem zLn.mv {w w' : Nat → Int32} {m : Nat} (h : zLn M 27 w m) (h0 : 0 ≤ zFrom w m) (hF : zFrom w' m = zFrom w m) (c1 : w' (333 + 4 * m) = w (333 + 4 * m)) (c2 : w' (334 + 4 * m) = w (334 + 4 * m)) (c3 : w' (335 + 4 * m) = w (335 + 4 * m)) (c4 : w' (336 + 4 * m) = w (336 + 4 * m)) (a1 : M' 28 m = M 28 m) (a2 : M' 29 m = M 29 m) (a3 : M' 30 m = M 30 m) (hs : ∀ i : Nat, (i : Int) < (w (336 + 4 * m)).toInt → M' 31 i = M 31 i ∧ w' (381 + 2 * i) = w (381 + 2 * i) ∧ w' (382 + 2 * i) = w (382 + 2 * i)) : zLn M' 27 w' m := by
  obtain ⟨b0, b1, b2, b3, b4, b5, b6, b7, b8, b9⟩ := h
  unfold zLn
  rw [hF, c1, c2, c3, c4]
  refine ⟨b0, a1.trans b1, a2.trans b2, b3, a3.trans b4, b5, b6, b7, fun i h1 h2 => ?_, fun hlt => ?_⟩
  · obtain ⟨x1, x2, x3⟩ := hs i h2
    have x1' : M' (27 + 4) i = M (27 + 4) i := x1
    rw [x1', x2, x3]; exact b8 i h1 h2
  · rw [zTyR_eq (w := w) (w' := w')]
    · exact b9 hlt
    · intro j h1 h2; exact (hs j (by omega)).2.1
def zLrr (L : Nat) (M N : zM) (b s n : Nat) : Prop := zPr L M N b ∧ zSp M N s ∧ s ≤ b ∧ n ≤ 12 ∧ M 27 0 = nI n ∧ zFrom (zdf N) n = s ∧ ∀ m, m < n → 0 ≤ zFrom (zdf N) m ∧ zLn M 27 (zdf N) m ∧ (zdf N (336 + 4 * m)).toInt ≤ s
theorem zLrr.move {b' : Nat} (h : zLrr L M N b s n) (p : zPr L M' N' b') (hb : b ≤ b') (hM : zMf M M') (hN : zNf N N') (h1 : N' 1 = N 1) : zLrr L M' N' b' s n := by
  have ed : zdf N' = zdf N := by funext j; unfold zdf; rw [h1]
  obtain ⟨a1, a2, a3, a4, a5, a6, a7⟩ := h
  refine ⟨p, a2.move hM hN h1, by omega, a4, by rw [hM 27 (by decide)]; exact a5, by rw [ed]; exact a6, fun m hm => ?_⟩
  rw [ed]
  obtain ⟨x1, x2, x3⟩ := a7 m hm
  exact ⟨x1, x2.mv x1 rfl rfl rfl rfl rfl (by rw [hM 28 (by decide)]) (by rw [hM 29 (by decide)]) (by rw [hM 30 (by decide)]) (fun i _ => ⟨by rw [hM 31 (by decide)], rfl, rfl⟩), x3⟩
theorem l_fin {M0 N0 M N : zM} {b0 b s0 s n k a : Nat} (h0 : zLrr L M0 N0 b0 s0 n) (hn : n < 12) (hp : zLp L M N b s) (hss : s0 ≤ s) (hk : k < 3) (ha : a ≤ 9) (g : zLq M0 N0 M N) (gl : M 28 = M0 28 ∧ M 29 = M0 29 ∧ M 30 = M0 30 ∧ M 27 0 = M0 27 0 ∧ ∀ i, i < s0 → M 31 i = M0 31 i) (gs : ∀ j, j < 1230 + 2 * s0 → ¬ (1182 + 4 * n ≤ j ∧ j < 1186 + 4 * n) → N 1 j = N0 1 j) (v1 : N 1 (1182 + 4 * n) = nI k) (v2 : N 1 (1182 + 4 * n + 1) = nI a) (v3 : N 1 (1182 + 4 * n + 2) = nI s0) (ty : s0 < s → zTp N s0 s 17 [] [true]) :
    ∃ M', b_X4_line_91 M (nI (14 + k)) (nI a) = some (1, M') ∧ b_X11_readLawLine_142 N (nI (1182 + 4 * n)) = some (1, zu N 1 (1182 + 4 * n + 3) (nI s)) ∧ zLrr L M' (zu N 1 (1182 + 4 * n + 3) (nI s)) b s (n + 1) ∧ zLq M0 N0 M' (zu N 1 (1182 + 4 * n + 3) (nI s)) := by
  have hs4 := hp.s4
  obtain ⟨p, sp, hs⟩ := hp
  obtain ⟨r1, r2, r3, r4, r5, r6, r7⟩ := h0
  obtain ⟨l28, l29, l30, l27, l31⟩ := gl
  have h27 : M 27 0 = nI n := by rw [l27]; exact r5
  obtain ⟨M', hM'⟩ : ∃ Z, Z = zu (zu (zu (zu M 28 n (nI (14 + k))) 29 n (nI a)) 30 n (nI s)) 27 0 (nI (n + 1)) := ⟨_, rfl⟩
  have q1 : b_X4_line_91 M (nI (14 + k)) (nI a) = some (1, M') := by
    have z1 : ∀ (Z : zM) (v : Int32), f_X10_put Z (27 + 1) (nI n) v = some (zu Z 28 n v) := fun Z v => x_put (n := 12) (by decide +kernel) (by omega) hn
    have z2 : ∀ (Z : zM) (v : Int32), f_X10_put Z (27 + 2) (nI n) v = some (zu Z 29 n v) := fun Z v => x_put (n := 12) (by decide +kernel) (by omega) hn
    have z3 : ∀ (Z : zM) (v : Int32), f_X10_put Z (27 + 3) (nI n) v = some (zu Z 30 n v) := fun Z v => x_put (n := 12) (by decide +kernel) (by omega) hn
    have y28 : ∀ (Z : zM) (v : Int32), zu Z 28 n v 27 = Z 27 := fun Z v => zu_row (by decide)
    have y29 : ∀ (Z : zM) (v : Int32), zu Z 29 n v 27 = Z 27 := fun Z v => zu_row (by decide)
    have y30 : ∀ (Z : zM) (v : Int32), zu Z 30 n v 27 = Z 27 := fun Z v => zu_row (by decide)
    rw [b_X4_line_91, f_X3_addLine, h27, z1, zbn_s, y28, h27, z2, zbn_s, y29, y28, h27, sp.1, z3, zbn_s, y30, y29, y28, h27, znm_e, nI_p1, zbn_s, hM']
  have q2 : b_X11_readLawLine_142 N (nI (1182 + 4 * n)) = some (1, zu N 1 (1182 + 4 * n + 3) (nI s)) := by
    rw [b_X11_readLawLine_142, show nI (1182 + 4 * n) + 3 = nI (1182 + 4 * n + 3) from nI_add _ 3, zck_t (nI_lt_i (by omega) (by omega)), nI_cl (by omega), sp.2.1, znm_e]
  have m' : ∀ q, ¬ (27 ≤ q ∧ q < 31) → M' q = M q := fun q hq => by rw [hM', zu_row (by omega), zu_row (by omega), zu_row (by omega), zu_row (by omega)]
  have m27 : ∀ j, j ≠ 0 → M' 27 j = M 27 j := fun j hj => by rw [hM', zu_at, if_neg (by omega), zu_row (by decide), zu_row (by decide), zu_row (by decide)]
  have m270 : M' 27 0 = nI (n + 1) := by rw [hM', zu_at, if_pos ⟨rfl, rfl⟩]
  have m28 : ∀ j, M' 28 j = if j = n then nI (14 + k) else M 28 j := fun j => by
    rw [hM', zu_row (by decide), zu_row (by decide), zu_row (by decide), zu_at]; simp only [true_and]
  have m29 : ∀ j, M' 29 j = if j = n then nI a else M 29 j := fun j => by
    rw [hM', zu_row (by decide), zu_row (by decide), zu_at, zu_row (by decide)]; simp only [true_and]
  have m30 : ∀ j, M' 30 j = if j = n then nI s else M 30 j := fun j => by
    rw [hM', zu_row (by decide), zu_at, zu_row (by decide), zu_row (by decide)]; simp only [true_and]
  have n1 : ∀ j, zu N 1 (1182 + 4 * n + 3) (nI s) 1 j = if j = 1182 + 4 * n + 3 then nI s else N 1 j := fun j => by rw [zu_at]; simp only [true_and]
  have d : ∀ j, zdf (zu N 1 (1182 + 4 * n + 3) (nI s)) j = if j = 336 + 4 * n then nI s else N 1 (849 + j) := fun j => by
    unfold zdf
    rw [n1]
    by_cases e : j = 336 + 4 * n
    · rw [if_pos e, if_pos (by omega)]
    · rw [if_neg e, if_neg (by omega)]
  have d336 : zdf (zu N 1 (1182 + 4 * n + 3) (nI s)) (336 + 4 * n) = nI s := by rw [d, if_pos rfl]
  have d333 : zdf (zu N 1 (1182 + 4 * n + 3) (nI s)) (333 + 4 * n) = nI k := by rw [d, if_neg (by omega), show 849 + (333 + 4 * n) = 1182 + 4 * n by omega, v1]
  have d334 : zdf (zu N 1 (1182 + 4 * n + 3) (nI s)) (334 + 4 * n) = nI a := by rw [d, if_neg (by omega), show 849 + (334 + 4 * n) = 1182 + 4 * n + 1 by omega, v2]
  have d335 : zdf (zu N 1 (1182 + 4 * n + 3) (nI s)) (335 + 4 * n) = nI s0 := by rw [d, if_neg (by omega), show 849 + (335 + 4 * n) = 1182 + 4 * n + 2 by omega, v3]
  have dold : ∀ j, j < 333 + 4 * n → zdf (zu N 1 (1182 + 4 * n + 3) (nI s)) j = zdf N0 j := fun j hj => by
    rw [d, if_neg (by omega), gs _ (by omega) (by omega)]; rfl
  have dstep : ∀ i, i < s0 → zdf (zu N 1 (1182 + 4 * n + 3) (nI s)) (381 + 2 * i) = zdf N0 (381 + 2 * i) ∧ zdf (zu N 1 (1182 + 4 * n + 3) (nI s)) (382 + 2 * i) = zdf N0 (382 + 2 * i) := fun i hi => by
    rw [d, if_neg (by omega), d, if_neg (by omega), gs _ (by omega) (by omega), gs _ (by omega) (by omega)]; exact ⟨rfl, rfl⟩
  have hFo : ∀ m, m ≤ n → zFrom (zdf (zu N 1 (1182 + 4 * n + 3) (nI s))) m = zFrom (zdf N0) m := fun m hm => by
    unfold zFrom
    by_cases e : m = 0
    · rw [if_pos e, if_pos e]
    · rw [if_neg e, if_neg e, dold _ (by omega)]
  have hsI : (nI s).toInt = s := i_nI (by omega)
  have hs0I : (nI s0).toInt = s0 := i_nI (by omega)
  refine ⟨M', q1, q2, ⟨p.oth (m' 1 (by omega)) (m' 2 (by omega)) (m' 39 (by omega)) (m' 40 (by omega)) (by rw [zu_row (by decide)]) (by rw [zu_row (by decide)]) (zu_row (by decide)), ⟨by rw [m27 5 (by decide)]; exact sp.1, by rw [zu_row (by decide)]; exact sp.2.1, fun i hi => ?_⟩, by omega, by omega, m270, ?_, fun m hm => ?_⟩, ?_⟩
  · rw [m' 31 (by omega), n1, if_neg (by omega), n1, if_neg (by omega)]; exact sp.2.2 i hi
  · unfold zFrom
    rw [if_neg (by omega), show 332 + 4 * (n + 1) = 336 + 4 * n by omega, d336, hsI]
  · by_cases e : m = n
    · subst e
      rw [hFo m (Nat.le_refl _), r6]
      refine ⟨by omega, ?_, by rw [d336, hsI]; omega⟩
      unfold zLn
      rw [hFo m (Nat.le_refl _), r6, d333, d334, d335, d336, hsI, hs0I, i_nI (n := k) (by omega), i_nI (n := a) (by omega)]
      refine ⟨by omega, ?_, ?_, by omega, ?_, rfl, by omega, by omega, fun i h1 h2 => ?_, fun hlt => ?_⟩
      · show M' 28 m = _
        rw [m28, if_pos rfl, show (14 : Int32) = nI 14 from rfl, nI_add]
      · show M' 29 m = _
        rw [m29, if_pos rfl]
      · show M' 30 m = _
        rw [m30, if_pos rfl]
      · show zSt (M' 31 i) _ _
        rw [m' 31 (by omega), d, if_neg (by omega), d, if_neg (by omega), show 849 + (381 + 2 * i) = 1230 + 2 * i by omega, show 849 + (382 + 2 * i) = 1230 + 2 * i + 1 by omega]
        exact sp.2.2 i (by omega)
      · have tt := (ty (by omega)).eq (N' := zu N 1 (1182 + 4 * m + 3) (nI s)) (fun j a1 a2 => by rw [n1, if_neg (by omega)])
        have := tt [] (by decide)
        rw [show ((s : Int) - (s0 : Int)).toNat = s - s0 by omega, show ((s0 : Int)).toNat = s0 by omega]
        exact this
    · have hm' : m < n := by omega
      obtain ⟨x1, x2, x3⟩ := r7 m hm'
      rw [hFo m (by omega)]
      refine ⟨x1, x2.mv x1 (hFo m (by omega)) (dold _ (by omega)) (dold _ (by omega)) (dold _ (by omega)) (dold _ (by omega)) ?_ ?_ ?_ (fun i hi => ?_), by rw [dold _ (by omega)]; omega⟩
      · rw [m28, if_neg e, l28]
      · rw [m29, if_neg e, l29]
      · rw [m30, if_neg e, l30]
      · have hi' : i < s0 := by omega
        exact ⟨by rw [m' 31 (by omega), l31 i hi'], (dstep i hi').1, (dstep i hi').2⟩
  · refine g.trans ⟨fun q a1 a2 => m' q (by omega), fun q a1 a2 => zu_row a2, fun j _ _ _ _ => by rw [zu_row (by decide)], fun j hj => by rw [n1, if_neg (by omega)]⟩
end
