section
variable {t : Nat} {M N : zM}
def zbyte (x : Int32) (s : Nat) : Int32 := (x >>> (nI (8 * s) &&& 31)) &&& 255
theorem zbyte_i (x : Int32) (s : Nat) : 0 ≤ (zbyte x s).toInt ∧ (zbyte x s).toInt ≤ 255 := by
  obtain ⟨a, h1, h2⟩ := tb_small (v := zbyte x s) (n := 8) (by omega) (fun j h1 h2 => by unfold zbyte; rw [tb_and, m8 j h2]; simp; omega)
  rw [h2, i_nI (by omega)]; omega
theorem and255_8 (y : Int32) : (y &&& 255).toInt8 = y.toInt8 := by
  apply Int8.toBitVec_inj.mp
  apply BitVec.eq_of_getLsbD_eq
  intro j hj
  have h255 : ∀ j, j < 8 → (255 : Int32).toBitVec.getLsbD j = true := by decide
  rw [Int32.toBitVec_toInt8, Int32.toBitVec_toInt8, BitVec.getLsbD_signExtend, BitVec.getLsbD_signExtend, if_pos (by omega), if_pos (by omega), Int32.toBitVec_and, BitVec.getLsbD_and, h255 j hj, Bool.and_true]
theorem add_loop {x : Int32} : ∀ (c n L : Nat) (M : zM), c ≤ 4 → M 1 1 = nI L → L + c ≤ 400 → c < n → ∃ M', b_X6_addNumber_3 x n M (nI (8 * c) - 8) = some M' ∧ M' 1 1 = nI (L + c) ∧ (∀ q, q ≠ 1 → q ≠ 2 → M' q = M q) ∧ (∀ j, M' 2 j = if L ≤ j ∧ j < L + c then zbyte x (c - 1 - (j - L)) else M 2 j) := by
  intro c
  induction c with
  | zero =>
    intro n L M hc hL hb hn
    obtain ⟨n, rfl⟩ : ∃ k, n = k + 1 := ⟨n - 1, by omega⟩
    exact ⟨M, by rw [b_X6_addNumber_3, if_pos (by decide)], hL, fun _ _ _ => rfl, fun j => by rw [if_neg (by omega)]⟩
  | succ c ih =>
    intro n L M hc hL hb hn
    obtain ⟨n, rfl⟩ : ∃ k, n = k + 1 := ⟨n - 1, by omega⟩
    have l8 : (8 : Int32).toInt = 8 := rfl
    have e1 : nI (8 * (c + 1)) - 8 = nI (8 * c) := by
      have a1 := i_nI (n := 8 * (c + 1)) (by omega)
      have a2 := i_nI (n := 8 * c) (by omega)
      rw [i_eq, i_sub (by omega) (by omega), a1, a2, l8]; omega
    have e2 : nI (8 * c) + (-8) = nI (8 * c) - 8 := (Int32.sub_eq_add_neg _ _).symm
    have hlt : ¬ nI (8 * c) < 0 := by rw [i_lt, i_nI (by omega), i_lit0]; omega
    have hp : f_X10_put M 2 (nI L) (zbyte x c) = some (zu M 2 L (zbyte x c)) := x_put (n := 400) (by decide +kernel) (by omega) (by omega)
    obtain ⟨M', a1, a2, a3, a4⟩ := ih n (L + 1) (zu (zu M 2 L (zbyte x c)) 1 1 (nI (L + 1))) (by omega) (by rw [zu_at, if_pos ⟨rfl, rfl⟩]) (by omega) (by omega)
    refine ⟨M', ?_, by rw [a2]; congr 1; omega, fun q h1 h2 => by rw [a3 q h1 h2, zu_row h1, zu_row h2], fun j => ?_⟩
    · rw [e1, b_X6_addNumber_3, if_neg hlt, hL]
      show zbn (f_X10_put M 2 (nI L) (zbyte x c)) _ = _
      rw [hp, zbn_s, zu_row (by decide), hL, znm_e, znm_e, nI_p1, e2]; exact a1
    · rw [a4 j, zu_row (by decide), zu_at]
      by_cases q : L ≤ j ∧ j < L + (c + 1)
      · rw [if_pos q]
        by_cases q2 : j = L
        · subst q2; rw [if_neg (by omega), if_pos ⟨rfl, rfl⟩]; congr 1; omega
        · rw [if_pos (by omega)]; congr 1; omega
      · rw [if_neg q, if_neg (by omega), if_neg (by omega)]
theorem x_add {x : Int32} {L : Nat} (hL : M 1 1 = nI L) (hb : L + 4 ≤ 400) : ∃ M', f_X6_addNumber M x = some M' ∧ M' 1 1 = nI (L + 4) ∧ (∀ q, q ≠ 1 → q ≠ 2 → M' q = M q) ∧ (∀ j, M' 2 j = if L ≤ j ∧ j < L + 4 then zbyte x (3 - (j - L)) else M 2 j) := by
  obtain ⟨M', a1, a2, a3, a4⟩ := add_loop (x := x) 4 6000 L M (by omega) hL hb (by omega)
  have e : nI (8 * 4) - 8 = 24 := by decide
  rw [e] at a1
  exact ⟨M', by rw [f_X6_addNumber]; exact a1, a2, a3, a4⟩
theorem feed_loop {L : Nat} (hL : L + 20 ≤ 400) : ∀ (d k n : Nat) (N : zM), k + d = 20 → d < n → N 0 9 = nI L → ∃ N', b_X11_feed_60 n N (nI k) = b_X11_feed_106 N' ∧ (∀ q, q ≠ 6 → N' q = N q) ∧ (∀ j, N' 6 j = if L + k ≤ j ∧ j < L + 20 then (N 7 ((j - L) / 4) >>> (nI (24 - 8 * ((j - L) % 4)) &&& 31)).toInt8.toInt32 else N 6 j) := by
  intro d
  induction d with
  | zero =>
    intro k n N hk hn h9
    obtain ⟨n, rfl⟩ : ∃ k, n = k + 1 := ⟨n - 1, by omega⟩
    have e : k = 20 := by omega
    subst e
    exact ⟨N, by rw [b_X11_feed_60, if_pos (by decide)], fun _ _ => rfl, fun j => by rw [if_neg (by omega)]⟩
  | succ d ih =>
    intro k n N hk hn h9
    obtain ⟨n, rfl⟩ : ∃ k, n = k + 1 := ⟨n - 1, by omega⟩
    have l20 : ¬ (20 : Int32) ≤ nI k := by rw [i_le, i_nI (by omega)]; show ¬ (20 : Int) ≤ _; omega
    have a0 := i_nI (n := k) (by omega)
    have l4 : (4 : Int32).toInt = 4 := rfl
    have e1 : nI k / 4 = nI (k / 4) := by
      rw [i_eq, i_div (by omega) (by decide), a0, l4, i_nI (by omega)]; omega
    have e2 : nI k - nI k / 4 * 4 = nI (k % 4) := by
      rw [i_eq, i_rem (by omega) (by decide), a0, l4, i_nI (by omega)]; omega
    have e3 : 24 - 8 * nI (k % 4) = nI (24 - 8 * (k % 4)) := by
      have a1 : 8 * nI (k % 4) = nI (8 * (k % 4)) := by rw [show (8 : Int32) = nI 8 from rfl, nI_mul]
      have a2 := i_nI (n := 8 * (k % 4)) (by omega)
      have a3 := i_nI (n := 24 - 8 * (k % 4)) (by omega)
      have l24 : (24 : Int32).toInt = 24 := rfl
      rw [a1, i_eq, i_sub (by omega) (by omega), a2, a3, l24]; omega
    have e4 : nI L + nI k = nI (L + k) := nI_add L k
    obtain ⟨N', a1, a2, a3⟩ := ih (k + 1) n (zu N 6 (L + k) ((N 7 (k / 4) >>> (nI (24 - 8 * (k % 4)) &&& 31)).toInt8.toInt32)) (by omega) (by omega) (by rw [zu_row (by decide)]; exact h9)
    refine ⟨N', ?_, fun q hq => by rw [a2 q hq, zu_row hq], fun j => ?_⟩
    · rw [b_X11_feed_60, if_neg l20, zck_t (by decide), e2, e3, e1, zck_t (nI_lt_i (by omega) (by omega)), zck_t (by decide), h9, e4, zck_t (nI_lt_i (by omega) (by omega)), nI_cl (by omega), nI_cl (by omega), znm_e, znm_e, nI_p1]
      have hv : ∀ z : Int32, vp_nar .byte (z.toInt8.toInt32) = z.toInt8.toInt32 := fun z => by simp [vp_nar, narrow]
      rw [hv]; exact a1
    · rw [a3 j, zu_row (by decide), zu_at]
      by_cases q : L + k ≤ j ∧ j < L + 20
      · rw [if_pos q]
        by_cases q2 : j = L + k
        · subst q2; rw [if_neg (by omega), if_pos ⟨rfl, rfl⟩, show L + k - L = k by omega]
        · rw [if_pos (by omega)]
      · rw [if_neg q, if_neg (by omega), if_neg (by omega)]
theorem s_feed (t : Nat) : zs_feed (zRel t) (zRel (t + 1)) := by
  intro M N h x1 x2 x3 x4 x5
  have ht := h.tape
  obtain ⟨L, L1, L2⟩ := nI_get (x := N 0 9) ht.2.1
  have hLb := ht.2.2.1
  have hM : M 1 1 = nI L := by rw [ht.1, L2]
  have y9 : zu N 0 0 0 0 9 = nI L := by rw [zu00_0 (by decide), L2]
  have l400 : (400 : Int32).toInt = 400 := rfl
  have e20 : nI L + 20 = nI (L + 20) := by rw [show (20 : Int32) = nI 20 from rfl, nI_add]
  by_cases q : L + 20 ≤ 400
  · have hle : nI (L + 20) ≤ 400 := by rw [i_le, i_nI (by omega), l400]; omega
    obtain ⟨M1, a1, b1, c1, d1⟩ := x_add (M := M) (x := x1) hM (by omega)
    obtain ⟨M2, a2, b2, c2, d2⟩ := x_add (M := M1) (x := x2) b1 (by omega)
    obtain ⟨M3, a3, b3, c3, d3⟩ := x_add (M := M2) (x := x3) b2 (by omega)
    obtain ⟨M4, a4, b4, c4, d4⟩ := x_add (M := M3) (x := x4) b3 (by omega)
    obtain ⟨M5, a5, b5, c5, d5⟩ := x_add (M := M4) (x := x5) b4 (by omega)
    have hx : f_X10_feed M x1 x2 x3 x4 x5 = some (nI (L + 20), M5) := by
      rw [f_X10_feed, hM, e20, if_pos hle, a1, zbn_s, a2, zbn_s, a3, zbn_s, a4, zbn_s, a5, zbn_s, b5]
    obtain ⟨Z, hZ⟩ : ∃ Z, Z = zu (zu (zu (zu (zu (zu N 0 0 0) 7 0 x1) 7 1 x2) 7 2 x3) 7 3 x4) 7 4 x5 := ⟨_, rfl⟩
    have zr : ∀ q, q ≠ 7 → Z q = zu N 0 0 0 q := fun q hq => by rw [hZ, zu_row hq, zu_row hq, zu_row hq, zu_row hq, zu_row hq]
    have z7 : ∀ i, i < 5 → Z 7 i = [x1, x2, x3, x4, x5].getD i 0 := by
      intro i hi
      rw [hZ, zu_at, zu_at, zu_at, zu_at, zu_at]
      rcases (show i = 0 ∨ i = 1 ∨ i = 2 ∨ i = 3 ∨ i = 4 by omega) with e | e | e | e | e <;> subst e <;> rfl
    obtain ⟨N', r1, r2, r3⟩ := feed_loop q 20 0 6000 Z (by omega) (by omega) (by rw [zr 0 (by decide)]; exact y9)
    have hr : f_X11_feed N x1 x2 x3 x4 x5 = some (nI (L + 20), zu N' 0 9 (nI (L + 20))) := by
      have e9 : N' 0 9 = nI L := by rw [r2 0 (by decide), zr 0 (by decide), y9]
      rw [f_X11_feed, znm_e, y9, e20, if_pos hle, zck_t (by decide), znm_e, zck_t (by decide), znm_e, zck_t (by decide), znm_e, zck_t (by decide), znm_e, zck_t (by decide), znm_e]
      show b_X11_feed_60 6000 (zu (zu (zu (zu (zu (zu N 0 0 0) 7 0 x1) 7 1 x2) 7 2 x3) 7 3 x4) 7 4 x5) 0 = _
      rw [← hZ]
      refine r1.trans ?_
      rw [b_X11_feed_106, e9, znm_e, e20, zu_at, if_pos ⟨rfl, rfl⟩]
    refine ⟨_, M5, _, hx, hr, ?_⟩
    have hQ : ∀ q, q ≠ 1 → q ≠ 2 → M5 q = M q := fun q h1 h2 => by rw [c5 q h1 h2, c4 q h1 h2, c3 q h1 h2, c2 q h1 h2, c1 q h1 h2]
    have nr : ∀ q, q ≠ 0 → q ≠ 6 → q ≠ 7 → zu N' 0 9 (nI (L + 20)) q = N q := fun q h0 h6 h7 => by rw [zu_row h0, r2 q h6, zr q h7, zu_row h0]
    have n0 : ∀ j, j ≠ 0 → j ≠ 9 → zu N' 0 9 (nI (L + 20)) 0 j = N 0 j := fun j h0 h9 => by rw [zu_at, if_neg (by omega), r2 0 (by decide), zr 0 (by decide), zu00_0 h0]
    refine ⟨?_, ?_, ?_, ?_, ?_, ?_, ?_, ?_⟩
    · rw [nr 1 (by decide) (by decide) (by decide)]; exact (h.w.more (by omega)).eq6 (fun q _ _ => hQ q (by omega) (by omega))
    · rw [nr 1 (by decide) (by decide) (by decide)]; exact h.ok
    · rw [nr 1 (by decide) (by decide) (by decide)]; exact h.law.eq (by rw [hQ 21 (by decide) (by decide)]) (hQ _ (by decide) (by decide)) (hQ _ (by decide) (by decide)) (hQ _ (by decide) (by decide)) (hQ _ (by decide) (by decide))
    · unfold zTape
      rw [b5, zu_at, if_pos ⟨rfl, rfl⟩, i_nI (by omega), zu_row (by decide)]
      refine ⟨by congr 1, by omega, by omega, fun j hj => ?_⟩
      rw [r3 j]
      by_cases qj : L + 0 ≤ j ∧ j < L + 20
      · rw [if_pos qj, z7 _ (by omega)]
        have hcase : ∀ (X : Int32) (i : Nat), (j - L) / 4 = i → M5 2 j = zbyte X (3 - (j - (L + 4 * i))) → [x1, x2, x3, x4, x5].getD i 0 = X → 0 ≤ (M5 2 j).toInt ∧ (M5 2 j).toInt ≤ 255 ∧ ([x1, x2, x3, x4, x5].getD ((j - L) / 4) 0 >>> (nI (24 - 8 * ((j - L) % 4)) &&& 31)).toInt8.toInt32 = (M5 2 j).toInt8.toInt32 := by
          intro X i hi hm hX
          rw [hm, hi, hX]
          refine ⟨(zbyte_i _ _).1, (zbyte_i _ _).2, ?_⟩
          unfold zbyte
          rw [and255_8, show 24 - 8 * ((j - L) % 4) = 8 * (3 - (j - (L + 4 * i))) by omega]
        rcases (show (j - L) / 4 = 0 ∨ (j - L) / 4 = 1 ∨ (j - L) / 4 = 2 ∨ (j - L) / 4 = 3 ∨ (j - L) / 4 = 4 by omega) with e | e | e | e | e
        · exact hcase x1 0 e (by rw [d5 j, if_neg (by omega), d4 j, if_neg (by omega), d3 j, if_neg (by omega), d2 j, if_neg (by omega), d1 j, if_pos (by omega)]; rfl) rfl
        · exact hcase x2 1 e (by rw [d5 j, if_neg (by omega), d4 j, if_neg (by omega), d3 j, if_neg (by omega), d2 j, if_pos (by omega)]) rfl
        · exact hcase x3 2 e (by rw [d5 j, if_neg (by omega), d4 j, if_neg (by omega), d3 j, if_pos (by omega)]) rfl
        · exact hcase x4 3 e (by rw [d5 j, if_neg (by omega), d4 j, if_pos (by omega)]) rfl
        · exact hcase x5 4 e (by rw [d5 j, if_pos (by omega)]) rfl
      · rw [if_neg qj, d5 j, if_neg (by omega), d4 j, if_neg (by omega), d3 j, if_neg (by omega), d2 j, if_neg (by omega), d1 j, if_neg (by omega), zr 6 (by decide), zu_row (by decide)]
        exact ht.2.2.2 j hj
    · rw [hQ 0 (by decide) (by decide), n0 _ (by decide) (by decide)]; exact h.fault
    · exact (h.img.more (by omega)).eq (by rw [hQ 0 (by decide) (by decide)]) (fun q _ _ => hQ q (by omega) (by omega)) (fun q _ _ => hQ q (by omega) (by omega)) (n0 _ (by decide) (by decide)) (nr _ (by decide) (by decide) (by decide))
    · exact (h.past.more (by omega)).eq (hQ _ (by decide) (by decide)) (fun q _ _ => hQ q (by omega) (by omega)) (n0 _ (by decide) (by decide)) (nr _ (by decide) (by decide) (by decide)) (by rw [nr 1 (by decide) (by decide) (by decide)])
    · rw [hQ 40 (by decide) (by decide)]; exact h.words
  · have hle : ¬ nI (L + 20) ≤ 400 := by rw [i_le, i_nI (by omega), l400]; omega
    refine ⟨-1, M, zu N 0 0 0, ?_, ?_, (h.thr 0).more⟩
    · rw [f_X10_feed, hM, e20, if_neg hle]
    · rw [f_X11_feed, znm_e, y9, e20, if_neg hle]
end
