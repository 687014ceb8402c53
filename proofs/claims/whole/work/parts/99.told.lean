section
variable {t : Nat} {M N : zM}
theorem byte_e : ∀ a, a < 256 → ((nI a).toInt8.toInt32).toInt = if a < 128 then (a : Int) else (a : Int) - 256 := by decide +kernel
theorem zTape.byte (h : zTape M N) {i c : Nat} (hi : i < 400) (hc : c < 128) : (∃ a : Nat, M 2 i = nI a ∧ a ≤ c ∧ N 6 i = nI a) ∨ (¬ (0 ≤ (M 2 i).toInt ∧ (M 2 i).toInt ≤ c) ∧ ¬ (0 ≤ (N 6 i).toInt ∧ (N 6 i).toInt ≤ c)) := by
  obtain ⟨h1, h2, h3⟩ := h.2.2.2 i hi
  obtain ⟨a, a1, a2⟩ := nI_get h1
  have hb := byte_e a (by omega)
  rw [a2] at h3
  rw [← h3] at hb
  by_cases q : a ≤ c
  · refine Or.inl ⟨a, a2, q, ?_⟩
    rw [if_pos (by omega)] at hb
    rw [i_eq, hb, i_nI (by omega)]
  · refine Or.inr ⟨by omega, ?_⟩
    split at hb <;> omega
def zUs (N : zM) : zM := zu (zu (zu (zu N 0 0 0) 0 11 (N 0 9)) 0 9 0) 0 10 0
theorem r_uses : f_X11_uses N = some (zUs N) := by
  rw [f_X11_uses, znm_e, znm_e, znm_e, znm_e, zu00_0 (by decide)]; rfl
theorem zUs_row {q : Nat} (h : q ≠ 0) : zUs N q = N q := by unfold zUs; rw [zu_row h, zu_row h, zu_row h, zu_row h]
theorem zUs_00 : zUs N 0 0 = 0 := by unfold zUs; rw [zu_at, if_neg (by decide), zu_at, if_neg (by decide), zu_at, if_neg (by decide), zu_at, if_pos ⟨rfl, rfl⟩]
theorem zUs_11 : zUs N 0 11 = N 0 9 := by unfold zUs; rw [zu_at, if_neg (by decide), zu_at, if_neg (by decide), zu_at, if_pos ⟨rfl, rfl⟩]
theorem zUs_9 : zUs N 0 9 = 0 := by unfold zUs; rw [zu_at, if_neg (by decide), zu_at, if_pos ⟨rfl, rfl⟩]
theorem zUs_10 : zUs N 0 10 = 0 := by unfold zUs; rw [zu_at, if_pos ⟨rfl, rfl⟩]
theorem zUs_o {j : Nat} (h0 : j ≠ 0) (h9 : j ≠ 9) (h10 : j ≠ 10) (h11 : j ≠ 11) : zUs N 0 j = N 0 j := by unfold zUs; rw [zu_at, if_neg (by omega), zu_at, if_neg (by omega), zu_at, if_neg (by omega), zu_at, if_neg (by omega)]
theorem zRel.uses (h : zRel t M N) : zRel t (zu M 1 1 0) (zUs N) := by
  refine ⟨?_, ?_, ?_, ?_, ?_, ?_, ?_, ?_⟩
  · rw [zUs_row (by decide)]; exact h.w.eq6 (fun q _ _ => zu_row (by omega))
  · rw [zUs_row (by decide)]; exact h.ok
  · rw [zUs_row (by decide)]; exact h.law.eq (by rw [zu_row (by decide)]) (zu_row (by decide)) (zu_row (by decide)) (zu_row (by decide)) (zu_row (by decide))
  · unfold zTape
    rw [zUs_9, zu_at, if_pos ⟨rfl, rfl⟩, zu_row (by decide), zUs_row (by decide)]
    exact ⟨rfl, by decide, by decide, h.tape.2.2.2⟩
  · rw [zu_row (by decide), zUs_o (by decide) (by decide) (by decide) (by decide)]; exact h.fault
  · exact h.img.eq (by rw [zu_row (by decide)]) (fun q _ _ => zu_row (by omega)) (fun q _ _ => zu_row (by omega)) (zUs_o (by decide) (by decide) (by decide) (by decide)) (zUs_row (by decide))
  · exact h.past.eq (zu_row (by decide)) (fun q _ _ => zu_row (by omega)) (zUs_o (by decide) (by decide) (by decide) (by decide)) (zUs_row (by decide)) (by rw [zUs_row (by decide)])
  · rw [zu_row (by decide)]; exact h.words
def zTd (M N : zM) (i H : Nat) : Prop := ∀ r, i ≤ r → r < H → ∃ a b : Nat, M 2 (2 * r) = nI a ∧ N 6 (2 * r) = nI a ∧ a ≤ 11 ∧ M 2 (2 * r + 1) = nI b ∧ N 6 (2 * r + 1) = nI b ∧ b ≤ 12
theorem told_0 {N : zM} {n : Nat} {y : Int32} : b_X11_isTold_26 N (n + 1) 0 y = some 0 := by
  rw [b_X11_isTold_26, zck_t (by decide), if_pos rfl]; split <;> rfl
theorem told_loop (hT : zTape M N) {H : Nat} (hH : H ≤ 20) (hN : N 0 11 = nI (2 * H)) : ∀ (d i n j : Nat), i + d = H → d < n → d + 1 < j → (zTd M N i H ∧ b_X10_useTold_35 (nI (2 * H)) n M (nI (2 * i)) = some (M, .inr (nI (2 * H))) ∧ b_X11_isTold_26 N j 1 (nI (2 * i)) = some 1) ∨ (b_X10_useTold_35 (nI (2 * H)) n M (nI (2 * i)) = some (M, .inl 1) ∧ b_X11_isTold_26 N j 1 (nI (2 * i)) = some 0) := by
  intro d
  induction d with
  | zero =>
    intro i n j hi hn hj
    obtain ⟨n, rfl⟩ : ∃ k, n = k + 1 := ⟨n - 1, by omega⟩
    obtain ⟨j, rfl⟩ : ∃ k, j = k + 1 := ⟨j - 1, by omega⟩
    have e : i = H := by omega
    subst e
    have hle : nI (2 * i) ≤ nI (2 * i) := by rw [i_le]; omega
    exact Or.inl ⟨fun r h1 h2 => by omega, by rw [b_X10_useTold_35, if_pos hle], by rw [b_X11_isTold_26, hN, if_pos hle, zck_t (by decide)]⟩
  | succ d ih =>
    intro i n j hi hn hj
    obtain ⟨n, rfl⟩ : ∃ k, n = k + 1 := ⟨n - 1, by omega⟩
    obtain ⟨j, rfl⟩ : ∃ k, j = k + 2 := ⟨j - 2, by omega⟩
    have hle : ¬ nI (2 * H) ≤ nI (2 * i) := by rw [nI_leN (by omega) (by omega)]; omega
    have e1 : nI (2 * i) + 1 = nI (2 * i + 1) := nI_p1 _
    have e2 : nI (2 * i) + 2 = nI (2 * (i + 1)) := by rw [show (2 : Int32) = nI 2 from rfl, nI_add]; congr 1
    have a0 : f_X10_at M 2 (nI (2 * i)) = some (M 2 (2 * i)) := x_at (n := 400) (by decide +kernel) (by omega) (by omega)
    have a1 : f_X10_at M 2 (nI (2 * i + 1)) = some (M 2 (2 * i + 1)) := x_at (n := 400) (by decide +kernel) (by omega) (by omega)
    have hx0 : b_X10_useTold_35 (nI (2 * H)) (n + 1) M (nI (2 * i)) = zbt (f_X10_needWithin M (M 2 (2 * i)) 0 11) (fun M_3 _ => zbn (f_X10_at M_3 2 (nI (2 * i + 1))) (fun u_4 => zbt (f_X10_needWithin M_3 u_4 0 12) (fun M_6 _ => b_X10_useTold_35 (nI (2 * H)) n M_6 (nI (2 * (i + 1)))))) := by
      rw [b_X10_useTold_35, if_neg hle, a0, zbn_s, e1]
      simp only [znm_e, e2]
    have hr0 : b_X11_isTold_26 N (j + 2) 1 (nI (2 * i)) = zbn (f_X11_in N (N 6 (2 * i)) 0 11) (fun u_2 => if u_2 = 0 then b_X11_isTold_26 N (j + 1) 0 (nI (2 * (i + 1))) else (zbn (f_X11_in N (N 6 (2 * i + 1)) 0 12) (fun u_3 => if u_3 = 0 then b_X11_isTold_26 N (j + 1) 0 (nI (2 * (i + 1))) else b_X11_isTold_26 N (j + 1) 1 (nI (2 * (i + 1)))))) := by
      rw [b_X11_isTold_26, hN, if_neg hle, if_neg n10, zck_t (nI_lt_i (by omega) (by omega)), nI_cl (by omega), e1]
      simp only [b_X11_isTold_74, b_X11_isTold_75, znm_e, e2, nI_cl (show 2 * i + 1 < 2147483648 by omega), show ∀ x : Option Int32, zck (zin (nI (2 * i + 1)) 400) x = x from fun x => zck_t (nI_lt_i (by omega) (by omega))]
    rcases hT.byte (i := 2 * i) (c := 11) (by omega) (by omega) with ⟨a, p1, p2, p3⟩ | ⟨p1, p2⟩
    · have q1 : (0 : Int32).toInt ≤ (nI a).toInt ∧ (nI a).toInt ≤ (11 : Int32).toInt := by rw [i_nI (by omega)]; exact ⟨by rw [i_lit0]; omega, by show (a : Int) ≤ 11; omega⟩
      rcases hT.byte (i := 2 * i + 1) (c := 12) (by omega) (by omega) with ⟨b, r1, r2, r3⟩ | ⟨r1, r2⟩
      · have q2 : (0 : Int32).toInt ≤ (nI b).toInt ∧ (nI b).toInt ≤ (12 : Int32).toInt := by rw [i_nI (by omega)]; exact ⟨by rw [i_lit0]; omega, by show (b : Int) ≤ 12; omega⟩
        have hx1 : b_X10_useTold_35 (nI (2 * H)) (n + 1) M (nI (2 * i)) = b_X10_useTold_35 (nI (2 * H)) n M (nI (2 * (i + 1))) := by rw [hx0, p1, g_in q1, zbt_i, a1, zbn_s, r1, g_in q2, zbt_i]
        have hr1 : b_X11_isTold_26 N (j + 2) 1 (nI (2 * i)) = b_X11_isTold_26 N (j + 1) 1 (nI (2 * (i + 1))) := by rw [hr0, p3, r_in, if_pos q1, zbn_s, if_neg n10, r3, r_in, if_pos q2, zbn_s, if_neg n10]
        rw [hx1, hr1]
        rcases ih (i + 1) n (j + 1) (by omega) (by omega) (by omega) with ⟨z1, z2, z3⟩ | z
        · refine Or.inl ⟨fun r h1 h2 => ?_, z2, z3⟩
          by_cases e : r = i
          · subst e; exact ⟨a, b, p1, p3, p2, r1, r3, r2⟩
          · exact z1 r (by omega) h2
        · exact Or.inr z
      · refine Or.inr ⟨?_, ?_⟩
        · rw [hx0, p1, g_in q1, zbt_i, a1, zbn_s, g_out (by exact r1), zbt_x]
        · rw [hr0, p3, r_in, if_pos q1, zbn_s, if_neg n10, r_in, if_neg (by exact r2), zbn_s, if_pos rfl, told_0]
    · refine Or.inr ⟨?_, ?_⟩
      · rw [hx0, g_out (by exact p1), zbt_x]
      · rw [hr0, r_in, if_neg (by exact p2), zbn_s, if_pos rfl, told_0]
theorem s_told (h : zRel t M N) : (∃ H, H ≤ 20 ∧ f_X10_useTold M = some (zu M 1 1 0, .inr (nI (2 * H))) ∧ f_X11_isTold (zUs N) = some 1 ∧ zTd (zu M 1 1 0) (zUs N) 0 H ∧ zUs N 0 11 = nI (2 * H)) ∨ (f_X10_useTold M = some (zu M 1 1 0, .inl 1) ∧ f_X11_isTold (zUs N) = some 0) := by
  have hT := h.uses.tape
  have ht := h.tape
  obtain ⟨L, L1, L2⟩ := nI_get (x := N 0 9) ht.2.1
  have hL := ht.2.2.1
  have hM : M 1 1 = nI L := by rw [ht.1, L2]
  have hU : zUs N 0 11 = nI L := by rw [zUs_11, L2]
  have hrem : nI L - nI L / 2 * 2 = nI (L % 2) := by
    have a1 := i_nI (n := L) (by omega)
    have a2 := i_nI (n := L % 2) (by omega)
    rw [i_eq, i_rem (by omega) (by decide), a1, a2]
    exact (Int.natCast_emod _ _).symm
  have hX : f_X10_useTold M = zbt (f_X10_needWithin (zu M 1 1 0) (nI L) 0 40) (fun M_12 _ => zbt (f_X10_needWithin M_12 (nI (L % 2)) 0 0) (fun M_14 _ => b_X10_useTold_35 (nI L) 21 M_14 0)) := by
    rw [f_X10_useTold, znm_e, znm_e, hM]
    simp only [zck_t (show decide (¬ (2 : Int32) = 0) = true by decide), hrem]
  have hR : f_X11_isTold (zUs N) = (if nI (L % 2) = 0 then (if 40 < nI L then (b_X11_isTold_22 (zUs N)) else (b_X11_isTold_23 (zUs N) 1)) else (b_X11_isTold_22 (zUs N))) := by
    rw [f_X11_isTold, zck_t (by decide), hU, hrem]
  have h22 : b_X11_isTold_22 (zUs N) = some 0 := by rw [b_X11_isTold_22, b_X11_isTold_23]; exact told_0
  have l40 : (40 : Int32).toInt = 40 := rfl
  by_cases q : L ≤ 40
  · by_cases q2 : L % 2 = 0
    · obtain ⟨H, rfl⟩ : ∃ H, L = 2 * H := ⟨L / 2, by omega⟩
      have hX1 : f_X10_useTold M = b_X10_useTold_35 (nI (2 * H)) 21 (zu M 1 1 0) 0 := by
        rw [hX, g_in (by rw [i_nI (by omega), l40, i_lit0]; omega), zbt_i, q2, g_in (by decide), zbt_i]
      have hR1 : f_X11_isTold (zUs N) = b_X11_isTold_26 (zUs N) 6000 1 0 := by
        rw [hR, q2, if_pos (show nI 0 = 0 from rfl), if_neg (by rw [i_lt, i_nI (by omega), l40]; omega), b_X11_isTold_23]
      have := told_loop hT (show H ≤ 20 by omega) hU H 0 21 6000 (by omega) (by omega) (by omega)
      rw [hX1, hR1]
      rcases this with ⟨z1, z2, z3⟩ | ⟨z2, z3⟩
      · exact Or.inl ⟨H, by omega, z2, z3, z1, hU⟩
      · exact Or.inr ⟨z2, z3⟩
    · refine Or.inr ⟨?_, ?_⟩
      · rw [hX, g_in (by rw [i_nI (by omega), l40, i_lit0]; omega), zbt_i, g_out (by rw [i_nI (by omega), i_lit0]; omega), zbt_x]
      · rw [hR, if_neg (by rw [i_eq, i_nI (by omega), i_lit0]; omega), h22]
  · refine Or.inr ⟨?_, ?_⟩
    · rw [hX, g_out (by rw [i_nI (by omega), l40, i_lit0]; omega), zbt_x]
    · rw [hR, h22, if_pos (show (40 : Int32) < nI L by rw [i_lt, i_nI (by omega), l40]; omega)]; split <;> rfl
end
