section
variable {t : Nat} {M N : zM}
theorem mis_loop (h : zRel t M N) {H : Nat} (hH : H ≤ 20) (hN : N 0 11 = nI (2 * H)) (hT : zTd M N 0 H) {e : Int32} (he : -3 ≤ e.toInt ∧ e.toInt ≤ 3) : ∀ (d i n j : Nat) (u : Int32), i + d = H → d < n → d < j → 0 ≤ u.toInt ∧ u.toInt ≤ i → ∃ v, b_X10_misfits_5 M e (nI (2 * H)) n u (nI (2 * i)) = some v ∧ b_X11_unlike_4 N e j u (nI (2 * i)) = some v ∧ 0 ≤ v.toInt := by
  intro d
  have y10 : (N 1 (10 : Int32).toNatClampNeg) = N 1 10 := rfl
  induction d with
  | zero =>
    intro i n j u hi hn hj hu
    obtain ⟨n, rfl⟩ : ∃ k, n = k + 1 := ⟨n - 1, by omega⟩
    obtain ⟨j, rfl⟩ : ∃ k, j = k + 1 := ⟨j - 1, by omega⟩
    have e : i = H := by omega
    subst e
    have hle : nI (2 * i) ≤ nI (2 * i) := by rw [i_le]; omega
    exact ⟨u, by rw [b_X10_misfits_5, if_pos hle], by rw [b_X11_unlike_4, hN, if_pos hle], hu.1⟩
  | succ d ih =>
    intro i n j u hi hn hj hu
    obtain ⟨n, rfl⟩ : ∃ k, n = k + 1 := ⟨n - 1, by omega⟩
    obtain ⟨j, rfl⟩ : ∃ k, j = k + 1 := ⟨j - 1, by omega⟩
    have hle : ¬ nI (2 * H) ≤ nI (2 * i) := by rw [nI_leN (by omega) (by omega)]; omega
    have e1 : nI (2 * i) + 1 = nI (2 * i + 1) := nI_p1 _
    have e2 : nI (2 * i) + 2 = nI (2 * (i + 1)) := by rw [show (2 : Int32) = nI 2 from rfl, nI_add]; congr 1
    obtain ⟨a, b, p1, p2, p3, r1, r2, r3⟩ := hT i (by omega) (by omega)
    have a0 : f_X10_at M 2 (nI (2 * i)) = some (nI a) := by rw [x_at (n := 400) (by decide +kernel) (by omega) (by omega), p1]
    have a1 : f_X10_at M 2 (nI (2 * i + 1)) = some (nI b) := by rw [x_at (n := 400) (by decide +kernel) (by omega) (by omega), r1]
    have ha : a < 12 := by omega
    obtain ⟨t1, t2⟩ := prt_i h.ok he ha
    obtain ⟨t3, -⟩ := prt_i h.ok h.ok.c10 ha
    have hE := h.ok.c10
    have her := h.ok.e ha
    have l6 : (6 : Int32).toInt = 6 := rfl
    have hb := i_nI (n := b) (by omega)
    have s1 : (nI b - 6).toInt = b - 6 := by rw [i_sub (by omega) (by omega), hb, l6]
    have s2 : (N 1 5 * nI a + N 1 10 + N 1 (26 + a) + (nI b - 6)).toInt = (N 1 5).toInt * a + (N 1 10).toInt + (N 1 (26 + a)).toInt + (b - 6) := by rw [i_add (by omega) (by omega), t3, s1]
    have s3 : (N 1 10 + nI b).toInt = (N 1 10).toInt + b := by rw [i_add (by omega) (by omega), hb]
    have s4 : (N 1 10 + nI b - 6).toInt = (N 1 10).toInt + b - 6 := by rw [i_sub (by omega) (by omega), s3, l6]
    have hiff : (N 1 5 * nI a + e + N 1 (26 + a) = N 1 5 * nI a + N 1 10 + N 1 (26 + a) + (nI b - 6)) ↔ N 1 10 + nI b - 6 = e := by
      rw [i_eq, i_eq, t1, s2, s4]; omega
    have e3 : (u + 1).toInt = u.toInt + 1 := by rw [i_add (by rw [i_lit1]; omega) (by rw [i_lit1]; omega), i_lit1]
    have hX : b_X10_misfits_5 M e (nI (2 * H)) (n + 1) u (nI (2 * i)) = if N 1 10 + nI b - 6 = e then b_X10_misfits_5 M e (nI (2 * H)) n u (nI (2 * (i + 1))) else b_X10_misfits_5 M e (nI (2 * H)) n (u + 1) (nI (2 * (i + 1))) := by
      rw [b_X10_misfits_5, if_neg hle, a0, zbn_s, e1, a1, zbn_s, znm_e, x_printedBy (k := 3) (by decide +kernel) h.w ha, zbn_s, x_printedBy (k := 3) (by decide +kernel) h.w ha, zbn_s, h.w.edition]
      simp only [b_X10_misfits_79, znm_e, e2]
      by_cases q : N 1 10 + nI b - 6 = e
      · rw [if_pos q, if_pos (hiff.mpr q)]
      · rw [if_neg q, if_neg (fun z => q (hiff.mp z))]
    have hR : b_X11_unlike_4 N e (j + 1) u (nI (2 * i)) = if N 1 10 + nI b - 6 = e then b_X11_unlike_4 N e j u (nI (2 * (i + 1))) else b_X11_unlike_4 N e j (u + 1) (nI (2 * (i + 1))) := by
      rw [b_X11_unlike_4, hN, if_neg hle, zck_t (by decide), e1, zck_t (nI_lt_i (by omega) (by omega)), nI_cl (by omega), y10, r2, b_X11_unlike_41, b_X11_unlike_41, znm_e, znm_e, znm_e, znm_e, e2, Int32.add_zero]
    rw [hX, hR]
    by_cases q : N 1 10 + nI b - 6 = e
    · rw [if_pos q, if_pos q]; exact ih (i + 1) n j u (by omega) (by omega) (by omega) (by omega)
    · rw [if_neg q, if_neg q]; exact ih (i + 1) n j (u + 1) (by omega) (by omega) (by omega) (by omega)
def mcv (M : zM) (L e : Int32) : Int32 := (f_X10_misfits M e L).getD 0
theorem s_mis (h : zRel t M N) {H : Nat} (hH : H ≤ 20) (hN : N 0 11 = nI (2 * H)) (hT : zTd M N 0 H) {e : Int32} (he : -3 ≤ e.toInt ∧ e.toInt ≤ 3) : f_X10_misfits M e (nI (2 * H)) = some (mcv M (nI (2 * H)) e) ∧ f_X11_unlike N e = some (mcv M (nI (2 * H)) e) ∧ 0 ≤ (mcv M (nI (2 * H)) e).toInt := by
  obtain ⟨v, a1, a2, a3⟩ := mis_loop h hH hN hT he H 0 6000 6000 0 (by omega) (by omega) (by omega) (by decide)
  have e1 : f_X10_misfits M e (nI (2 * H)) = some v := by rw [f_X10_misfits]; exact a1
  have e2 : mcv M (nI (2 * H)) e = v := by unfold mcv; rw [e1]; rfl
  rw [e2]
  exact ⟨e1, by rw [f_X11_unlike]; exact a2, a3⟩
theorem came_loop (h : zRel t M N) {H : Nat} (hH : H ≤ 20) (hN : N 0 11 = nI (2 * H)) (hT : zTd M N 0 H) {x1 : Int32} : ∀ (d n j : Nat) (u f e : Int32), e.toInt + 4 = d → d ≤ 7 → d < n → d < j → ∃ v, b_X10_came_14 M x1 (nI (2 * H)) n u f e = some (M, .inr v) ∧ b_X11_came_34 N x1 j u f e = some (v, N) := by
  intro d
  have l3 : (-3 : Int32).toInt = -3 := rfl
  induction d with
  | zero =>
    intro n j u f e he h7 hn hj
    obtain ⟨n, rfl⟩ : ∃ k, n = k + 1 := ⟨n - 1, by omega⟩
    obtain ⟨j, rfl⟩ : ∃ k, j = k + 1 := ⟨j - 1, by omega⟩
    have hlt : e < -3 := by rw [i_lt, l3]; omega
    refine ⟨if x1 = 0 then u else f, ?_, ?_⟩
    · rw [b_X10_came_14, if_pos hlt, b_X10_came_44]; split <;> rfl
    · rw [b_X11_came_34, if_pos hlt, b_X11_came_65]; split <;> rfl
  | succ d ih =>
    intro n j u f e he h7 hn hj
    obtain ⟨n, rfl⟩ : ∃ k, n = k + 1 := ⟨n - 1, by omega⟩
    obtain ⟨j, rfl⟩ : ∃ k, j = k + 1 := ⟨j - 1, by omega⟩
    have hlt : ¬ e < -3 := by rw [i_lt, l3]; omega
    obtain ⟨m1, m2, m3⟩ := s_mis h hH hN hT (e := e) (by omega)
    have e1 : (e + (-1)).toInt = e.toInt - 1 := by rw [i_m1, i_sub (by rw [i_lit1]; omega) (by rw [i_lit1]; omega), i_lit1]
    by_cases q : mcv M (nI (2 * H)) e = 0
    · obtain ⟨v, a1, a2⟩ := ih n j (u + 1) e (e + (-1)) (by omega) (by omega) (by omega) (by omega)
      refine ⟨v, ?_, ?_⟩
      · rw [b_X10_came_14, if_neg hlt, m1, zbn_s, if_pos q, znm_e, b_X10_came_38, znm_e]; exact a1
      · rw [b_X11_came_34, if_neg hlt, m2, zbn_s, if_pos (by rw [q]; decide), znm_e, b_X11_came_59, znm_e]; exact a2
    · obtain ⟨v, a1, a2⟩ := ih n j u f (e + (-1)) (by omega) (by omega) (by omega) (by omega)
      refine ⟨v, ?_, ?_⟩
      · rw [b_X10_came_14, if_neg hlt, m1, zbn_s, if_neg q, b_X10_came_38, znm_e]; exact a1
      · rw [b_X11_came_34, if_neg hlt, m2, zbn_s, if_neg (fun z => q (by rw [i_le, i_lit0] at z; rw [i_eq, i_lit0]; omega)), b_X11_came_59, znm_e]; exact a2
theorem thr_us {N : zM} (h0 : N 0 0 = 0) {c : Int32} : f_X11_throwsIf N 1 c = some (1, zu N 0 0 c) := rfl
theorem s_came (t : Nat) : zs_came (zRel t) (zRel (t + 1)) := by
  intro M N h x1 _
  have hu := h.uses
  rcases s_told h with ⟨H, hH, a1, a2, a3, a4⟩ | ⟨a1, a2⟩
  · obtain ⟨v, b1, b2⟩ := came_loop hu hH a4 a3 (x1 := x1) 7 6000 6000 0 (-9) 3 (by decide) (by omega) (by omega) (by omega)
    refine zsT_ok (M1 := zu M 1 1 0) (b := v) (N1 := zUs N) ?_ ?_ zUs_00 hu.more
    · rw [f_X10_came, a1, zbt_i]; exact b1
    · rw [f_X11_came, r_uses, zbn_s, a2, zbn_s, if_neg n10, b_X11_came_17, r_thr0, zbn_s, if_pos rfl]; exact b2
  · refine zsT_ex (M1 := zu M 1 1 0) (k := 1) (b := 0) (N1 := zu (zUs N) 0 0 1) ?_ ?_ rfl zu00_c (hu.thr 1).more
    · rw [f_X10_came, a1, zbt_x]
    · rw [f_X11_came, r_uses, zbn_s, a2, zbn_s, if_pos rfl, b_X11_came_17, r_thr1, zbn_s, if_neg n10]
theorem amends_loop (h : zRel t M N) {H : Nat} (hH : H ≤ 20) (hN : N 0 11 = nI (2 * H)) (hT : zTd M N 0 H) {x1 : Int32} : ∀ (d n j : Nat) (b e : Int32), e.toInt + d = 4 → d ≤ 6 → d < n → d < j → -3 ≤ b.toInt ∧ b.toInt ≤ 3 → ∃ v, b_X10_amends_21 M x1 (nI (2 * H)) n b (mcv M (nI (2 * H)) b) e = some (M, .inr v) ∧ b_X11_amends_33 N x1 j b e = some (v, N) := by
  intro d
  have l3 : (3 : Int32).toInt = 3 := rfl
  induction d with
  | zero =>
    intro n j b e he h7 hn hj hb
    obtain ⟨n, rfl⟩ : ∃ k, n = k + 1 := ⟨n - 1, by omega⟩
    obtain ⟨j, rfl⟩ : ∃ k, j = k + 1 := ⟨j - 1, by omega⟩
    have hlt : (3 : Int32) < e := by rw [i_lt, l3]; omega
    obtain ⟨m1, m2, m3⟩ := s_mis h hH hN hT (e := b) (by omega)
    refine ⟨if x1 = 0 then mcv M (nI (2 * H)) b else b, ?_, ?_⟩
    · rw [b_X10_amends_21, if_pos hlt, b_X10_amends_56]; split <;> rfl
    · rw [b_X11_amends_33, if_pos hlt, b_X11_amends_63, m2, zbn_s]; split <;> rfl
  | succ d ih =>
    intro n j b e he h7 hn hj hb
    obtain ⟨n, rfl⟩ : ∃ k, n = k + 1 := ⟨n - 1, by omega⟩
    obtain ⟨j, rfl⟩ : ∃ k, j = k + 1 := ⟨j - 1, by omega⟩
    have hlt : ¬ (3 : Int32) < e := by rw [i_lt, l3]; omega
    obtain ⟨m1, m2, m3⟩ := s_mis h hH hN hT (e := e) (by omega)
    obtain ⟨k1, k2, k3⟩ := s_mis h hH hN hT (e := b) hb
    have e1 : (e + 1).toInt = e.toInt + 1 := by rw [i_add (by rw [i_lit1]; omega) (by rw [i_lit1]; omega), i_lit1]
    by_cases q : mcv M (nI (2 * H)) b ≤ mcv M (nI (2 * H)) e
    · obtain ⟨v, a1, a2⟩ := ih n j b (e + 1) (by omega) (by omega) (by omega) (by omega) hb
      refine ⟨v, ?_, ?_⟩
      · rw [b_X10_amends_21, if_neg hlt, m1, zbn_s, if_pos q, b_X10_amends_50, znm_e]; exact a1
      · rw [b_X11_amends_33, if_neg hlt, m2, zbn_s, k2, zbn_s, if_pos q, b_X11_amends_56, znm_e]; exact a2
    · obtain ⟨v, a1, a2⟩ := ih n j e (e + 1) (by omega) (by omega) (by omega) (by omega) (by omega)
      refine ⟨v, ?_, ?_⟩
      · rw [b_X10_amends_21, if_neg hlt, m1, zbn_s, if_neg q, b_X10_amends_50, znm_e]; exact a1
      · rw [b_X11_amends_33, if_neg hlt, m2, zbn_s, k2, zbn_s, if_neg q, b_X11_amends_56, znm_e]; exact a2
theorem s_amends (t : Nat) : zs_amends (zRel t) (zRel (t + 1)) := by
  intro M N h x1 _
  have hu := h.uses
  rcases s_told h with ⟨H, hH, a1, a2, a3, a4⟩ | ⟨a1, a2⟩
  · obtain ⟨m1, m2, m3⟩ := s_mis hu hH a4 a3 (e := -3) (by decide)
    obtain ⟨v, b1, b2⟩ := amends_loop hu hH a4 a3 (x1 := x1) 6 6000 6000 (-3) (-3 + 1) (by decide) (by omega) (by omega) (by omega) (by decide)
    refine zsT_ok (M1 := zu M 1 1 0) (b := v) (N1 := zUs N) ?_ ?_ zUs_00 hu.more
    · rw [f_X10_amends, a1, zbt_i, m1, zbn_s, znm_e]; exact b1
    · rw [f_X11_amends, r_uses, zbn_s, a2, zbn_s, if_neg n10, b_X11_amends_17, r_thr0, zbn_s, if_pos rfl, znm_e]; exact b2
  · refine zsT_ex (M1 := zu M 1 1 0) (k := 1) (b := 0) (N1 := zu (zUs N) 0 0 1) ?_ ?_ rfl zu00_c (hu.thr 1).more
    · rw [f_X10_amends, a1, zbt_x]
    · rw [f_X11_amends, r_uses, zbn_s, a2, zbn_s, if_pos rfl, b_X11_amends_17, r_thr1, zbn_s, if_neg n10]
theorem wit_bits {H : Nat} (hH : H ≤ 20) (hN : N 0 11 = nI (2 * H)) (hT : zTd M N 0 H) : ∀ (d i n j : Nat) (u : Int32), i + d = H → d < n → d < j → ∃ v, b_X10_witness_9 M (nI (2 * H)) n u (nI (2 * i)) = b_X10_witness_36 M v ∧ b_X11_witness_30 N j u (nI (2 * i)) = b_X11_witness_55 N v := by
  intro d
  induction d with
  | zero =>
    intro i n j u hi hn hj
    obtain ⟨n, rfl⟩ : ∃ k, n = k + 1 := ⟨n - 1, by omega⟩
    obtain ⟨j, rfl⟩ : ∃ k, j = k + 1 := ⟨j - 1, by omega⟩
    have e : i = H := by omega
    subst e
    have hle : nI (2 * i) ≤ nI (2 * i) := by rw [i_le]; omega
    exact ⟨u, by rw [b_X10_witness_9, if_pos hle], by rw [b_X11_witness_30, hN, if_pos hle]⟩
  | succ d ih =>
    intro i n j u hi hn hj
    obtain ⟨n, rfl⟩ : ∃ k, n = k + 1 := ⟨n - 1, by omega⟩
    obtain ⟨j, rfl⟩ : ∃ k, j = k + 1 := ⟨j - 1, by omega⟩
    have hle : ¬ nI (2 * H) ≤ nI (2 * i) := by rw [nI_leN (by omega) (by omega)]; omega
    have e2 : nI (2 * i) + 2 = nI (2 * (i + 1)) := by rw [show (2 : Int32) = nI 2 from rfl, nI_add]; congr 1
    obtain ⟨a, b, p1, p2, p3, r1, r2, r3⟩ := hT i (by omega) (by omega)
    have a0 : f_X10_at M 2 (nI (2 * i)) = some (nI a) := by rw [x_at (n := 400) (by decide +kernel) (by omega) (by omega), p1]
    obtain ⟨v, c1, c2⟩ := ih (i + 1) n j (u ||| ((1 : Int32) <<< (nI a &&& 31))) (by omega) (by omega) (by omega)
    refine ⟨v, ?_, ?_⟩
    · rw [b_X10_witness_9, if_neg hle, a0, zbn_s, znm_e, znm_e, e2]; exact c1
    · rw [b_X11_witness_30, hN, if_neg hle, zck_t (nI_lt_i (by omega) (by omega)), nI_cl (by omega), p2, znm_e, znm_e, e2]; exact c2
theorem wit_loop (h : zRel t M N) {v : Int32} : ∀ (d i n j : Nat) (b g : Int32), i + d = 12 → d < n → d < j → -1 ≤ g.toInt → ∃ r, b_X10_witness_44 M v n b g (nI i) = some (M, .inr r) ∧ b_X11_witness_62 N v j b g (nI i) = some (r, N) := by
  intro d
  have lm : (-1 : Int32).toInt = -1 := rfl
  induction d with
  | zero =>
    intro i n j b g hi hn hj hg
    obtain ⟨n, rfl⟩ : ∃ k, n = k + 1 := ⟨n - 1, by omega⟩
    obtain ⟨j, rfl⟩ : ∃ k, j = k + 1 := ⟨j - 1, by omega⟩
    have e : (12 : Int32) ≤ nI i := by rw [nI_12 (by omega)]; omega
    exact ⟨b, by rw [b_X10_witness_44, if_pos e], by rw [b_X11_witness_62, if_pos e]⟩
  | succ d ih =>
    intro i n j b g hi hn hj hg
    obtain ⟨n, rfl⟩ : ∃ k, n = k + 1 := ⟨n - 1, by omega⟩
    obtain ⟨j, rfl⟩ : ∃ k, j = k + 1 := ⟨j - 1, by omega⟩
    have h12 : ¬ (12 : Int32) ≤ nI i := by rw [nI_12 (by omega)]; omega
    have hi12 : i < 12 := by omega
    have he := h.ok.e hi12
    have a0 : f_X10_at M (3 + 2) (nI i) = some (N 1 (26 + i)) := by rw [x_at (n := 12) (by decide +kernel) (by omega) hi12]; exact congrArg some (h.w.er hi12)
    have e1 : 26 + nI i = nI (26 + i) := nI_add 26 i
    have ab := sAbs_i (x := N 1 (26 + i)) (by omega)
    have hab : 0 ≤ (sAbs (N 1 (26 + i))).toInt := by rw [ab]; split <;> omega
    have c91 : ∀ b' g', b_X10_witness_91 (fun x3 x4 x5 => b_X10_witness_44 M v n x3 x4 x5) M v b' g' (nI i) = b_X10_witness_44 M v n b' g' (nI (i + 1)) := fun b' g' => by rw [b_X10_witness_91, znm_e, nI_p1]
    have r95 : ∀ t0 : Int32, b_X11_witness_95 (fun x2 x3 x4 => b_X11_witness_62 N v j x2 x3 x4) N v b g (nI i) t0 = if t0 ≤ g then b_X11_witness_62 N v j b g (nI (i + 1)) else b_X11_witness_62 N v j (nI i) t0 (nI (i + 1)) := by
      intro t0
      rw [b_X11_witness_95, b_X11_witness_109, b_X11_witness_109, znm_e, znm_e, znm_e, znm_e, nI_p1]
      by_cases z : t0 ≤ g
      · rw [if_pos z, if_pos z, if_neg (by rw [i_lt]; rw [i_le] at z; omega)]
      · rw [if_neg z, if_neg z, if_pos (by rw [i_lt]; rw [i_le] at z; omega)]
    have hX : b_X10_witness_44 M v (n + 1) b g (nI i) = if (if tb v i then (1 : Int32) else 0) = 0 then (if sAbs (N 1 (26 + i)) ≤ g then b_X10_witness_44 M v n b g (nI (i + 1)) else b_X10_witness_44 M v n (nI i) (sAbs (N 1 (26 + i))) (nI (i + 1))) else b_X10_witness_44 M v n b g (nI (i + 1)) := by
      rw [b_X10_witness_44, if_neg h12, a0, zbn_s, znm_e, x_has _ (by omega), zbn_s, c91, c91]; rfl
    have hR : b_X11_witness_62 N v (j + 1) b g (nI i) = if (if tb v i then (1 : Int32) else 0) = 0 then (if sAbs (N 1 (26 + i)) ≤ g then b_X11_witness_62 N v j b g (nI (i + 1)) else b_X11_witness_62 N v j (nI i) (sAbs (N 1 (26 + i))) (nI (i + 1))) else b_X11_witness_62 N v j b g (nI (i + 1)) := by
      rw [b_X11_witness_62, if_neg h12, r_has _ (by omega), zbn_s, e1, zck_t (nI_lt_i (by omega) (by omega)), nI_cl (by omega), znm_e]
      have : (if 0 ≤ N 1 (26 + i) then N 1 (26 + i) else 0 - N 1 (26 + i)) = sAbs (N 1 (26 + i)) := rfl
      rw [this, r95, r95, if_pos (show (-1 : Int32) ≤ g by rw [i_le, lm]; exact hg)]
    rw [hX, hR]
    cases tb v i
    · have e0 : (if false = true then (1 : Int32) else 0) = 0 := by decide
      rw [if_pos e0, if_pos e0]
      by_cases q : sAbs (N 1 (26 + i)) ≤ g
      · rw [if_pos q, if_pos q]; exact ih (i + 1) n j b g (by omega) (by omega) (by omega) hg
      · rw [if_neg q, if_neg q]; exact ih (i + 1) n j (nI i) _ (by omega) (by omega) (by omega) (by omega)
    · have e0 : ¬ (if true = true then (1 : Int32) else 0) = 0 := by decide
      rw [if_neg e0, if_neg e0]; exact ih (i + 1) n j b g (by omega) (by omega) (by omega) hg
theorem s_witness (t : Nat) : zs_witness (zRel t) (zRel (t + 1)) := by
  intro M N h
  have hu := h.uses
  rcases s_told h with ⟨H, hH, a1, a2, a3, a4⟩ | ⟨a1, a2⟩
  · obtain ⟨v, b1, b2⟩ := wit_bits hH a4 a3 H 0 6000 6000 0 (by omega) (by omega) (by omega)
    obtain ⟨r, c1, c2⟩ := wit_loop hu (v := v) 12 0 6000 6000 (-1) (-1) (by omega) (by omega) (by omega) (by decide)
    refine zsT_ok (M1 := zu M 1 1 0) (b := r) (N1 := zUs N) ?_ ?_ zUs_00 hu.more
    · rw [f_X10_witness, a1, zbt_i]; exact b1.trans (by rw [b_X10_witness_36]; exact c1)
    · rw [f_X11_witness, r_uses, zbn_s, a2, zbn_s, if_neg n10, b_X11_witness_17, r_thr0, zbn_s, if_pos rfl]; exact b2.trans (by rw [b_X11_witness_55]; exact c2)
  · refine zsT_ex (M1 := zu M 1 1 0) (k := 1) (b := 0) (N1 := zu (zUs N) 0 0 1) ?_ ?_ rfl zu00_c (hu.thr 1).more
    · rw [f_X10_witness, a1, zbt_x]
    · rw [f_X11_witness, r_uses, zbn_s, a2, zbn_s, if_pos rfl, b_X11_witness_17, r_thr1, zbn_s, if_neg n10]
end
