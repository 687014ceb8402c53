section
variable {t : Nat} {M N : zM}
theorem sStep_n {w : Nat → Int32} {P a : Nat} (hP : w 5 = nI P) (h0 : 0 < P) (hP2 : P < 2147483648) (ha : a < 2147483648) : sStep w (nI a) = nI (a % P) := by
  have e1 := i_nI ha
  have e2 := i_nI hP2
  have e3 := i_nI (n := a % P) (by have := Nat.mod_le a P; omega)
  rw [i_eq, sStep, hP, i_rem (by omega) (by omega), e1, e2, e3]
  exact (Int.natCast_emod a P).symm
theorem high_loop (ok : zOk (N 1)) {P : Nat} (hP : N 1 5 = nI P) (h0 : 0 < P) (hP2 : P ≤ 24) : ∀ (d a n : Nat), a + d < 100000 → (a + d) % P = 0 → (∀ e, e < d → (a + e) % P ≠ 0) → d < n → b_X11_high_21 N n (nI a) = some (nI (a + d), N) := by
  intro d
  induction d with
  | zero =>
    intro a n hb h1 h2 hn
    obtain ⟨n, rfl⟩ : ∃ k, n = k + 1 := ⟨n - 1, by omega⟩
    have e : nI (a % P) = 0 := by rw [show a % P = 0 from h1]; rfl
    simp only [b_X11_high_21, r_stepOf ok, sStep_n hP h0 (by omega) (show a < 2147483648 by omega), zbn_s, e, if_true, Nat.add_zero]
  | succ d ih =>
    intro a n hb h1 h2 hn
    obtain ⟨n, rfl⟩ : ∃ k, n = k + 1 := ⟨n - 1, by omega⟩
    have h3 := h2 0 (by omega)
    have hm := Nat.mod_lt a h0
    have e : ¬ nI (a % P) = 0 := by rw [i_eq, i_nI (by omega), i_lit0]; simp at h3; omega
    have hh := ih (a + 1) n (by omega) (by rw [← h1]; congr 1; omega) (fun e he => by have := h2 (e + 1) (by omega); rw [show a + 1 + e = a + (e + 1) by omega]; exact this) (by omega)
    simp only [b_X11_high_21, r_stepOf ok, sStep_n hP h0 (by omega) (show a < 2147483648 by omega), zbn_s, e, if_false, znm_e, nI_p1, hh]
    rw [show a + 1 + d = a + (d + 1) by omega]
theorem s_high (t : Nat) : zs_high (zRel t) (zRel (t + 1)) := by
  intro M N h x1
  by_cases hp : 0 ≤ x1.toInt ∧ x1.toInt ≤ 9999
  · obtain ⟨P, e1, e2⟩ := nI_get (x := N 1 5) (by have := h.ok.c5; omega)
    obtain ⟨X, f1, rfl⟩ := nI_get (x := x1) hp.1
    have h5 := h.ok.c5
    have h0 : 0 < P := by omega
    have hm := Nat.mod_lt X h0
    have e2' : zu N 0 0 0 1 5 = nI P := by rw [zw0]; exact e2
    by_cases q : X % P = 0
    · refine zsT_ok (M1 := M) (b := nI X) (N1 := zu N 0 0 0) ?_ ?_ zu00_c (h.thr 0).more
      · rw [f_X10_high, g_in (by exact hp), zbt_i, x_stepOf h.w h.ok, sStep_n e2 h0 (by omega) (by omega), q, zbn_s, if_pos (show nI 0 = 0 from rfl)]
      · rw [f_X11_high, znm_e, r_noHour, if_pos hp, zbn_s, r_thr0, zbn_s, if_pos rfl, high_loop (ok0 h.ok) e2' h0 (by omega) 0 X 6000 (by omega) q (by omega) (by omega)]
        rfl
    · refine zsT_ok (M1 := M) (b := nI (X + (P - X % P))) (N1 := zu N 0 0 0) ?_ ?_ zu00_c (h.thr 0).more
      · have e : ¬ nI (X % P) = 0 := by rw [i_eq, i_nI (by omega), i_lit0]; omega
        rw [f_X10_high, g_in (by exact hp), zbt_i, x_stepOf h.w h.ok, sStep_n e2 h0 (by omega) (by omega), zbn_s, if_neg e, h.w.period, e2]
        congr 3
        have a1 := i_nI (n := X) (by omega)
        have a2 := i_nI (n := X % P) (by omega)
        have a3 := i_nI (n := P) (by omega)
        have a4 := i_nI (n := X + (P - X % P)) (by omega)
        have a5 : (nI X - nI (X % P)).toInt = X - (X % P : Nat) := by rw [i_sub (by omega) (by omega), a1, a2]
        rw [i_eq, i_add (by omega) (by omega), a5, a3, a4]
        omega
      · have hq := Nat.div_add_mod X P
        have key : ∀ e, X % P + e < P → (X + e) % P = X % P + e := by
          intro e he
          have : X + e = P * (X / P) + (X % P + e) := by omega
          rw [this, Nat.mul_add_mod, Nat.mod_eq_of_lt he]
        have hz : (X + (P - X % P)) % P = 0 := by
          have : X + (P - X % P) = P * (X / P) + P := by omega
          rw [this, Nat.mul_add_mod, Nat.mod_self]
        rw [f_X11_high, znm_e, r_noHour, if_pos hp, zbn_s, r_thr0, zbn_s, if_pos rfl, high_loop (ok0 h.ok) e2' h0 (by omega) (P - X % P) X 6000 (by omega) hz (fun e he => by rw [key e (by omega)]; omega) (by omega)]
  · refine zsT_ex (M1 := M) (k := 1) (b := 0) (N1 := zu N 0 0 1) ?_ ?_ rfl zu00_c (h.thr 1).more
    · rw [f_X10_high, g_out (by exact hp), zbt_x]
    · rw [f_X11_high, znm_e, r_noHour, if_neg hp, zbn_s, r_thr1, zbn_s, if_neg n10, zu00_00]
theorem risk_loop (h : zRel t M N) {p : Nat} (hp : p < 12) {x2 x3 : Int32} (h2 : 0 ≤ x2.toInt ∧ x2.toInt ≤ 9999) (h3 : 0 ≤ x3.toInt ∧ x3.toInt ≤ 9) : ∀ (d n m : Nat) (v x5 : Int32), x5.toInt + d = 6 → d ≤ 11 → d < n → d < m → ∃ v', b_X10_risk_29 M (nI p) x2 x3 n v x5 = some (M, .inr v') ∧ b_X11_risk_56 (zu N 0 0 0) (nI p) x2 x3 m v x5 = some (v', zu N 0 0 0) := by
  intro d
  have l5 : (5 : Int32).toInt = 5 := rfl
  induction d with
  | zero =>
    intro n m v x5 hi hd hn hm
    obtain ⟨n, rfl⟩ : ∃ k, n = k + 1 := ⟨n - 1, by omega⟩
    obtain ⟨m, rfl⟩ : ∃ k, m = k + 1 := ⟨m - 1, by omega⟩
    have e : (5 : Int32) < x5 := by rw [i_lt, l5]; omega
    exact ⟨v, by rw [b_X10_risk_29, if_pos e], by rw [b_X11_risk_56, if_pos e]⟩
  | succ d ih =>
    intro n m v x5 hi hd hn hm
    obtain ⟨n, rfl⟩ : ∃ k, n = k + 1 := ⟨n - 1, by omega⟩
    obtain ⟨m, rfl⟩ : ∃ k, m = k + 1 := ⟨m - 1, by omega⟩
    have e : ¬ (5 : Int32) < x5 := by rw [i_lt, l5]; omega
    have e1 : (x5 + 1).toInt = x5.toInt + 1 := by rw [i_add (by rw [i_lit1]; omega) (by rw [i_lit1]; omega), i_lit1]
    obtain ⟨v1, a1, b1⟩ := ih n m v (x5 + 1) (by omega) (by omega) (by omega) (by omega)
    obtain ⟨v2, a2, b2⟩ := ih n m (v + 1) (x5 + 1) (by omega) (by omega) (by omega) (by omega)
    have hw := sWater_i h.ok (x := x2) (wind := x5) h2.1 (by omega)
    have hg := h.ok.g hp
    have hc : 14 + nI p = nI (14 + p) := nI_add 14 p
    have hs : (sWater (N 1) x2 x5 - N 1 (14 + p)).toInt = (sWater (N 1) x2 x5).toInt - (N 1 (14 + p)).toInt := i_sub (by omega) (by omega)
    have hm0 := sMax0_i (sWater (N 1) x2 x5 - N 1 (14 + p))
    by_cases q : sWater (N 1) x2 x5 - N 1 (14 + p) ≤ x3
    · have q' : sMax0 (sWater (N 1) x2 x5 - N 1 (14 + p)) ≤ x3 := by
        rw [i_le] at q ⊢
        rw [hm0]; split <;> omega
      refine ⟨v1, ?_, ?_⟩
      · rw [b_X10_risk_29, if_neg e, x_waterWith h.w h.ok h2.1, zbn_s, x_depthBy h.w h.ok (by omega) hp, zbn_s, if_pos q', b_X10_risk_60, znm_e, a1]
      · rw [b_X11_risk_56, if_neg e, r_waterBy (ok0 h.ok), zbn_s, hc, zck_t (nI_lt_i (by omega) (by omega)), nI_cl (by omega), zw0, zu00_1, if_pos q, b_X11_risk_90, znm_e, znm_e, Int32.add_zero, b1]
    · have q' : ¬ sMax0 (sWater (N 1) x2 x5 - N 1 (14 + p)) ≤ x3 := by
        rw [i_le] at q ⊢
        rw [hm0]; split <;> omega
      refine ⟨v2, ?_, ?_⟩
      · rw [b_X10_risk_29, if_neg e, x_waterWith h.w h.ok h2.1, zbn_s, x_depthBy h.w h.ok (by omega) hp, zbn_s, if_neg q', znm_e, b_X10_risk_60, znm_e, a2]
      · rw [b_X11_risk_56, if_neg e, r_waterBy (ok0 h.ok), zbn_s, hc, zck_t (nI_lt_i (by omega) (by omega)), nI_cl (by omega), zw0, zu00_1, if_neg q, b_X11_risk_90, znm_e, znm_e, b2]
theorem g_pl {x : Int32} (h : 0 ≤ x.toInt ∧ x.toInt ≤ 11) : f_X10_needPlace M x = some (M, .inr 0) := by rw [g_place, if_pos h]
theorem g_pn {x : Int32} (h : ¬ (0 ≤ x.toInt ∧ x.toInt ≤ 11)) : f_X10_needPlace M x = some (M, .inl 0) := by rw [g_place, if_neg h]
theorem s_risk (t : Nat) : zs_risk (zRel t) (zRel (t + 1)) := by
  intro M N h x1 x2 x3
  by_cases hp : 0 ≤ x1.toInt ∧ x1.toInt ≤ 11
  · obtain ⟨p, e1, rfl⟩ := nI_get hp.1
    have hp12 : p < 12 := by omega
    by_cases h3 : 0 ≤ x3.toInt ∧ x3.toInt ≤ 9
    · by_cases h2 : 0 ≤ x2.toInt ∧ x2.toInt ≤ 9999
      · obtain ⟨v, a, b⟩ := risk_loop h hp12 h2 h3 11 6000 6000 0 (-5) (by decide) (by omega) (by omega) (by omega)
        refine zsT_ok (M1 := M) (b := v) (N1 := zu N 0 0 0) ?_ ?_ zu00_c (h.thr 0).more
        · rw [f_X10_risk, g_pl hp, zbt_i, g_in (by exact h2), zbt_i, g_in (by exact h3), zbt_i, a]
        · rw [f_X11_risk, znm_e, r_noPlace, if_pos hp, zbn_s, r_thr0, zbn_s, if_pos rfl, r_in, if_pos (by exact h3), zbn_s, if_neg (by decide), r_noHour, if_pos h2, zbn_s, if_pos rfl, b_X11_risk_40, r_thr0, zbn_s, if_pos rfl, b]
      · refine zsT_ex (M1 := M) (k := 1) (b := 0) (N1 := zu N 0 0 2) ?_ ?_ (Or.inr rfl) zu00_c (h.thr 2).more
        · rw [f_X10_risk, g_pl hp, zbt_i, g_out (by exact h2), zbt_x]
        · rw [f_X11_risk, znm_e, r_noPlace, if_pos hp, zbn_s, r_thr0, zbn_s, if_pos rfl, r_in, if_pos (by exact h3), zbn_s, if_neg (by decide), r_noHour, if_neg h2, zbn_s, if_neg (by decide), b_X11_risk_35, b_X11_risk_40, r_thr1, zbn_s, if_neg n10, zu00_00]
    · refine zsT_ex (M1 := M) (k := 1) (b := 0) (N1 := zu N 0 0 2) ?_ ?_ (Or.inr rfl) zu00_c (h.thr 2).more
      · rw [f_X10_risk, g_pl hp, zbt_i]
        by_cases h2 : 0 ≤ x2.toInt ∧ x2.toInt ≤ 9999
        · rw [g_in (by exact h2), zbt_i, g_out (by exact h3), zbt_x]
        · rw [g_out (by exact h2), zbt_x]
      · rw [f_X11_risk, znm_e, r_noPlace, if_pos hp, zbn_s, r_thr0, zbn_s, if_pos rfl, r_in, if_neg (by exact h3), zbn_s, if_pos rfl, b_X11_risk_35, b_X11_risk_40, r_thr1, zbn_s, if_neg n10, zu00_00]
  · refine zsT_ex (M1 := M) (k := 0) (b := 0) (N1 := zu N 0 0 1) ?_ ?_ (Or.inl rfl) zu00_c (h.thr 1).more
    · rw [f_X10_risk, g_pn hp, zbt_x]
    · rw [f_X11_risk, znm_e, r_noPlace, if_neg hp, zbn_s, r_thr1, zbn_s, if_neg n10, zu00_00]
theorem x_loggedRows {T : Int} {k : Nat} {w : Nat → Int32} (h : zWr T M k w) : f_X9_loggedRows M k = some (w 12) := by
  have h1 := h.logged
  have l : (60 : Int32).toInt = 60 := rfl
  rw [f_X9_loggedRows, znm_e]
  congr 1
  rw [i_eq]
  split
  · rename_i q; rw [i_lt, l] at q; omega
  · rename_i q; rw [i_lt, l] at q; omega
theorem s_count (t : Nat) : zs_count (zRel t) (zRel (t + 1)) := by
  intro M N h x1
  have hk : ∀ b, f_X10_count M x1 = some b → f_X11_count N x1 = some (b, zu N 0 0 0) → zsR (zRel (t + 1)) M (f_X10_count M x1) (f_X11_count N x1) := fun b a1 a2 => ⟨b, zu N 0 0 0, a1, a2, (h.thr 0).more⟩
  have hd : ∀ c : Nat, c < 12 → c ≠ 3 → c ≠ 9 → c ≠ 10 → f_X11_count N (nI c) = some (N 1 c, zu N 0 0 0) := by
    intro c hc h3 h9 h10
    have n3 : ∀ q : Nat, q < 100 → q ≠ c → ¬ nI c = nI q := fun q hq hn e => by rw [i_eq, i_nI (by omega), i_nI (by omega)] at e; omega
    rw [f_X11_count, znm_e, if_neg (show ¬ nI c = 3 from n3 3 (by omega) (by omega)), if_neg (show ¬ nI c = 9 from n3 9 (by omega) (by omega)), if_neg (show ¬ nI c = 10 from n3 10 (by omega) (by omega)), if_neg (show ¬ nI c = 12 from n3 12 (by omega) (by omega)), if_neg (show ¬ nI c = 13 from n3 13 (by omega) (by omega)), if_neg (show ¬ nI c = 14 from n3 14 (by omega) (by omega)), if_neg (show ¬ nI c = 15 from n3 15 (by omega) (by omega)), b_X11_count_138, r_in, if_pos (by rw [i_nI (by omega)]; exact ⟨by simp, by show (c : Int) ≤ 11; omega⟩), zbn_s, if_neg (by decide), zck_t (nI_lt_i (by omega) (by omega)), nI_cl (by omega), zw0]
  by_cases q : x1 = 0
  · subst q; exact hk _ rfl (by rw [h.w.monks]; exact hd 0 (by omega) (by omega) (by omega) (by omega))
  by_cases q1 : x1 = 1
  · subst q1; exact hk _ rfl (by rw [h.w.duties]; exact hd 1 (by omega) (by omega) (by omega) (by omega))
  by_cases q2 : x1 = 2
  · subst q2; exact hk _ rfl (by rw [h.w.texts]; exact hd 2 (by omega) (by omega) (by omega) (by omega))
  by_cases q3 : x1 = 3
  · subst q3
    refine hk _ rfl ?_
    rw [f_X11_count, znm_e, if_pos rfl, zck_t (by decide)]
    rcases z01 h.ok.c3 with g | g
    · rw [if_neg (by rw [show (3 : Int32).toNatClampNeg = 3 from rfl, zw0, g]; decide), h.law.1 g]
    · rw [if_pos (by rw [show (3 : Int32).toNatClampNeg = 3 from rfl, zw0, g]), (h.law.2 g).1, zck_t (by decide), show (332 : Int32).toNatClampNeg = 332 from rfl, zw0]
  by_cases q4 : x1 = 4
  · subst q4; exact hk _ rfl (by rw [h.w.hour]; exact hd 4 (by omega) (by omega) (by omega) (by omega))
  by_cases q5 : x1 = 5
  · subst q5; exact hk _ rfl (by rw [h.w.period]; exact hd 5 (by omega) (by omega) (by omega) (by omega))
  by_cases q6 : x1 = 6
  · subst q6; exact hk _ rfl (by rw [h.w.round]; exact hd 6 (by omega) (by omega) (by omega) (by omega))
  by_cases q7 : x1 = 7
  · subst q7; exact hk _ rfl (by rw [h.w.neap]; exact hd 7 (by omega) (by omega) (by omega) (by omega))
  by_cases q8 : x1 = 8
  · subst q8; exact hk _ rfl (by rw [h.w.spring]; exact hd 8 (by omega) (by omega) (by omega) (by omega))
  by_cases q9 : x1 = 9
  · subst q9; exact hk _ rfl (by rw [h.w.wind]; rw [f_X11_count, znm_e, if_neg (by decide), if_pos rfl, zck_t (by decide), show (9 : Int32).toNatClampNeg = 9 from rfl, zw0])
  by_cases q10 : x1 = 10
  · subst q10; exact hk _ rfl (by rw [h.w.edition]; rw [f_X11_count, znm_e, if_neg (by decide), if_neg (by decide), if_pos rfl, zck_t (by decide), show (10 : Int32).toNatClampNeg = 10 from rfl, zw0])
  by_cases q11 : x1 = 11
  · subst q11; exact hk _ rfl (by rw [h.w.storm]; exact hd 11 (by omega) (by omega) (by omega) (by omega))
  by_cases q12 : x1 = 12
  · subst q12; exact hk _ rfl (by rw [f_X11_count, znm_e, if_neg (by decide), if_neg (by decide), if_neg (by decide), if_pos rfl, r_keptOnes (ok0 h.ok) (v := M 3 13) (by rw [zu00_1]; exact h.w.kept), zbn_s])
  by_cases q13 : x1 = 13
  · subst q13; exact hk _ rfl (by rw [f_X11_count, znm_e, if_neg (by decide), if_neg (by decide), if_neg (by decide), if_neg (by decide), if_pos rfl, r_drownedOnes (ok0 h.ok) (v := M 3 12) (by rw [zu00_1]; exact h.w.drowned), zbn_s])
  by_cases q14 : x1 = 14
  · subst q14; refine hk (N 1 12) ?_ (by rw [f_X11_count, znm_e, if_neg (by decide), if_neg (by decide), if_neg (by decide), if_neg (by decide), if_neg (by decide), if_pos rfl, zck_t (by decide), show (12 : Int32).toNatClampNeg = 12 from rfl, zw0])
    show zbn (f_X9_loggedRows M 3) _ = _
    rw [x_loggedRows h.w, zbn_s]
  by_cases q15 : x1 = 15
  · subst q15; exact hk _ rfl (by rw [f_X11_count, znm_e, if_neg (by decide), if_neg (by decide), if_neg (by decide), if_neg (by decide), if_neg (by decide), if_neg (by decide), if_pos rfl, zu00_0 (by decide), h.past.1])
  · refine hk (-1) ?_ ?_
    · rw [f_X10_count, if_neg q, if_neg q1, if_neg q2, if_neg q3, if_neg q4, if_neg q5, if_neg q6, if_neg q7, if_neg q8, if_neg q9, if_neg q10, if_neg q11, if_neg q12, if_neg q13, if_neg q14, if_neg q15]
    · have hr : ¬ ((0 : Int32).toInt ≤ x1.toInt ∧ x1.toInt ≤ (11 : Int32).toInt) := by
        intro hh
        obtain ⟨c, f1, rfl⟩ := nI_get (x := x1) hh.1
        have n3 : ∀ z : Nat, z < 100 → ¬ nI c = nI z → z ≠ c := fun z hz hn e => hn (by rw [e])
        have := n3 0 (by omega) q; have := n3 1 (by omega) q1; have := n3 2 (by omega) q2; have := n3 3 (by omega) q3
        have := n3 4 (by omega) q4; have := n3 5 (by omega) q5; have := n3 6 (by omega) q6; have := n3 7 (by omega) q7
        have := n3 8 (by omega) q8; have := n3 9 (by omega) q9; have := n3 10 (by omega) q10; have := n3 11 (by omega) q11
        have h11 : (c : Int) ≤ 11 := by rw [f1]; exact hh.2
        omega
      rw [f_X11_count, znm_e, if_neg q3, if_neg q9, if_neg q10, if_neg q12, if_neg q13, if_neg q14, if_neg q15, b_X11_count_138, r_in, if_neg (by exact hr), zbn_s, if_pos rfl]
theorem s_end (t : Nat) : zs_end (zRel t) (zRel (t + 1)) := by
  intro M N h x1
  have hy : zu N 0 0 0 0 9 = N 0 9 := zu00_0 (by decide)
  have hno : zRel (t + 1) M (zu N 0 0 0) := (h.thr 0).more
  by_cases q : x1 < 0
  · exact ⟨0, M, zu N 0 0 0, by rw [f_X10_end, if_pos q], by rw [f_X11_end, znm_e, if_pos q], hno⟩
  by_cases q2 : x1 ≤ N 0 9
  · refine ⟨1, zu M 1 1 x1, zu (zu N 0 0 0) 0 9 x1, by rw [f_X10_end, if_neg q, h.tape.1, if_pos q2, znm_e], by rw [f_X11_end, znm_e, if_neg q, hy, if_pos q2, znm_e], ?_⟩
    rw [i_lt, i_lit0] at q
    rw [i_le] at q2
    have ht := h.tape
    have ht9 := ht.2.2.1
    have hz : ∀ a b, ¬ (a = 0 ∧ b = 9) → zu (zu N 0 0 0) 0 9 x1 a b = zu N 0 0 0 a b := fun a b hab => by rw [zu_at, if_neg hab]
    refine ⟨?_, ?_, ?_, ?_, ?_, ?_, ?_, ?_⟩
    · rw [zu_row (by decide)]
      exact hno.w.eq6 (fun q _ _ => zu_row (by omega))
    · rw [zu_row (by decide)]; exact hno.ok
    · rw [zu_row (by decide)]; exact hno.law.eq (by rw [zu_row (by decide)]) (zu_row (by decide)) (zu_row (by decide)) (zu_row (by decide)) (zu_row (by decide))
    · unfold zTape
      rw [zu_at, if_pos ⟨rfl, rfl⟩, zu_at, if_pos ⟨rfl, rfl⟩, zu_row (by decide), zu_row (by decide), zu_row (by decide)]
      exact ⟨rfl, by omega, by omega, ht.2.2.2⟩
    · rw [zu_row (by decide), hz _ _ (by decide)]; exact hno.fault
    · exact hno.img.eq (by rw [zu_row (by decide)]) (fun q _ _ => zu_row (by omega)) (fun q _ _ => zu_row (by omega)) (hz _ _ (by decide)) (zu_row (by decide))
    · exact hno.past.eq (zu_row (by decide)) (fun q _ _ => zu_row (by omega)) (hz _ _ (by decide)) (zu_row (by decide)) (hz _ _ (by decide))
    · rw [zu_row (by decide)]; exact hno.words
  · exact ⟨0, M, zu N 0 0 0, by rw [f_X10_end, if_neg q, h.tape.1, if_neg q2], by rw [f_X11_end, znm_e, if_neg q, hy, if_neg q2], hno⟩
end
