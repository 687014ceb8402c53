section
variable {T : Int} {M N : zM} {k : Nat}
def zWy (a b : Int32) : Prop := (a = b ∧ 0 ≤ a.toInt ∧ a.toInt ≤ 60) ∨ (a = -1 ∧ b = 1000000)
theorem ways_loop (hw : zWr T M k (N 1)) (ok : zOk (N 1)) (hl : zLk M (N 1)) {dp : Int32} (hd : 0 ≤ dp.toInt ∧ dp.toInt ≤ 9) {P to : Nat} (hP : P ≤ 4) (hto : to < 12) {x : Nat} (hx : x < 1000000) : ∀ (d s n j : Nat) (c op : Int32), s + d = 60 → d + 1 < n → d + 1 < j → (∀ q, q < 32 → tb c q = true → q < 12) → tb c to = false → (∀ q, q < 32 → (tb op q = true ↔ q < 12 ∧ sDepth (N 1) q (nI (x + s)) ≤ dp)) → ∃ a b, b_X8_fewestHours_26 k M (nI to) (nI P) dp (nI x) n c op (nI (s + 1)) = some a ∧ b_X11_hoursOf_8 N (nI to) (nI P) dp (nI x) j c (nI s) = some b ∧ zWy a b := by
  have step : ∀ (s j : Nat) (c : Int32), s ≤ 60 → (∀ q, q < 32 → tb c q = true → q < 12) → tb c to = false → ∃ v, b_X11_hoursOf_8 N (nI to) (nI P) dp (nI x) (j + 1) c (nI s) = b_X11_hoursOf_8 N (nI to) (nI P) dp (nI x) j v (nI (s + 1)) ∧ (∀ q, q < 32 → (tb v q = true ↔ (q < 12 ∧ zRch (fun p => p < 32 ∧ tb c p = true) (fun r => r < 12 ∧ sDepth (N 1) r (nI (x + s)) ≤ dp) P q) ∧ sDepth (N 1) q (nI (x + (s + 1))) ≤ dp)) := by
    intro s j c hs hc ht
    obtain ⟨v, v1, v2⟩ := r_ends ok (x := nI (x + s)) (dp := dp) (c := c) hP hc
    refine ⟨v, ?_, fun q hq => by rw [v2 q hq, nI_p1, Nat.add_assoc]⟩
    rw [b_X11_hoursOf_8, if_neg (by rw [i_lt, i_nI (by omega)]; show ¬ (60 : Int) < _; omega), r_has _ (by omega), zbn_s, ht, if_pos (by decide), nI_add, v1, zbn_s, znm_e, nI_p1]
  intro d
  induction d with
  | zero =>
    intro s n j c op hs hn hj hc ht hop
    obtain ⟨n, rfl⟩ : ∃ k, n = k + 1 := ⟨n - 1, by omega⟩
    obtain ⟨j, rfl⟩ : ∃ k, j = k + 2 := ⟨j - 2, by omega⟩
    have e : s = 60 := by omega
    subst e
    obtain ⟨v, v1, v2⟩ := step 60 (j + 1) c (by omega) hc ht
    refine ⟨-1, 1000000, ?_, ?_, Or.inr ⟨rfl, rfl⟩⟩
    · rw [b_X8_fewestHours_26, if_pos (by decide)]
    · rw [v1, b_X11_hoursOf_8, if_pos (by decide), b_X11_hoursOf_49]
  | succ d ih =>
    intro s n j c op hs hn hj hc ht hop
    obtain ⟨n, rfl⟩ : ∃ k, n = k + 1 := ⟨n - 1, by omega⟩
    obtain ⟨j, rfl⟩ : ∃ k, j = k + 2 := ⟨j - 2, by omega⟩
    obtain ⟨v, v1, v2⟩ := step s (j + 1) c (by omega) hc ht
    obtain ⟨o', o1, o2⟩ := x_open hw ok hl (x := nI (x + (s + 1))) (dp := dp) (by rw [i_nI (by omega)]; omega) hd
    obtain ⟨u, u1, u2⟩ := reach_x (M := M) (S := fun p => p < 32 ∧ tb c p = true) (O := fun r => r < 12 ∧ sDepth (N 1) r (nI (x + s)) ≤ dp) (fun p hp => hc p hp.1 hp.2) (fun p hp => hp.1) (op := op) (fun j hj => by rw [hop j hj]; exact ⟨fun z => ⟨z.1, z⟩, fun z => z.2⟩) (k := k) (K := fun x7 x8 x9 => b_X8_fewestHours_26 k M (nI to) (nI P) dp (nI x) n x7 x8 x9) (x3 := nI to) (x5 := dp) (x6 := nI x) (x9 := nI (s + 1)) hP P 0 6000 c (by omega) (by omega) (fun j hj => by
      rw [zRch_0]
      exact ⟨fun z => ⟨hc j hj z, hj, z⟩, fun z => z.2.2⟩)
    have huv : u &&& o' = v := tb_ext (fun q hq => by
      rw [tb_and]
      have e1 := u2 q hq
      have e2 := o2 q hq
      have e3 := v2 q hq
      apply Bool.eq_iff_iff.mpr
      rw [Bool.and_eq_true, e1, e2, e3]
      exact ⟨fun z => ⟨z.1, z.2.2⟩, fun z => ⟨z.1, z.1.1, z.2⟩⟩)
    have h60 : ¬ (60 : Int32) < nI (s + 1) := by rw [i_lt, i_nI (by omega)]; show ¬ (60 : Int) < _; omega
    have hX : b_X8_fewestHours_26 k M (nI to) (nI P) dp (nI x) (n + 1) c op (nI (s + 1)) = if tb v to then some (nI (s + 1)) else b_X8_fewestHours_26 k M (nI to) (nI P) dp (nI x) n v o' (nI (s + 1 + 1)) := by
      rw [b_X8_fewestHours_26, if_neg h60]
      refine u1.trans ?_
      rw [b_X8_fewestHours_66, nI_add, o1, zbn_s, huv, znm_e, x_has _ (by omega), zbn_s]
      cases tb v to
      · rw [if_pos (by decide), znm_e, nI_p1]; rfl
      · rw [if_neg (by decide)]; rfl
    have hv12 : ∀ q, q < 32 → tb v q = true → q < 12 := fun q hq z => ((v2 q hq).mp z).1.1
    rw [hX, v1]
    cases hh : tb v to with
    | true =>
      refine ⟨nI (s + 1), nI (s + 1), rfl, ?_, Or.inl ⟨rfl, by rw [i_nI (by omega)]; omega, by rw [i_nI (by omega)]; omega⟩⟩
      rw [b_X11_hoursOf_8, if_neg h60, r_has _ (by omega), zbn_s, hh, if_neg (by decide)]
    | false =>
      obtain ⟨a, b, c1, c2, c3⟩ := ih (s + 1) n (j + 1) v o' (by omega) (by omega) (by omega) hv12 hh o2
      exact ⟨a, b, c1, c2, c3⟩
theorem s_ways (hw : zWr T M k (N 1)) (ok : zOk (N 1)) (hl : zLk M (N 1)) {dp : Int32} (hd : 0 ≤ dp.toInt ∧ dp.toInt ≤ 9) {P fr to : Nat} (hP : P ≤ 4) (hfr : fr < 12) (hto : to < 12) {x : Nat} (hx : x < 1000000) : ∃ a b, f_X8_fewestHours M k (nI fr) (nI to) (nI P) dp (nI x) = some a ∧ f_X11_hoursOf N (nI fr) (nI to) (nI P) dp (nI x) = some b ∧ zWy a b := by
  have hb1 : ∀ q, q < 32 → tb ((1 : Int32) <<< (nI fr &&& 31)) q = decide (q = fr) := fun q _ => tb_shl1 (by omega) q
  by_cases e : fr = to
  · subst e
    obtain ⟨n, hn⟩ : ∃ n, 6000 = n + 1 := ⟨5999, rfl⟩
    refine ⟨0, 0, by rw [f_X8_fewestHours, if_pos rfl], ?_, Or.inl ⟨rfl, by decide, by decide⟩⟩
    rw [f_X11_hoursOf, znm_e, hn, b_X11_hoursOf_8, if_neg (by decide), r_has _ (by omega), zbn_s, hb1 _ (by omega), decide_eq_true rfl, if_neg (by decide)]
  · obtain ⟨o, o1, o2⟩ := x_open hw ok hl (x := nI x) (dp := dp) (by rw [i_nI (by omega)]; omega) hd
    obtain ⟨a, b, c1, c2, c3⟩ := ways_loop hw ok hl hd hP hto hx 60 0 6000 6000 ((1 : Int32) <<< (nI fr &&& 31)) o (by omega) (by omega) (by omega) (fun q hq z => by rw [hb1 q hq] at z; simp at z; omega) (by rw [hb1 _ (by omega)]; simp; omega) o2
    refine ⟨a, b, ?_, ?_, c3⟩
    · rw [f_X8_fewestHours, if_neg (fun z => e (by rw [i_eq, i_nI (by omega), i_nI (by omega)] at z; omega)), znm_e, o1, zbn_s]; exact c1
    · rw [f_X11_hoursOf, znm_e]; exact c2
variable {t : Nat}
theorem zRel.look (h : zRel t M N) {M' : zM} (hM : ∀ q, q ≠ 44 → M' q = M q) : zRel t M' N := h.cls (fun q _ hd hq => hM q (fun e => by rw [e] at hd; exact absurd hd (by decide))) (by rw [hM 21 (by decide)])
theorem r_noWay {x3 x4 : Int32} : f_X11_noWay N x3 x4 = some (if (1 ≤ x3.toInt ∧ x3.toInt ≤ 4) ∧ (0 ≤ x4.toInt ∧ x4.toInt ≤ 9) then 0 else 1) := by
  rw [f_X11_noWay, r_in, zbn_s, r_in, zbn_s]
  have l1 : (1 : Int32).toInt = 1 := rfl
  have l4 : (4 : Int32).toInt = 4 := rfl
  have l9 : (9 : Int32).toInt = 9 := rfl
  rw [l1, l4, i_lit0, l9]
  by_cases h1 : 1 ≤ x3.toInt ∧ x3.toInt ≤ 4
  · rw [if_pos h1, if_neg n10]
    by_cases h2 : 0 ≤ x4.toInt ∧ x4.toInt ≤ 9
    · rw [if_pos h2, if_neg n10, if_pos ⟨h1, h2⟩]
    · rw [if_neg h2, if_pos rfl, if_neg (fun z => h2 z.2)]
  · rw [if_neg h1, if_pos rfl, if_neg (fun z => h1 z.1)]
theorem s_way (t : Nat) : zs_way (zRel t) (zRel (t + 1)) := by
  intro M N h x1 x2 x3 x4 x5
  have bad1 : ¬ ((0 ≤ x1.toInt ∧ x1.toInt ≤ 11) ∧ (0 ≤ x2.toInt ∧ x2.toInt ≤ 11)) → zsT (zRel (t + 1)) (f_X10_way M x1 x2 x3 x4 x5) (f_X11_way N x1 x2 x3 x4 x5) (fun k => k = 0 ∨ k = 1) (fun k => if k = 0 then 1 else 2) := by
    intro hh
    refine zsT_ex (M1 := M) (k := 0) (b := 0) (N1 := zu N 0 0 1) ?_ ?_ (Or.inl rfl) zu00_c (h.thr 1).more
    · by_cases h1 : 0 ≤ x1.toInt ∧ x1.toInt ≤ 11
      · rw [f_X10_way, g_pl h1, zbt_i, g_pn (fun z => hh ⟨h1, z⟩), zbt_x]
      · rw [f_X10_way, g_pn h1, zbt_x]
    · have e : b_X11_way_20 (zu N 0 0 0) x1 x2 x3 x4 x5 = some (0, zu N 0 0 1) := by rw [b_X11_way_20, b_X11_way_25, r_thr1, zbn_s, if_neg n10, zu00_00]
      by_cases h1 : 0 ≤ x1.toInt ∧ x1.toInt ≤ 11
      · rw [f_X11_way, znm_e, r_noPlace, if_pos h1, zbn_s, if_pos rfl, r_noPlace, if_neg (fun z => hh ⟨h1, z⟩), zbn_s, if_neg n10, e]
      · rw [f_X11_way, znm_e, r_noPlace, if_neg h1, zbn_s, if_neg n10, e]
  by_cases h12 : (0 ≤ x1.toInt ∧ x1.toInt ≤ 11) ∧ (0 ≤ x2.toInt ∧ x2.toInt ≤ 11)
  · obtain ⟨h1, h2⟩ := h12
    have hr0 : f_X11_way N x1 x2 x3 x4 x5 = zbn (f_X11_noWay (zu N 0 0 0) x3 x4) (fun u_6 => if u_6 = 0 then (zbn (f_X11_noHour (zu N 0 0 0) x5) (fun u_7 => if u_7 = 0 then (b_X11_way_55 (zu N 0 0 0) x1 x2 x3 x4 x5 0) else (b_X11_way_50 (zu N 0 0 0) x1 x2 x3 x4 x5))) else (b_X11_way_50 (zu N 0 0 0) x1 x2 x3 x4 x5)) := by
      rw [f_X11_way, znm_e, r_noPlace, if_pos h1, zbn_s, if_pos rfl, r_noPlace, if_pos h2, zbn_s, if_pos rfl, b_X11_way_25, r_thr0, zbn_s, if_pos rfl]
    have e50 : b_X11_way_50 (zu N 0 0 0) x1 x2 x3 x4 x5 = some (0, zu N 0 0 2) := by rw [b_X11_way_50, b_X11_way_55, r_thr1, zbn_s, if_neg n10, zu00_00]
    by_cases hg : ((1 ≤ x3.toInt ∧ x3.toInt ≤ 4) ∧ (0 ≤ x4.toInt ∧ x4.toInt ≤ 9)) ∧ (0 ≤ x5.toInt ∧ x5.toInt ≤ 9999)
    · obtain ⟨⟨h3, h4⟩, h5⟩ := hg
      obtain ⟨M', l1, l2, l3⟩ := x_look (k := 3) (by omega) xw_3 h.ok h.w
      have hR := h.look l2
      obtain ⟨p, p1, rfl⟩ := nI_get h1.1
      obtain ⟨q, q1, rfl⟩ := nI_get h2.1
      obtain ⟨P, P1, rfl⟩ := nI_get (x := x3) (by omega)
      obtain ⟨X, X1, rfl⟩ := nI_get h5.1
      have hz := hR.thr 0
      obtain ⟨a, b, c1, c2, c3⟩ := s_ways (N := zu N 0 0 0) hz.w hz.ok (by rw [zu00_1]; exact l3) h4 (show P ≤ 4 by omega) (show p < 12 by omega) (show q < 12 by omega) (show X < 1000000 by omega)
      have hx : f_X10_way M (nI p) (nI q) (nI P) x4 (nI X) = some (M', .inr a) := by
        rw [f_X10_way, g_pl h1, zbt_i, g_pl h2, zbt_i, g_in (by exact h3), zbt_i, g_in (by exact h4), zbt_i, g_in (by exact h5), zbt_i, l1, zbn_s, c1, zbn_s]
      have hr : f_X11_way N (nI p) (nI q) (nI P) x4 (nI X) = if b < 1000000 then some (b, zu N 0 0 0) else some (-1, zu N 0 0 0) := by
        rw [hr0, r_noWay, if_pos ⟨h3, h4⟩, zbn_s, if_pos rfl, r_noHour, if_pos h5, zbn_s, if_pos rfl, b_X11_way_55, r_thr0, zbn_s, if_pos rfl, c2, zbn_s]
      have lm : (1000000 : Int32).toInt = 1000000 := rfl
      rcases c3 with ⟨rfl, b0, b6⟩ | ⟨rfl, rfl⟩
      · exact zsT_ok hx (by rw [hr, if_pos (by rw [i_lt, lm]; omega)]) zu00_c hz.more
      · exact zsT_ok hx (by rw [hr, if_neg (by decide)]) zu00_c hz.more
    · refine zsT_ex (M1 := M) (k := 1) (b := 0) (N1 := zu N 0 0 2) ?_ ?_ (Or.inr rfl) zu00_c (h.thr 2).more
      · rw [f_X10_way, g_pl h1, zbt_i, g_pl h2, zbt_i]
        by_cases h3 : 1 ≤ x3.toInt ∧ x3.toInt ≤ 4
        · rw [g_in (by exact h3), zbt_i]
          by_cases h4 : 0 ≤ x4.toInt ∧ x4.toInt ≤ 9
          · rw [g_in (by exact h4), zbt_i, g_out (by exact (fun z => hg ⟨⟨h3, h4⟩, z⟩)), zbt_x]
          · rw [g_out (by exact h4), zbt_x]
        · rw [g_out (by exact h3), zbt_x]
      · rw [hr0, r_noWay]
        by_cases h34 : (1 ≤ x3.toInt ∧ x3.toInt ≤ 4) ∧ (0 ≤ x4.toInt ∧ x4.toInt ≤ 9)
        · rw [if_pos h34, zbn_s, if_pos rfl, r_noHour, if_neg (fun z => hg ⟨h34, z⟩), zbn_s, if_neg n10, e50]
        · rw [if_neg h34, zbn_s, if_neg n10, e50]
  · exact bad1 h12
theorem start_loop (h : zRel t M N) (hl : zLk M (N 1)) {dp : Int32} (hd : 0 ≤ dp.toInt ∧ dp.toInt ≤ 9) {P fr to : Nat} (hP : P ≤ 4) (hfr : fr < 12) (hto : to < 12) {X R : Nat} (hX : X ≤ 400) (hR : N 1 5 = nI R) (hR24 : R ≤ 24) : ∀ (r n j : Nat), r ≤ R → r < n → r < j → ∃ v, b_X10_start_58 M (nI fr) (nI to) (nI P) dp (nI X) n (nI r - 1) = some (M, .inr v) ∧ b_X11_start_82 N (nI fr) (nI to) (nI P) dp (nI (X * R + R) - 1) j (nI (R - r)) = some (v, N) := by
  intro r
  have hXR : X * R ≤ 400 * 24 := Nat.mul_le_mul hX hR24
  have y5 : (N 1 (5 : Int32).toNatClampNeg) = N 1 5 := rfl
  induction r with
  | zero =>
    intro n j hr hn hj
    obtain ⟨n, rfl⟩ : ∃ k, n = k + 1 := ⟨n - 1, by omega⟩
    obtain ⟨j, rfl⟩ : ∃ k, j = k + 1 := ⟨j - 1, by omega⟩
    refine ⟨-1, by rw [b_X10_start_58, if_pos (by decide)], ?_⟩
    rw [b_X11_start_82, zck_t (by decide), y5, hR, Nat.sub_zero, if_pos (by rw [i_le]; omega)]
  | succ r ih =>
    intro n j hr hn hj
    obtain ⟨n, rfl⟩ : ∃ k, n = k + 1 := ⟨n - 1, by omega⟩
    obtain ⟨j, rfl⟩ : ∃ k, j = k + 1 := ⟨j - 1, by omega⟩
    obtain ⟨a, b, c1, c2, c3⟩ := s_ways h.w h.ok hl hd hP hfr hto (show X * R + r < 1000000 by omega)
    have e1 : nI X * M 3 5 + nI r = nI (X * R + r) := by rw [h.w.period, hR, nI_mul, nI_add]
    have e2 : nI (X * R + R) - 1 - nI (R - (r + 1)) = nI (X * R + r) := by
      have a1 := i_nI (n := X * R + R) (by omega)
      have a2 := i_nI (n := R - (r + 1)) (by omega)
      have a3 := i_nI (n := X * R + r) (by omega)
      have a4 : (nI (X * R + R) - 1).toInt = (X * R + R : Nat) - 1 := by rw [i_sub (by rw [i_lit1]; omega) (by rw [i_lit1]; omega), i_lit1, a1]
      rw [i_eq, i_sub (by omega) (by omega), a4, a2, a3]; omega
    have hle : ¬ nI R ≤ nI (R - (r + 1)) := by rw [nI_leN (by omega) (by omega)]; omega
    have hn0 : ¬ nI r < 0 := by rw [i_lt, i_nI (by omega), i_lit0]; omega
    have hX0 : b_X10_start_58 M (nI fr) (nI to) (nI P) dp (nI X) (n + 1) (nI (r + 1) - 1) = if a = -1 then b_X10_start_58 M (nI fr) (nI to) (nI P) dp (nI X) n (nI r - 1) else some (M, .inr (nI (X * R + r))) := by
      rw [nI_m1, b_X10_start_58, if_neg hn0, e1, znm_e, c1, zbn_s, znm_e, i_m1]
    have hR0 : b_X11_start_82 N (nI fr) (nI to) (nI P) dp (nI (X * R + R) - 1) (j + 1) (nI (R - (r + 1))) = if 1000000 ≤ b then b_X11_start_82 N (nI fr) (nI to) (nI P) dp (nI (X * R + R) - 1) j (nI (R - r)) else some (nI (X * R + r), N) := by
      rw [b_X11_start_82, zck_t (by decide), y5, hR, if_neg hle, e2, c2, zbn_s, znm_e, nI_p1, b_X11_start_113, e2, show R - (r + 1) + 1 = R - r by omega]
    have lm : (1000000 : Int32).toInt = 1000000 := rfl
    rw [hX0, hR0]
    rcases c3 with ⟨rfl, b0, b6⟩ | ⟨rfl, rfl⟩
    · refine ⟨nI (X * R + r), ?_, ?_⟩
      · rw [if_neg (fun z => by rw [i_eq] at z; have : a.toInt = -1 := z; omega)]
      · rw [if_neg (by rw [i_le, lm]; omega)]
    · rw [if_pos rfl, if_pos (by decide)]
      exact ih n j (by omega) (by omega) (by omega)
end
