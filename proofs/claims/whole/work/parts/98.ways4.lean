section
variable {t : Nat} {M N : zM}
theorem s_start (t : Nat) : zs_start (zRel t) (zRel (t + 1)) := by
  intro M N h x1 x2 x3 x4 x5
  by_cases h12 : (0 ≤ x1.toInt ∧ x1.toInt ≤ 11) ∧ (0 ≤ x2.toInt ∧ x2.toInt ≤ 11)
  · obtain ⟨h1, h2⟩ := h12
    have hr0 : f_X11_start N x1 x2 x3 x4 x5 = zbn (f_X11_noWay (zu N 0 0 0) x3 x4) (fun u_9 => if u_9 = 0 then (zbn (f_X11_noTide (zu N 0 0 0) x5) (fun u_10 => if u_10 = 0 then (b_X11_start_55 (zu N 0 0 0) x1 x2 x3 x4 x5 0) else (b_X11_start_50 (zu N 0 0 0) x1 x2 x3 x4 x5))) else (b_X11_start_50 (zu N 0 0 0) x1 x2 x3 x4 x5)) := by
      rw [f_X11_start, znm_e, r_noPlace, if_pos h1, zbn_s, if_pos rfl, r_noPlace, if_pos h2, zbn_s, if_pos rfl, b_X11_start_25, r_thr0, zbn_s, if_pos rfl]
    have e50 : b_X11_start_50 (zu N 0 0 0) x1 x2 x3 x4 x5 = some (0, zu N 0 0 2) := by rw [b_X11_start_50, b_X11_start_55, r_thr1, zbn_s, if_neg n10, zu00_00]
    by_cases hg : ((1 ≤ x3.toInt ∧ x3.toInt ≤ 4) ∧ (0 ≤ x4.toInt ∧ x4.toInt ≤ 9)) ∧ (0 ≤ x5.toInt ∧ x5.toInt ≤ 400)
    · obtain ⟨⟨h3, h4⟩, h5⟩ := hg
      obtain ⟨M', l1, l2, l3⟩ := x_look (k := 3) (by omega) xw_3 h.ok h.w
      have hR := h.look l2
      obtain ⟨p, p1, rfl⟩ := nI_get h1.1
      obtain ⟨q, q1, rfl⟩ := nI_get h2.1
      obtain ⟨P, P1, rfl⟩ := nI_get (x := x3) (by omega)
      obtain ⟨X, X1, rfl⟩ := nI_get h5.1
      have c5 := h.ok.c5
      obtain ⟨R, R1, R2⟩ := nI_get (x := N 1 5) (by omega)
      have hz := hR.thr 0
      have hXR : X * R ≤ 400 * 24 := Nat.mul_le_mul (by omega) (by omega)
      obtain ⟨v, a1, a2⟩ := start_loop hz (by rw [zu00_1]; exact l3) h4 (show P ≤ 4 by omega) (show p < 12 by omega) (show q < 12 by omega) (show X ≤ 400 by omega) (by rw [zw0]; exact R2) (show R ≤ 24 by omega) R 6000 6000 (by omega) (by omega) (by omega)
      refine zsT_ok (M1 := M') (b := v) (N1 := zu N 0 0 0) ?_ ?_ zu00_c hz.more
      · have e5 : M' 3 5 - 1 = nI R - 1 := by rw [hR.w.period, R2]
        rw [f_X10_start, g_pl h1, zbt_i, g_pl h2, zbt_i, g_in (by exact h3), zbt_i, g_in (by exact h4), zbt_i, g_in (by exact h5), zbt_i, l1, zbn_s, znm_e, e5]; exact a1
      · have e5 : zu N 0 0 0 1 (5 : Int32).toNatClampNeg * (nI X + 1) - 1 = nI (X * R + R) - 1 := by
          show zu N 0 0 0 1 5 * (nI X + 1) - 1 = _
          rw [zw0, R2, nI_p1, nI_mul, show R * (X + 1) = X * R + R by rw [Nat.mul_add, Nat.mul_one, Nat.mul_comm]]
        rw [hr0, r_noWay, if_pos ⟨h3, h4⟩, zbn_s, if_pos rfl, r_noTide, if_pos h5, zbn_s, if_pos rfl, b_X11_start_55, r_thr0, zbn_s, if_pos rfl, zck_t (by decide), znm_e]
        show b_X11_start_82 (zu N 0 0 0) (nI p) (nI q) (nI P) x4 (zu N 0 0 0 1 (5 : Int32).toNatClampNeg * (nI X + 1) - 1) 6000 0 = _
        rw [e5]
        have := a2
        rw [Nat.sub_self] at this
        exact this
    · refine zsT_ex (M1 := M) (k := 1) (b := 0) (N1 := zu N 0 0 2) ?_ ?_ (Or.inr rfl) zu00_c (h.thr 2).more
      · rw [f_X10_start, g_pl h1, zbt_i, g_pl h2, zbt_i]
        by_cases h3 : 1 ≤ x3.toInt ∧ x3.toInt ≤ 4
        · rw [g_in (by exact h3), zbt_i]
          by_cases h4 : 0 ≤ x4.toInt ∧ x4.toInt ≤ 9
          · rw [g_in (by exact h4), zbt_i, g_out (by exact (fun z => hg ⟨⟨h3, h4⟩, z⟩)), zbt_x]
          · rw [g_out (by exact h4), zbt_x]
        · rw [g_out (by exact h3), zbt_x]
      · rw [hr0, r_noWay]
        by_cases h34 : (1 ≤ x3.toInt ∧ x3.toInt ≤ 4) ∧ (0 ≤ x4.toInt ∧ x4.toInt ≤ 9)
        · rw [if_pos h34, zbn_s, if_pos rfl, r_noTide, if_neg (fun z => hg ⟨h34, z⟩), zbn_s, if_neg n10, e50]
        · rw [if_neg h34, zbn_s, if_neg n10, e50]
  · refine zsT_ex (M1 := M) (k := 0) (b := 0) (N1 := zu N 0 0 1) ?_ ?_ (Or.inl rfl) zu00_c (h.thr 1).more
    · by_cases h1 : 0 ≤ x1.toInt ∧ x1.toInt ≤ 11
      · rw [f_X10_start, g_pl h1, zbt_i, g_pn (fun z => h12 ⟨h1, z⟩), zbt_x]
      · rw [f_X10_start, g_pn h1, zbt_x]
    · have e : b_X11_start_20 (zu N 0 0 0) x1 x2 x3 x4 x5 = some (0, zu N 0 0 1) := by rw [b_X11_start_20, b_X11_start_25, r_thr1, zbn_s, if_neg n10, zu00_00]
      by_cases h1 : 0 ≤ x1.toInt ∧ x1.toInt ≤ 11
      · rw [f_X11_start, znm_e, r_noPlace, if_pos h1, zbn_s, if_pos rfl, r_noPlace, if_neg (fun z => h12 ⟨h1, z⟩), zbn_s, if_neg n10, e]
      · rw [f_X11_start, znm_e, r_noPlace, if_neg h1, zbn_s, if_neg n10, e]
theorem all_open {v o : Int32} {Q O : Nat → Prop} (hv : ∀ j, j < 32 → (tb v j = true ↔ Q j)) (ho : ∀ j, j < 32 → (tb o j = true ↔ O j)) : (v &&& (o ^^^ (-1))) = 0 ↔ ∀ j, j < 32 → Q j → O j := by
  constructor
  · intro h j hj hq
    have e : tb (v &&& (o ^^^ (-1))) j = false := by rw [h, tb_0]
    rw [tb_and, tb_not _ hj, (hv j hj).mpr hq] at e
    apply (ho j hj).mp
    cases hh : tb o j with
    | true => rfl
    | false => rw [hh] at e; exact absurd e (by decide)
  · intro h
    apply tb_ext
    intro j hj
    rw [tb_and, tb_not _ hj, tb_0]
    cases hh : tb v j with
    | false => rfl
    | true => rw [(ho j hj).mpr (h j hj ((hv j hj).mp hh))]; rfl
theorem hnd_step (h : zRel t M N) (hl : zLk M (N 1)) {v dp : Int32} (hd : 0 ≤ dp.toInt ∧ dp.toInt ≤ 9) {Q : Nat → Prop} (hv : ∀ j, j < 32 → (tb v j = true ↔ Q j)) (hQ : ∀ j, Q j → j < 12) {X R : Nat} (hX : X ≤ 400) (hR : N 1 5 = nI R) (hR24 : R ≤ 24) {i n : Nat} (hi : i < R) (u : Int32) : ((∀ j, Q j → sDepth (N 1) j (nI (X * R + i)) ≤ dp) → b_X10_hoursNoDeeper_17 M v dp (nI X) (n + 1) u (nI i) = b_X10_hoursNoDeeper_17 M v dp (nI X) n (u + 1) (nI (i + 1))) ∧ (¬ (∀ j, Q j → sDepth (N 1) j (nI (X * R + i)) ≤ dp) → b_X10_hoursNoDeeper_17 M v dp (nI X) (n + 1) u (nI i) = b_X10_hoursNoDeeper_17 M v dp (nI X) n u (nI (i + 1))) := by
  have hXR : X * R ≤ 400 * 24 := Nat.mul_le_mul hX hR24
  have hle : ¬ nI R ≤ nI i := by rw [nI_leN (by omega) (by omega)]; omega
  have e1 : nI X * N 1 5 + nI i = nI (X * R + i) := by rw [hR, nI_mul, nI_add]
  obtain ⟨o, o1, o2⟩ := x_open h.w h.ok hl (x := nI (X * R + i)) (dp := dp) (by rw [i_nI (by omega)]; omega) hd
  have ha := all_open hv o2
  have hc : (∀ j, j < 32 → Q j → j < 12 ∧ sDepth (N 1) j (nI (X * R + i)) ≤ dp) ↔ (∀ j, Q j → sDepth (N 1) j (nI (X * R + i)) ≤ dp) := ⟨fun z j hj => (z j (by have := hQ j hj; omega) hj).2, fun z j _ hj => ⟨hQ j hj, z j hj⟩⟩
  rw [hc] at ha
  have hle' : ¬ M 3 5 ≤ nI i := by rw [h.w.period, hR]; exact hle
  constructor
  · intro z
    rw [b_X10_hoursNoDeeper_17, if_neg hle', h.w.period, e1, o1, zbn_s, if_pos (ha.mpr z), znm_e, b_X10_hoursNoDeeper_67, znm_e, nI_p1]
  · intro z
    rw [b_X10_hoursNoDeeper_17, if_neg hle', h.w.period, e1, o1, zbn_s, if_neg (fun y => z (ha.mp y)), b_X10_hoursNoDeeper_67, znm_e, nI_p1]
theorem dry_loop (h : zRel t M N) (hl : zLk M (N 1)) {p : Nat} (hp : p < 12) {X R : Nat} (hX : X ≤ 400) (hR : N 1 5 = nI R) (hR24 : R ≤ 24) : ∀ (d i n j : Nat) (u : Int32), i + d = R → d < n → d < j → ∃ v', b_X10_hoursNoDeeper_17 M ((1 : Int32) <<< (nI p &&& 31)) 0 (nI X) n u (nI i) = some (v', M) ∧ b_X11_dry_36 N (nI p) (nI X) j u (nI i) = some (v', N) := by
  intro d
  have hXR : X * R ≤ 400 * 24 := Nat.mul_le_mul hX hR24
  have y5 : (N 1 (5 : Int32).toNatClampNeg) = N 1 5 := rfl
  induction d with
  | zero =>
    intro i n j u hi hn hj
    obtain ⟨n, rfl⟩ : ∃ k, n = k + 1 := ⟨n - 1, by omega⟩
    obtain ⟨j, rfl⟩ : ∃ k, j = k + 1 := ⟨j - 1, by omega⟩
    have e : i = R := by omega
    subst e
    have hle : nI i ≤ nI i := by rw [i_le]; omega
    exact ⟨u, by rw [b_X10_hoursNoDeeper_17, h.w.period, hR, if_pos hle], by rw [b_X11_dry_36, zck_t (by decide), y5, hR, if_pos hle]⟩
  | succ d ih =>
    intro i n j u hi hn hj
    obtain ⟨n, rfl⟩ : ∃ k, n = k + 1 := ⟨n - 1, by omega⟩
    obtain ⟨j, rfl⟩ : ∃ k, j = k + 1 := ⟨j - 1, by omega⟩
    have hle : ¬ nI R ≤ nI i := by rw [nI_leN (by omega) (by omega)]; omega
    obtain ⟨s1, s2⟩ := hnd_step (n := n) (i := i) h hl (v := (1 : Int32) <<< (nI p &&& 31)) (dp := 0) (by decide) (Q := fun j => j = p) (fun j hj => by rw [tb_shl1 (by omega)]; simp) (fun j hj => by omega) hX hR hR24 (by omega) u
    have e1 : N 1 5 * nI X + nI i = nI (X * R + i) := by rw [hR, nI_mul, nI_add, Nat.mul_comm]
    have hge : 0 ≤ (sDepth (N 1) p (nI (X * R + i))).toInt := by
      unfold sDepth; rw [sMax0_i]; split <;> omega
    have h0 : (∀ j, j = p → sDepth (N 1) j (nI (X * R + i)) ≤ 0) ↔ sDepth (N 1) p (nI (X * R + i)) = 0 := by
      constructor
      · intro z; have := z p rfl; rw [i_le, i_lit0] at this; rw [i_eq, i_lit0]; omega
      · intro z j hj; subst hj; rw [z]; decide
    have hR0 : b_X11_dry_36 N (nI p) (nI X) (j + 1) u (nI i) = if sDepth (N 1) p (nI (X * R + i)) = 0 then b_X11_dry_36 N (nI p) (nI X) j (u + 1) (nI (i + 1)) else b_X11_dry_36 N (nI p) (nI X) j u (nI (i + 1)) := by
      rw [b_X11_dry_36, zck_t (by decide), zck_t (by decide), y5, e1, r_depthAt h.ok hp, zbn_s, b_X11_dry_72, b_X11_dry_72, znm_e, znm_e, znm_e, znm_e, nI_p1, Int32.add_zero]
      rw [if_neg (by rw [hR]; exact hle)]
    by_cases q : sDepth (N 1) p (nI (X * R + i)) = 0
    · rw [s1 (h0.mpr q), hR0, if_pos q]; exact ih (i + 1) n j (u + 1) (by omega) (by omega) (by omega)
    · rw [s2 (fun z => q (h0.mp z)), hR0, if_neg q]; exact ih (i + 1) n j u (by omega) (by omega) (by omega)
theorem s_dry (t : Nat) : zs_dry (zRel t) (zRel (t + 1)) := by
  intro M N h x1 x2
  by_cases h1 : 0 ≤ x1.toInt ∧ x1.toInt ≤ 11
  · by_cases h2 : 0 ≤ x2.toInt ∧ x2.toInt ≤ 400
    · obtain ⟨M', l1, l2, l3⟩ := x_look (k := 3) (by omega) xw_3 h.ok h.w
      have hz := (h.look l2).thr 0
      obtain ⟨p, p1, rfl⟩ := nI_get h1.1
      obtain ⟨X, X1, rfl⟩ := nI_get h2.1
      have c5 := h.ok.c5
      obtain ⟨R, R1, R2⟩ := nI_get (x := N 1 5) (by omega)
      obtain ⟨v, a1, a2⟩ := dry_loop hz (by rw [zu00_1]; exact l3) (show p < 12 by omega) (show X ≤ 400 by omega) (by rw [zw0]; exact R2) (show R ≤ 24 by omega) R 0 6000 6000 0 (by omega) (by omega) (by omega)
      refine zsT_ok (M1 := M') (b := v) (N1 := zu N 0 0 0) ?_ ?_ zu00_c hz.more
      · have e : f_X10_hoursNoDeeper M ((1 : Int32) <<< (nI p &&& 31)) 0 (nI X) = some (v, M') := by rw [f_X10_hoursNoDeeper, l1, zbn_s]; exact a1
        rw [f_X10_dry, g_pl h1, zbt_i, g_in (by exact h2), zbt_i, e, zbn_s]
      · rw [f_X11_dry, znm_e, r_noPlace, if_pos h1, zbn_s, r_thr0, zbn_s, if_pos rfl, r_noTide, if_pos h2, zbn_s, r_thr0, zbn_s, if_pos rfl]; exact a2
    · refine zsT_ex (M1 := M) (k := 1) (b := 0) (N1 := zu N 0 0 2) ?_ ?_ (Or.inr rfl) zu00_c (h.thr 2).more
      · rw [f_X10_dry, g_pl h1, zbt_i, g_out (by exact h2), zbt_x]
      · rw [f_X11_dry, znm_e, r_noPlace, if_pos h1, zbn_s, r_thr0, zbn_s, if_pos rfl, r_noTide, if_neg h2, zbn_s, r_thr1, zbn_s, if_neg n10, zu00_00]
  · refine zsT_ex (M1 := M) (k := 0) (b := 0) (N1 := zu N 0 0 1) ?_ ?_ (Or.inl rfl) zu00_c (h.thr 1).more
    · rw [f_X10_dry, g_pn h1, zbt_x]
    · rw [f_X11_dry, znm_e, r_noPlace, if_neg h1, zbn_s, r_thr1, zbn_s, if_neg n10, zu00_00]
theorem safe_bits : ∀ a, a < 12 → ∀ b, b < 12 → ∀ j, j < 32 → tb ((((2 : Int32) <<< (nI b &&& 31)) - 1) &&& ((((1 : Int32) <<< (nI a &&& 31)) - 1) ^^^ (-1))) j = decide (a ≤ j ∧ j ≤ b) := by decide +kernel
theorem safe_in (ok : zOk (N 1)) {dp y : Int32} {a b X R i : Nat} (hb : b < 12) (hR : N 1 5 = nI R) {K : Int32 → Int32 → Option (Int32 × zM)} : ∀ (d s n : Nat) (is : Int32), s + d = b + 1 → d < n → (is = 0 ∨ is = 1) → ∃ is', b_X11_safe_93 K N (nI a) (nI b) dp (nI X) y (nI i) n is (nI s) = b_X11_safe_139 K N (nI a) (nI b) dp (nI X) y (nI i) is' ∧ (is' = 0 ∨ is' = 1) ∧ (is' = 1 ↔ is = 1 ∧ ∀ r, s ≤ r → r ≤ b → sDepth (N 1) r (nI (X * R + i)) ≤ dp) := by
  have y5 : (N 1 (5 : Int32).toNatClampNeg) = N 1 5 := rfl
  have e1 : N 1 5 * nI X + nI i = nI (X * R + i) := by rw [hR, nI_mul, nI_add, Nat.mul_comm]
  intro d
  induction d with
  | zero =>
    intro s n is hs hn h01
    obtain ⟨n, rfl⟩ : ∃ k, n = k + 1 := ⟨n - 1, by omega⟩
    refine ⟨is, by rw [b_X11_safe_93, if_pos (by rw [nI_ltN (by omega) (by omega)]; omega)], h01, fun z => ⟨z, fun r h1 h2 => by omega⟩, fun z => z.1⟩
  | succ d ih =>
    intro s n is hs hn h01
    obtain ⟨n, rfl⟩ : ∃ k, n = k + 1 := ⟨n - 1, by omega⟩
    have hlt : ¬ nI b < nI s := by rw [nI_ltN (by omega) (by omega)]; omega
    have hcond : ∀ is' : Int32, (is' = 1 ∧ ∀ r, s + 1 ≤ r → r ≤ b → sDepth (N 1) r (nI (X * R + i)) ≤ dp) → sDepth (N 1) s (nI (X * R + i)) ≤ dp → ∀ r, s ≤ r → r ≤ b → sDepth (N 1) r (nI (X * R + i)) ≤ dp := fun is' z z2 r h1 h2 => by
      by_cases e : r = s
      · rw [e]; exact z2
      · exact z.2 r (by omega) h2
    rcases h01 with q | q <;> subst q
    · obtain ⟨is', a1, a2, a3⟩ := ih (s + 1) n 0 (by omega) (by omega) (Or.inl rfl)
      refine ⟨is', ?_, a2, fun z => absurd (a3.mp z).1 (by decide), fun z => absurd z.1 (by decide)⟩
      rw [b_X11_safe_93, if_neg hlt, if_pos rfl, b_X11_safe_130, b_X11_safe_131, znm_e, nI_p1]; exact a1
    · by_cases qd : sDepth (N 1) s (nI (X * R + i)) ≤ dp
      · obtain ⟨is', a1, a2, a3⟩ := ih (s + 1) n 1 (by omega) (by omega) (Or.inr rfl)
        refine ⟨is', ?_, a2, fun z => ⟨rfl, hcond 1 (a3.mp z) qd⟩, fun z => a3.mpr ⟨rfl, fun r h1 h2 => z.2 r (by omega) h2⟩⟩
        rw [b_X11_safe_93, if_neg hlt, if_neg n10, zck_t (by decide), y5, e1, r_depthAt ok (show s < 12 by omega), zbn_s, if_neg (by rw [i_lt]; rw [i_le] at qd; omega), b_X11_safe_131, znm_e, nI_p1]; exact a1
      · obtain ⟨is', a1, a2, a3⟩ := ih (s + 1) n 0 (by omega) (by omega) (Or.inl rfl)
        refine ⟨is', ?_, a2, fun z => absurd (a3.mp z).1 (by decide), fun z => absurd (z.2 s (by omega) (by omega)) qd⟩
        rw [b_X11_safe_93, if_neg hlt, if_neg n10, zck_t (by decide), y5, e1, r_depthAt ok (show s < 12 by omega), zbn_s, if_pos (by rw [i_lt]; rw [i_le] at qd; omega), b_X11_safe_130, b_X11_safe_131, znm_e, nI_p1]; exact a1
theorem safe_loop (h : zRel t M N) (hl : zLk M (N 1)) {dp : Int32} (hd : 0 ≤ dp.toInt ∧ dp.toInt ≤ 9) {a b : Nat} (hab : a ≤ b) (hb : b < 12) {X R : Nat} (hX : X ≤ 400) (hR : N 1 5 = nI R) (hR24 : R ≤ 24) : ∀ (d i n j : Nat) (u : Int32), i + d = R → d < n → d < j → ∃ v', b_X10_hoursNoDeeper_17 M ((((2 : Int32) <<< (nI b &&& 31)) - 1) &&& ((((1 : Int32) <<< (nI a &&& 31)) - 1) ^^^ (-1))) dp (nI X) n u (nI i) = some (v', M) ∧ b_X11_safe_76 N (nI a) (nI b) dp (nI X) j u (nI i) = some (v', N) := by
  intro d
  have hXR : X * R ≤ 400 * 24 := Nat.mul_le_mul hX hR24
  have y5 : (N 1 (5 : Int32).toNatClampNeg) = N 1 5 := rfl
  induction d with
  | zero =>
    intro i n j u hi hn hj
    obtain ⟨n, rfl⟩ : ∃ k, n = k + 1 := ⟨n - 1, by omega⟩
    obtain ⟨j, rfl⟩ : ∃ k, j = k + 1 := ⟨j - 1, by omega⟩
    have e : i = R := by omega
    subst e
    have hle : nI i ≤ nI i := by rw [i_le]; omega
    exact ⟨u, by rw [b_X10_hoursNoDeeper_17, h.w.period, hR, if_pos hle], by rw [b_X11_safe_76, zck_t (by decide), y5, hR, if_pos hle]⟩
  | succ d ih =>
    intro i n j u hi hn hj
    obtain ⟨n, rfl⟩ : ∃ k, n = k + 1 := ⟨n - 1, by omega⟩
    obtain ⟨j, rfl⟩ : ∃ k, j = k + 1 := ⟨j - 1, by omega⟩
    have hle : ¬ nI R ≤ nI i := by rw [nI_leN (by omega) (by omega)]; omega
    obtain ⟨s1, s2⟩ := hnd_step (n := n) (i := i) h hl (dp := dp) hd (Q := fun j => a ≤ j ∧ j ≤ b) (fun j hj => by rw [safe_bits a (by omega) b hb j hj]; simp) (fun j hj => by omega) hX hR hR24 (by omega) u
    obtain ⟨is', c1, c2, c3⟩ := safe_in (dp := dp) (y := u) (a := a) (X := X) (i := i) h.ok hb hR (K := fun x5 x6 => b_X11_safe_76 N (nI a) (nI b) dp (nI X) j x5 x6) (b + 1 - a) a 6000 1 (by omega) (by omega) (Or.inr rfl)
    have hR0 : b_X11_safe_76 N (nI a) (nI b) dp (nI X) (j + 1) u (nI i) = if is' = 0 then b_X11_safe_76 N (nI a) (nI b) dp (nI X) j u (nI (i + 1)) else b_X11_safe_76 N (nI a) (nI b) dp (nI X) j (u + 1) (nI (i + 1)) := by
      rw [b_X11_safe_76, zck_t (by decide), y5, hR, if_neg hle]
      refine c1.trans ?_
      rw [b_X11_safe_139, b_X11_safe_151, b_X11_safe_151, znm_e, znm_e, znm_e, znm_e, nI_p1, Int32.add_zero]
    by_cases q : ∀ j, a ≤ j ∧ j ≤ b → sDepth (N 1) j (nI (X * R + i)) ≤ dp
    · have e1 : is' = 1 := c3.mpr ⟨rfl, fun r h1 h2 => q r ⟨h1, h2⟩⟩
      rw [s1 q, hR0, e1, if_neg n10]; exact ih (i + 1) n j (u + 1) (by omega) (by omega) (by omega)
    · have e1 : is' = 0 := c2.elim id (fun z => absurd (fun j hj => (c3.mp z).2 j hj.1 hj.2) q)
      rw [s2 q, hR0, e1, if_pos rfl]; exact ih (i + 1) n j u (by omega) (by omega) (by omega)
theorem s_safe (t : Nat) : zs_safe (zRel t) (zRel (t + 1)) := by
  intro M N h x1 x2 x3 x4
  by_cases h12 : (0 ≤ x1.toInt ∧ x1.toInt ≤ 11) ∧ (0 ≤ x2.toInt ∧ x2.toInt ≤ 11)
  · obtain ⟨h1, h2⟩ := h12
    have hr0 : f_X11_safe N x1 x2 x3 x4 = (if x2 < x1 then (b_X11_safe_56 (zu N 0 0 0) x1 x2 x3 x4) else (zbn (f_X11_in (zu N 0 0 0) x3 0 9) (fun u_13 => if u_13 = 0 then (b_X11_safe_56 (zu N 0 0 0) x1 x2 x3 x4) else (zbn (f_X11_noTide (zu N 0 0 0) x4) (fun u_14 => if u_14 = 0 then (b_X11_safe_61 (zu N 0 0 0) x1 x2 x3 x4 0) else (b_X11_safe_56 (zu N 0 0 0) x1 x2 x3 x4)))))) := by
      rw [f_X11_safe, znm_e, r_noPlace, if_pos h1, zbn_s, if_pos rfl, r_noPlace, if_pos h2, zbn_s, if_pos rfl, b_X11_safe_25, r_thr0, zbn_s, if_pos rfl]
    have e50 : b_X11_safe_56 (zu N 0 0 0) x1 x2 x3 x4 = some (0, zu N 0 0 2) := by rw [b_X11_safe_56, b_X11_safe_61, r_thr1, zbn_s, if_neg n10, zu00_00]
    by_cases hg : x1.toInt ≤ x2.toInt ∧ (0 ≤ x3.toInt ∧ x3.toInt ≤ 9) ∧ (0 ≤ x4.toInt ∧ x4.toInt ≤ 400)
    · obtain ⟨hle, h3, h4⟩ := hg
      obtain ⟨M', l1, l2, l3⟩ := x_look (k := 3) (by omega) xw_3 h.ok h.w
      have hz := (h.look l2).thr 0
      obtain ⟨p, p1, rfl⟩ := nI_get h1.1
      obtain ⟨q, q1, rfl⟩ := nI_get h2.1
      obtain ⟨X, X1, rfl⟩ := nI_get h4.1
      have c5 := h.ok.c5
      obtain ⟨R, R1, R2⟩ := nI_get (x := N 1 5) (by omega)
      obtain ⟨v, a1, a2⟩ := safe_loop hz (by rw [zu00_1]; exact l3) h3 (show p ≤ q by omega) (show q < 12 by omega) (show X ≤ 400 by omega) (by rw [zw0]; exact R2) (show R ≤ 24 by omega) R 0 6000 6000 0 (by omega) (by omega) (by omega)
      refine zsT_ok (M1 := M') (b := v) (N1 := zu N 0 0 0) ?_ ?_ zu00_c hz.more
      · have e : f_X10_hoursNoDeeper M ((((2 : Int32) <<< (nI q &&& 31)) - 1) &&& ((((1 : Int32) <<< (nI p &&& 31)) - 1) ^^^ (-1))) x3 (nI X) = some (v, M') := by rw [f_X10_hoursNoDeeper, l1, zbn_s]; exact a1
        rw [f_X10_safe, g_pl h1, zbt_i, g_pl h2, zbt_i, g_in (by exact ⟨h1.1, hle⟩), zbt_i, g_in (by exact h3), zbt_i, g_in (by exact h4), zbt_i, znm_e, znm_e, e, zbn_s]
      · rw [hr0, if_neg (by rw [i_lt]; omega), r_in, if_pos (by exact h3), zbn_s, if_neg n10, r_noTide, if_pos h4, zbn_s, if_pos rfl, b_X11_safe_61, r_thr0, zbn_s, if_pos rfl]; exact a2
    · refine zsT_ex (M1 := M) (k := 1) (b := 0) (N1 := zu N 0 0 2) ?_ ?_ (Or.inr rfl) zu00_c (h.thr 2).more
      · rw [f_X10_safe, g_pl h1, zbt_i, g_pl h2, zbt_i]
        by_cases hle : x1.toInt ≤ x2.toInt
        · rw [g_in (by exact ⟨h1.1, hle⟩), zbt_i]
          by_cases h3 : 0 ≤ x3.toInt ∧ x3.toInt ≤ 9
          · rw [g_in (by exact h3), zbt_i, g_out (by exact (fun z => hg ⟨hle, h3, z⟩)), zbt_x]
          · rw [g_out (by exact h3), zbt_x]
        · rw [g_out (by exact (fun z => hle z.2)), zbt_x]
      · rw [hr0]
        by_cases hle : x1.toInt ≤ x2.toInt
        · rw [if_neg (by rw [i_lt]; omega), r_in]
          by_cases h3 : 0 ≤ x3.toInt ∧ x3.toInt ≤ 9
          · rw [if_pos (by exact h3), zbn_s, if_neg n10, r_noTide, if_neg (fun z => hg ⟨hle, h3, z⟩), zbn_s, if_neg n10, e50]
          · rw [if_neg (by exact h3), zbn_s, if_pos rfl, e50]
        · rw [if_pos (by rw [i_lt]; omega), e50]
  · refine zsT_ex (M1 := M) (k := 0) (b := 0) (N1 := zu N 0 0 1) ?_ ?_ (Or.inl rfl) zu00_c (h.thr 1).more
    · by_cases h1 : 0 ≤ x1.toInt ∧ x1.toInt ≤ 11
      · rw [f_X10_safe, g_pl h1, zbt_i, g_pn (fun z => h12 ⟨h1, z⟩), zbt_x]
      · rw [f_X10_safe, g_pn h1, zbt_x]
    · have e : b_X11_safe_20 (zu N 0 0 0) x1 x2 x3 x4 = some (0, zu N 0 0 1) := by rw [b_X11_safe_20, b_X11_safe_25, r_thr1, zbn_s, if_neg n10, zu00_00]
      by_cases h1 : 0 ≤ x1.toInt ∧ x1.toInt ≤ 11
      · rw [f_X11_safe, znm_e, r_noPlace, if_pos h1, zbn_s, if_pos rfl, r_noPlace, if_neg (fun z => h12 ⟨h1, z⟩), zbn_s, if_neg n10, e]
      · rw [f_X11_safe, znm_e, r_noPlace, if_neg h1, zbn_s, if_neg n10, e]
end
