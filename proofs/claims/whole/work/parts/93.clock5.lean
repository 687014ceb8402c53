section
variable {T : Int} {k : Nat}
theorem ushr16 : ((16 : Int32).toUInt32 &&& Int32.toUInt32 31) = 16 := by decide
theorem draw_e (x : Int32) : ((x.toUInt32 >>> ((16 : Int32).toUInt32 &&& Int32.toUInt32 31)).toInt32) &&& 32767 = (x >>> ((16 : Int32) &&& 31)) &&& 32767 := by
  have m15 : ∀ j, j < 32 → tb 32767 j = decide (j < 15) := by decide +kernel
  apply tb_ext
  intro j hj
  rw [tb_and, tb_and, m15 j hj]
  by_cases q : j < 15
  · rw [show (16 : Int32) = nI 16 from rfl, tb_sar _ (by decide) (by omega), ← show (16 : Int32) = nI 16 from rfl, ushr16]
    have : tb ((x.toUInt32 >>> 16).toInt32) j = tb x (16 + j) := by
      unfold tb
      show (x.toUInt32 >>> 16).toBitVec.getLsbD j = x.toUInt32.toBitVec.getLsbD (16 + j)
      rw [UInt32.toBitVec_shiftRight]
      have h16 : ((16 : UInt32).toBitVec % 32).toNat = 16 := by decide
      rw [BitVec.ushiftRight_eq', h16, BitVec.getLsbD_ushiftRight]
    rw [this]
  · simp [q]
def sDraw (s : Int32) : Int32 := (s >>> ((16 : Int32) &&& 31)) &&& 32767
theorem sDraw_i (s : Int32) : 0 ≤ (sDraw s).toInt ∧ (sDraw s).toInt < 32768 := by
  have m15 : ∀ j, j < 32 → tb 32767 j = decide (j < 15) := by decide +kernel
  obtain ⟨x, h1, h2⟩ := tb_small (v := sDraw s) (n := 15) (by omega) (fun j h1 h2 => by unfold sDraw; rw [tb_and, m15 j h2]; simp; omega)
  rw [h2, i_nI (by omega)]; omega
theorem upd_comm {f : Nat → Int32} {a b : Nat} {u v : Int32} (h : a ≠ b) : upd (upd f a u) b v = upd (upd f b v) a u := by
  funext j
  rw [upd_at, upd_at, upd_at, upd_at]
  by_cases e : j = a
  · rw [if_neg (by omega), if_pos e, if_pos e]
  · rw [if_neg e, if_neg e]
theorem upd_upd {f : Nat → Int32} {a : Nat} {u v : Int32} : upd (upd f a u) a v = upd f a v := by
  funext j; rw [upd_at, upd_at, upd_at]; split <;> rfl
def zPb (j : Nat) : Prop := j = 9 ∨ j = 13
theorem zPb_ok : ∀ j, zPb j → 4 ≤ j ∧ j < 332 := fun j h => by unfold zPb at h; omega
theorem s_blow {M N : zM} (hk : k + 6 ≤ 21) (h : zLxp T k M N) (hs : sStep (N 1) (N 1 4) = 0) : ∃ M' N', f_X9_blow M k = some M' ∧ f_X11_blows N = some N' ∧ zLxp T k M' N' ∧ zCf k zPb M M' N N' := by
  obtain ⟨h1, ok, hl⟩ := h
  obtain ⟨s1, hs1⟩ : ∃ s, s = 1103515245 * N 1 13 + 12345 := ⟨_, rfl⟩
  obtain ⟨s2, hs2⟩ : ∃ s, s = 1103515245 * s1 + 12345 := ⟨_, rfl⟩
  have y13 : (13 : Int32).toNatClampNeg = 13 := rfl
  have y11 : (11 : Int32).toNatClampNeg = 11 := rfl
  have y9 : (9 : Int32).toNatClampNeg = 9 := rfl
  have y4 : (4 : Int32).toNatClampNeg = 4 := rfl
  have d1 := sDraw_i s1
  have d2 := sDraw_i s2
  have xdraw : ∀ Z : zM, ∀ s, 1103515245 * Z k 2 + 12345 = s → f_X9_draw Z k = some (sDraw s, zu Z k 2 s) := fun Z s e => by
    rw [f_X9_draw, znm_e, e, zu_at, if_pos ⟨rfl, rfl⟩, draw_e]; rfl
  have rdraw : ∀ Z : zM, ∀ s n, n ≠ 0 → 1103515245 * Z 1 13 + 12345 = s → f_X11_drawn Z n = some (sDraw s - sDraw s / n * n, zu Z 1 13 s) := fun Z s n hn e => by
    rw [f_X11_drawn, zck_t (by decide), zck_t (by decide), y13, e, znm_e, zck_t (by decide), zck_t (by simp [hn]), zu_at, if_pos ⟨rfl, rfl⟩]; rfl
  have hX0 : f_X9_draw (zu M k 1 0) k = some (sDraw s1, zu (zu M k 1 0) k 2 s1) := xdraw _ _ (by rw [zu_at, if_neg (by omega), h1.seed, hs1])
  have hR0 : f_X11_drawn N 100 = some (sDraw s1 - sDraw s1 / 100 * 100, zu N 1 13 s1) := rdraw _ _ _ (by decide) (by rw [hs1])
  have hst : f_X11_stepOf N (N 1 4) = some 0 := by rw [r_stepOf ok, hs]
  have hX : f_X9_blow M k = (if N 1 11 ≤ sDraw s1 - sDraw s1 / 100 * 100 then some (zu (zu M k 1 0) k 2 s1) else some (zu (zu (zu (zu M k 1 0) k 2 s1) k 2 s2) k 1 ((sDraw s2 - sDraw s2 / 11 * 11) - 5))) := by
    have e1 : zu (zu M k 1 0) k 2 s1 k 4 = N 1 11 := by rw [zu_at, if_neg (by omega), zu_at, if_neg (by omega), h1.storm]
    have e2 : f_X9_draw (zu (zu M k 1 0) k 2 s1) k = some (sDraw s2, zu (zu (zu M k 1 0) k 2 s1) k 2 s2) := xdraw _ _ (by rw [zu_at, if_pos ⟨rfl, rfl⟩, hs2])
    rw [f_X9_blow, znm_e, hX0, zbn_s, zck_t (by decide)]
    show (if zu (zu M k 1 0) k 2 s1 k 4 ≤ sDraw s1 - sDraw s1 / 100 * 100 then some (zu (zu M k 1 0) k 2 s1) else zbn (f_X9_draw (zu (zu M k 1 0) k 2 s1) k) (fun u_3 => zck (decide ¬(11 : Int32) = 0) (znm (zu u_3.2 k 1 (u_3.1 - u_3.1 / 11 * 11 - 5)) fun M_4 => some M_4))) = _
    rw [e1, e2, zbn_s, zck_t (by decide), znm_e]
  have hR : f_X11_blows N = (if N 1 11 ≤ sDraw s1 - sDraw s1 / 100 * 100 then some (zu (zu N 1 13 s1) 1 9 0) else some (zu (zu (zu N 1 13 s1) 1 13 s2) 1 9 ((sDraw s2 - sDraw s2 / 11 * 11) - 5))) := by
    have e1 : zu N 1 13 s1 1 11 = N 1 11 := by rw [zu_at, if_neg (by omega)]
    have e2 : f_X11_drawn (zu N 1 13 s1) 11 = some (sDraw s2 - sDraw s2 / 11 * 11, zu (zu N 1 13 s1) 1 13 s2) := rdraw _ _ _ (by decide) (by rw [zu_at, if_pos ⟨rfl, rfl⟩, hs2])
    rw [f_X11_blows, zck_t (by decide), y4, hst, zbn_s, if_pos rfl, hR0, zbn_s, zck_t (by decide)]
    show (if zu N 1 13 s1 1 11 ≤ sDraw s1 - sDraw s1 / 100 * 100 then b_X11_blows_48 (zu N 1 13 s1) 0 9 else zbn (f_X11_drawn (zu N 1 13 s1) 11) (fun u_4 => b_X11_blows_48 u_4.2 (u_4.1 - 5) 9)) = _
    rw [e1, e2, zbn_s]
    show (if N 1 11 ≤ sDraw s1 - sDraw s1 / 100 * 100 then b_X11_blows_48 (zu N 1 13 s1) 0 9 else b_X11_blows_48 (zu (zu N 1 13 s1) 1 13 s2) ((sDraw s2 - sDraw s2 / 11 * 11) - 5) 9) = _
    rw [b_X11_blows_48, b_X11_blows_48, zck_t (by decide), znm_e, zck_t (by decide), znm_e, y9]
  have sOk : ∀ s, zOk (upd (N 1) 13 s) := fun s => ok.put ⟨i_lo s, i_hi s⟩ (by omega) (by omega) (by omega) (by omega) (fun m hm => by omega) (fun m hm => by omega)
  by_cases q : N 1 11 ≤ sDraw s1 - sDraw s1 / 100 * 100
  · rw [if_pos q] at hX hR
    have hc : zCf k zPb M (zu (zu M k 1 0) k 2 s1) N (zu (zu N 1 13 s1) 1 9 0) := by
      refine ⟨fun q a b c => by rw [zu_row (by omega), zu_row (by omega)], fun j hj => by rw [zu_row (by omega), zu_row (by omega)], fun q a b => by rw [zu_row a, zu_row a], fun j hj => ?_⟩
      unfold zPb at hj
      rw [zu_at, if_neg (by omega), zu_at, if_neg (by omega)]
    refine ⟨_, _, hX, hR, ⟨?_, ?_, zLxp.law hk zPb_ok hl hc⟩, hc⟩
    · rw [zu_self, zu_self, upd_comm (by decide)]
      exact (h1.put (j := 1) (c := 9) (by decide) 0).put (j := 2) (c := 13) (by decide) s1
    · rw [zu_self, zu_self]
      exact (sOk s1).put (by decide) (by omega) (by omega) (by omega) (by omega) (fun m hm => by omega) (fun m hm => by omega)
  · rw [if_neg q] at hX hR
    have l11 : (11 : Int32).toInt = 11 := rfl
    have l5 : (5 : Int32).toInt = 5 := rfl
    have hr := i_rem (a := sDraw s2) (b := 11) d2.1 (by decide)
    rw [l11] at hr
    have hv : ((sDraw s2 - sDraw s2 / 11 * 11) - 5).toInt = (sDraw s2).toInt % 11 - 5 := by rw [i_sub (by omega) (by omega), hr, l5]
    obtain ⟨v, hve⟩ : ∃ v, v = (sDraw s2 - sDraw s2 / 11 * 11) - 5 := ⟨_, rfl⟩
    rw [← hve] at hX hR hv
    have hc : zCf k zPb M (zu (zu (zu (zu M k 1 0) k 2 s1) k 2 s2) k 1 v) N (zu (zu (zu N 1 13 s1) 1 13 s2) 1 9 v) := by
      refine ⟨fun q a b c => by rw [zu_row (by omega), zu_row (by omega), zu_row (by omega), zu_row (by omega)], fun j hj => by rw [zu_row (by omega), zu_row (by omega), zu_row (by omega), zu_row (by omega)], fun q a b => by rw [zu_row a, zu_row a, zu_row a], fun j hj => ?_⟩
      unfold zPb at hj
      rw [zu_at, if_neg (by omega), zu_at, if_neg (by omega), zu_at, if_neg (by omega)]
    refine ⟨_, _, hX, hR, ⟨?_, ?_, zLxp.law hk zPb_ok hl hc⟩, hc⟩
    · have := (((h1.put (j := 1) (c := 9) (by decide) 0).put (j := 2) (c := 13) (by decide) s1).put (j := 2) (c := 13) (by decide) s2).put (j := 1) (c := 9) (by decide) v
      refine this.row (fun j hj => ?_)
      rw [zu_self, zu_self, zu_self]
      rw [upd_at, upd_at, upd_at, upd_at, upd_at, upd_at, upd_at]
      by_cases e9 : j = 9
      · rw [if_pos e9, if_pos e9]
      · rw [if_neg e9, if_neg e9]
        by_cases e13 : j = 13
        · rw [if_pos e13, if_pos e13]
        · rw [if_neg e13, if_neg e13, if_neg e13, if_neg e13, if_neg e9]
    · rw [zu_self, zu_self, zu_self, upd_upd]
      refine (sOk s2).put ?_ (by omega) (by omega) (by omega) (by omega) (fun m hm => by omega) (fun m hm => by omega)
      rw [hv]; show (-5 : Int) ≤ _ ∧ _ ≤ (5 : Int); omega
def zPh (j : Nat) : Prop := 4 ≤ j ∧ j < 332
theorem zPh_ok : ∀ j, zPh j → 4 ≤ j ∧ j < 332 := fun j h => h
theorem s_hour {M N : zM} (hk : k + 6 ≤ 21) (hx : xw k) (hT : T ≤ 1999900) (h : zLxp T k M N) {K : zM → Int32 → Option (Int32 × zM)} {x2 x3 x4 x5 : Int32} : ∃ M' N', b_X0_run_37 K k 21 M x2 x3 x4 x5 = K M' (x5 + 1) ∧ b_X11_oneHour_8 N = some N' ∧ zLxp (T + 12) k M' N' ∧ zCf k zPh M M' N N' ∧ zGr N N' := by
  obtain ⟨D, D1, D2⟩ := nI_get (x := N 1 1) h.2.1.c1.1
  obtain ⟨B, B1, B2⟩ := nI_get (x := N 1 0) h.2.1.c0.1
  have hD := h.2.1.c1
  have hB := h.2.1.c0
  obtain ⟨M1, N1, a1, a2, a3, a4⟩ := walkAll_loop (T := T) hk hx (show B ≤ 6 by omega) (wt := sWater (N 1) (N 1 4) (N 1 9)) B 0 6000 6000 M N (by omega) (by omega) (by omega) h B2 rfl
  have e1 : ∀ j, j < 38 ∨ 68 ≤ j → N1 1 j = N 1 j := fun j hj => a4.2.2.2 j (by unfold zPw; omega)
  have hwalk : f_X0_walkAll M k 21 = some M1 := by rw [f_X0_walkAll, h.1.hour, x_waterIn h.1 h.2.1 h.2.1.c4.1, zbn_s]; exact a1
  have B2' : N1 1 0 = nI B := by rw [e1 0 (by omega)]; exact B2
  obtain ⟨mv, m1, m2⟩ := man_loop (k := k) a3.1 a3.2.1 B2' (by omega) B 0 6000 0 (by omega) (by omega) (fun p hp => by rw [tb_0]; exact ⟨fun z => absurd z (by decide), fun ⟨m, hm, _⟩ => by omega⟩)
  obtain ⟨M2, N2, k1, k2, k3, k4, k5⟩ := keep_loop (T := T) hk hx (by omega) (show D ≤ 6 by omega) (show B ≤ 6 by omega) (mv := mv) D 0 6000 6000 M1 N1 (by omega) (by omega) (by omega) (by simpa using a3) (by rw [e1 1 (by omega)]; exact D2) B2' m2
  have hkeep : f_X0_keepAll M1 k = some M2 := by rw [f_X0_keepAll]; exact m1.trans (by rw [b_X0_keepAll_37]; exact k1)
  have e2 : ∀ j, j < 71 → j ≠ 12 → N2 1 j = N1 1 j := fun j hj hn => k4.2.2.2 j (by unfold zPk; omega)
  obtain ⟨v, hv⟩ : ∃ v, v = (if N2 1 4 + 1 < 9999 then N2 1 4 + 1 else 9999) := ⟨_, rfl⟩
  have c4 := k3.2.1.c4
  have l9 : (9999 : Int32).toInt = 9999 := rfl
  have e4 : (N2 1 4 + 1).toInt = (N2 1 4).toInt + 1 := by rw [i_add (by rw [i_lit1]; omega) (by rw [i_lit1]; omega), i_lit1]
  have hvb : 0 ≤ v.toInt ∧ v.toInt ≤ 9999 := by
    rw [hv]; split
    · rename_i q; rw [i_lt, e4, l9] at q; rw [e4]; omega
    · rw [l9]; omega
  have c3 : zCf k zPh M2 (zu M2 k 0 v) N2 (zu N2 1 4 v) := zCf.set hk (by omega) (by unfold zPh; omega)
  have h3 : zLxp (T + D) k (zu M2 k 0 v) (zu N2 1 4 v) := ⟨by rw [zu_self]; exact k3.1.put (j := 0) (c := 4) (by decide) v, by rw [zu_self]; exact k3.2.1.put (by exact hvb) (by omega) (by omega) (by omega) (by omega) (fun m hm => by omega) (fun m hm => by omega), zLxp.law hk zPh_ok k3.2.2 c3⟩
  have B3 : zu N2 1 4 v 1 0 = nI B := by rw [zu_at, if_neg (by omega), e2 0 (by omega) (by omega)]; exact B2'
  obtain ⟨M4, N4, d1, d2, d3, d4⟩ := drown_loop (T := T + D) hk hx (by omega) (show B ≤ 6 by omega) (was := N2 1 4) (wt := sWater (zu N2 1 4 v 1) (zu N2 1 4 v 1 4) (zu N2 1 4 v 1 9)) c4 B 0 6000 6000 _ _ (by omega) (by omega) (by omega) (by simpa using h3) B3 rfl
  have hdrown : f_X0_drownAll (zu M2 k 0 v) k 21 (N2 1 4) = some M4 := by rw [f_X0_drownAll, h3.1.hour, x_waterIn h3.1 h3.2.1 h3.2.1.c4.1, zbn_s]; exact d1
  have cAll : zCf k zPh M M4 N N4 := (((a4.mono (fun j hj => zPw_ok j hj)).trans (k4.mono (fun j hj => zPk_ok j hj))).trans c3).trans (d4.mono (fun j hj => zPd_ok j hj))
  refine ⟨M4, N4, ?_, ?_, ⟨d3.1.more (by omega), d3.2⟩, cAll, ?_⟩
  · rw [b_X0_run_37, hwalk, zbn_s, hkeep, zbn_s, znm_e, k3.1.hour, znm_e, znm_e, ← hv, hdrown, zbn_s, znm_e]
  · have y4 : (4 : Int32).toNatClampNeg = 4 := rfl
    have r97 : b_X11_oneHour_97 N2 = some N4 := by rw [b_X11_oneHour_97, zck_t (by decide), znm_e, znm_e, zck_t (by decide), znm_e, y4, ← hv]; exact d2
    rw [b_X11_oneHour_8]
    exact a2.trans (by rw [b_X11_oneHour_76]; exact k2.trans r97)
  · refine ((zGr.same (fun d hd => e1 _ (by omega))).trans k5).trans (zGr.same (fun d hd => ?_))
    rw [d4.2.2.2 _ (by unfold zPd; omega), zu_at, if_neg (by omega)]
theorem s_oneHour {M N : zM} (hk : k + 6 ≤ 21) (hx : xw k) (hT : T ≤ 1999900) (h : zLxp T k M N) {x2 x4 : Int32} {x3 c : Int32} (hc : (x3 = 0 ∧ c = 1) ∨ (x3 = 1 ∧ c = 0)) {n i : Nat} (hi : ¬ x2 ≤ nI i) : ∃ M' N', b_X0_run_12 k 21 x2 x3 x4 (n + 1) M (nI i) = b_X0_run_12 k 21 x2 x3 x4 n M' (nI (i + 1)) ∧ f_X11_oneHour N c = some N' ∧ zLxp (T + 12) k M' N' ∧ zCf k zPh M M' N N' ∧ zGr N N' := by
  rcases hc with ⟨rfl, rfl⟩ | ⟨rfl, rfl⟩
  · obtain ⟨M', N', a1, a2, a3⟩ := s_hour hk hx hT h (K := fun M x5 => b_X0_run_12 k 21 x2 0 x4 n M x5) (x2 := x2) (x3 := 0) (x4 := x4) (x5 := nI i)
    refine ⟨M', N', ?_, ?_, a3⟩
    · rw [b_X0_run_12, if_neg hi, if_pos rfl, a1, nI_p1]
    · rw [f_X11_oneHour, if_neg n10, a2]
  · by_cases q : sStep (N 1) (N 1 4) = 0
    · obtain ⟨M1, N1, b1, b2, b3, b4⟩ := s_blow hk h q
      obtain ⟨M', N', a1, a2, a3, a4, a5⟩ := s_hour hk hx hT b3 (K := fun M x5 => b_X0_run_12 k 21 x2 1 x4 n M x5) (x2 := x2) (x3 := 1) (x4 := x4) (x5 := nI i)
      refine ⟨M', N', ?_, ?_, a3, (b4.mono (fun j hj => zPb_ok j hj)).trans a4, (zGr.same (fun d hd => b4.2.2.2 _ (by unfold zPb; omega))).trans a5⟩
      · rw [b_X0_run_12, if_neg hi, if_neg n10, h.1.hour, x_stepOf h.1 h.2.1, q, zbn_s, if_pos rfl, b1, zbn_s, a1, nI_p1]
      · rw [f_X11_oneHour, if_pos rfl, b2, zbn_s, a2]
    · obtain ⟨M', N', a1, a2, a3⟩ := s_hour hk hx hT h (K := fun M x5 => b_X0_run_12 k 21 x2 1 x4 n M x5) (x2 := x2) (x3 := 1) (x4 := x4) (x5 := nI i)
      have y4 : (4 : Int32).toNatClampNeg = 4 := rfl
      refine ⟨M', N', ?_, ?_, a3⟩
      · rw [b_X0_run_12, if_neg hi, if_neg n10, h.1.hour, x_stepOf h.1 h.2.1, zbn_s, if_neg q, a1, nI_p1]
      · rw [f_X11_oneHour, if_pos rfl, f_X11_blows, zck_t (by decide), y4, r_stepOf h.2.1, zbn_s, if_neg q, zbn_s, a2]
theorem run_loop (hk : k + 6 ≤ 21) (hx : xw k) {x3 c : Int32} (hc : (x3 = 0 ∧ c = 1) ∨ (x3 = 1 ∧ c = 0)) {H : Nat} {x4 x4' : Int32} : ∀ (d i n j : Nat) (M N : zM) (T : Int), i + d = H → H ≤ 100 → d < n → d < j → T + 12 * d ≤ 1999900 → zLxp T k M N → ∃ M' N', b_X0_run_12 k 21 (nI H) x3 x4 n M (nI i) = b_X0_run_79 k 21 M' x4 ∧ b_X11_goesBy_11 (nI H) c x4' j N (nI i) = b_X11_goesBy_28 N' x4' ∧ zLxp (T + 12 * d) k M' N' ∧ zCf k zPh M M' N N' ∧ zGr N N' := by
  intro d
  induction d with
  | zero =>
    intro i n j M N T hi hH hn hj hT h
    obtain ⟨n, rfl⟩ : ∃ k, n = k + 1 := ⟨n - 1, by omega⟩
    obtain ⟨j, rfl⟩ : ∃ k, j = k + 1 := ⟨j - 1, by omega⟩
    have e : i = H := by omega
    subst e
    have hle : nI i ≤ nI i := by rw [i_le]; omega
    exact ⟨M, N, by rw [b_X0_run_12, if_pos hle], by rw [b_X11_goesBy_11, if_pos hle], by simpa using h, zCf.refl, zGr.refl⟩
  | succ d ih =>
    intro i n j M N T hi hH hn hj hT h
    obtain ⟨n, rfl⟩ : ∃ k, n = k + 1 := ⟨n - 1, by omega⟩
    obtain ⟨j, rfl⟩ : ∃ k, j = k + 1 := ⟨j - 1, by omega⟩
    have hle : ¬ nI H ≤ nI i := by rw [nI_leN (by omega) (by omega)]; omega
    obtain ⟨M1, N1, a1, a2, a3, a4, a5⟩ := s_oneHour (x4 := x4) (n := n) hk hx (by omega) h hc hle
    obtain ⟨M', N', b1, b2, b3, b4, b5⟩ := ih (i + 1) n j M1 N1 (T + 12) (by omega) hH (by omega) (by omega) (by omega) a3
    refine ⟨M', N', by rw [a1, b1], by rw [b_X11_goesBy_11, if_neg hle, a2, zbn_s, znm_e, nI_p1, b2], ⟨b3.1.more (by omega), b3.2⟩, a4.trans b4, a5.trans b5⟩
end
