section
variable {T : Int} {k : Nat}
def bcv (x : Int32) : Int32 := (f_J6_bitCount_0f7a4 x).getD 0
theorem bc_e (x : Int32) : f_J6_bitCount_0f7a4 x = some (bcv x) := rfl
theorem bc_tab : ∀ a, a < 64 → ∀ b, b < 64 → (a &&& b = a) → 0 ≤ (bcv (nI b) - bcv (nI a)).toInt ∧ (bcv (nI b) - bcv (nI a)).toInt ≤ 6 := by decide +kernel
theorem kept_small {M : zM} {w : Nat → Int32} (h : zWr T M k w) : ∃ x, x < 64 ∧ M k 13 = nI x := by
  obtain ⟨x, h1, h2⟩ := tb_small (v := M k 13) (n := 6) (by omega) (fun j h1 h2 => by rw [h.kept j h2]; simp; omega)
  exact ⟨x, h1, h2⟩
theorem kept_grow {M M' : zM} {w w' : Nat → Int32} (h : zWr T M k w) {T' : Int} (h' : zWr T' M' k w') (g : ∀ d : Nat, d < 6 → w (71 + 4 * d) = 1 → w' (71 + 4 * d) = 1) : 0 ≤ (bcv (M' k 13) - bcv (M k 13)).toInt ∧ (bcv (M' k 13) - bcv (M k 13)).toInt ≤ 6 := by
  obtain ⟨a, a1, a2⟩ := kept_small h
  obtain ⟨b, b1, b2⟩ := kept_small h'
  rw [a2, b2]
  refine bc_tab a a1 b b1 ?_
  apply Nat.eq_of_testBit_eq
  intro i
  rw [Nat.testBit_and]
  by_cases q : i < 6
  · have e1 := h.kept i (by omega)
    have e2 := h'.kept i (by omega)
    rw [a2, tb_nI (by omega)] at e1
    rw [b2, tb_nI (by omega)] at e2
    rw [e1, e2]
    by_cases z : w (71 + 4 * i) = 1
    · simp [q, z, g i q z]
    · simp [z]
  · have : a.testBit i = false := Nat.testBit_lt_two_pow (by have : 2 ^ 6 ≤ 2 ^ i := Nat.pow_le_pow_right (by omega) (by omega); omega)
    rw [this]; rfl
theorem s_run {M N : zM} (hk : k + 6 ≤ 21) (hx : xw k) (hT : T ≤ 1900000) (h : zLxp T k M N) {x3 c : Int32} (hc : (x3 = 0 ∧ c = 1) ∨ (x3 = 1 ∧ c = 0)) {H : Nat} (hH : H ≤ 100) : ∃ v M' N', f_X0_run M k 21 (nI H) x3 = some (v, M') ∧ f_X11_goesBy N (nI H) c = some (v, N') ∧ zLxp (T + 1200) k M' N' ∧ zCf k zPh M M' N N' ∧ (0 ≤ v.toInt ∧ v.toInt ≤ 6) := by
  obtain ⟨M', N', a1, a2, a3, a4, a5⟩ := run_loop (k := k) hk hx hc (H := H) (x4 := bcv (M k 13)) (x4' := bcv (M k 13)) H 0 6000 6000 M N T (by omega) hH (by omega) (by omega) (by omega) h
  refine ⟨bcv (M' k 13) - bcv (M k 13), M', N', ?_, ?_, ⟨a3.1.more (by omega), a3.2⟩, a4, kept_grow h.1 a3.1 a5⟩
  · rw [f_X0_run, bc_e, zbn_s]
    exact a1.trans (by rw [b_X0_run_79, bc_e, zbn_s])
  · rw [f_X11_goesBy, r_keptOnes h.2.1 h.1.kept, zbn_s, bc_e, zbn_s]
    exact a2.trans (by rw [b_X11_goesBy_28, r_keptOnes a3.2.1 a3.1.kept, zbn_s, bc_e, zbn_s])
theorem r_keeps_cp {M : zM} : f_X11_keepsAll M = some (zcpy M 4 0 1 0 332) := by
  rw [f_X11_keepsAll]
  refine cp_loop (L := b_X11_keepsAll_2) (C := fun Z => some Z) (A := 4) (a0 := 0) (B := 1) (b0 := 0) (K := 332) (Or.inl (by decide)) (fun n i hi => ?_) (fun n => ?_) (by omega)
  · rw [b_X11_keepsAll_2, if_neg (by exact nI_cond (K := 332) hi (by omega)), zck_t (nI_lt_i (by omega) (by omega)), zck_t (nI_lt_i (by omega) (by omega)), znm_e, znm_e, nI_cl (by omega), nI_p1, Nat.zero_add]
  · rw [b_X11_keepsAll_2, if_pos (show (332 : Int32) ≤ nI 332 by decide)]
theorem r_brings_cp {M : zM} : f_X11_bringsBack M = some (zcpy M 1 0 4 0 332) := by
  rw [f_X11_bringsBack]
  refine cp_loop (L := b_X11_bringsBack_2) (C := fun Z => some Z) (A := 1) (a0 := 0) (B := 4) (b0 := 0) (K := 332) (Or.inl (by decide)) (fun n i hi => ?_) (fun n => ?_) (by omega)
  · rw [b_X11_bringsBack_2, if_neg (by exact nI_cond (K := 332) hi (by omega)), zck_t (nI_lt_i (by omega) (by omega)), zck_t (nI_lt_i (by omega) (by omega)), znm_e, znm_e, nI_cl (by omega), nI_p1, Nat.zero_add]
  · rw [b_X11_bringsBack_2, if_pos (show (332 : Int32) ≤ nI 332 by decide)]
theorem s_tr {Y N1 : zM} (hT : T ≤ 1900000) (h : zLxp T 9 Y N1) {x3 c : Int32} (hc : (x3 = 0 ∧ c = 1) ∨ (x3 = 1 ∧ c = 0)) {H : Nat} (hH : H ≤ 100) : ∃ v M' N2 N3, f_X0_run Y 9 21 (nI H) x3 = some (v, M') ∧ f_X11_goesBy N1 (nI H) c = some (v, N2) ∧ f_X11_bringsBack N2 = some N3 ∧ zLxp (T + 1200) 9 M' N2 ∧ zCf 9 zPh Y M' N1 N2 ∧ (0 ≤ v.toInt ∧ v.toInt ≤ 6) ∧ (∀ j, j < 332 → N3 1 j = N1 4 j) ∧ (∀ j, 332 ≤ j → N3 1 j = N1 1 j) ∧ (∀ q, q ≠ 1 → q ≠ 8 → N3 q = N1 q) := by
  obtain ⟨v, M', N2, a1, a2, a3, a4, a5⟩ := s_run (by omega) xw_9 hT h hc hH
  refine ⟨v, M', N2, _, a1, a2, r_brings_cp, a3, a4, a5, fun j hj => ?_, fun j hj => ?_, fun q h1 h8 => ?_⟩
  · have := zcpy_in (M := N2) (A := 1) (a0 := 0) (B := 4) (b0 := 0) (K := 332) (i := j) hj
    rw [Nat.zero_add] at this
    rw [this, a4.2.2.1 4 (by decide) (by decide)]
  · rw [zcpy_out (by omega), a4.2.2.2 j (by unfold zPh; omega)]
  · rw [zcpy_row h1, a4.2.2.1 q h1 h8]
theorem zRel.tr {t : Nat} {M M' N N3 : zM} (h : zRel t M N) (hM : ∀ q, ¬ (9 ≤ q ∧ q < 15) → q ≠ 21 → q ≠ 26 → M' q = M q) (h21 : M' 21 0 = M 21 0) (h1 : ∀ j, N3 1 j = N 1 j) (hN : ∀ q, q ≠ 1 → q ≠ 4 → q ≠ 8 → N3 q = N q) : zRel t M' N3 := by
  have a : zRel t M' N := h.cls (fun q _ hd hq => hM q (fun z => by simp [zDull] at hd; omega) hq (fun e => by rw [e] at hd; exact absurd hd (by decide))) h21
  exact a.ref (funext h1) (hN 2 (by decide) (by decide) (by decide)) (hN 5 (by decide) (by decide) (by decide)) (hN 6 (by decide) (by decide) (by decide)) (by rw [hN 0 (by decide) (by decide) (by decide)]) (by rw [hN 0 (by decide) (by decide) (by decide)]) (by rw [hN 0 (by decide) (by decide) (by decide)]) (by rw [hN 0 (by decide) (by decide) (by decide)])
variable {t : Nat} {M N : zM}
theorem x_trialCopy (h : zRel t M N) : ∃ Y, f_X10_trialCopy M = some (some 9, Y) ∧ (∀ q, ¬ (9 ≤ q ∧ q < 15) → Y q = M q) ∧ zLxp (1200 * t) 9 Y N := by
  obtain ⟨Y, ey, uy, wy⟩ := h.w.cp xw_9 xw_3 (Or.inr (by omega))
  exact ⟨Y, by rw [f_X10_trialCopy, ey, zbn_s], fun q hq => uy q (by omega), wy, h.ok, h.law.eq (by rw [uy 21 (by omega)]) (uy _ (by omega)) (uy _ (by omega)) (uy _ (by omega)) (uy _ (by omega))⟩
theorem s_trial1 (h : zRel t M N) (ht : t < 512) {x3 c : Int32} (hc : (x3 = 0 ∧ c = 1) ∨ (x3 = 1 ∧ c = 0)) {H : Nat} (hH : H ≤ 100) : ∃ Y v M' N1 N2 N3, f_X10_trialCopy M = some (some 9, Y) ∧ f_X0_run Y 9 21 (nI H) x3 = some (v, M') ∧ f_X11_keepsAll N = some N1 ∧ f_X11_goesBy N1 (nI H) c = some (v, N2) ∧ f_X11_bringsBack N2 = some N3 ∧ zLxp (1200 * t + 1200) 9 M' N2 ∧ zRel t M' N3 ∧ N3 0 = N 0 ∧ M' 3 = M 3 := by
  obtain ⟨Y, y1, y2, y3⟩ := x_trialCopy h
  have e1 : zcpy N 4 0 1 0 332 1 = N 1 := zcpy_row (by decide)
  have hl : zLxp (1200 * t) 9 Y (zcpy N 4 0 1 0 332) := by unfold zLxp; rw [e1]; exact y3
  obtain ⟨v, M', N2, N3, a1, a2, a3, a4, a5, a6, a7, a8, a9⟩ := s_tr (by omega) hl hc hH
  refine ⟨Y, v, M', _, N2, N3, y1, a1, r_keeps_cp, a2, a3, a4, ?_, ?_, ?_⟩
  · refine h.tr (fun q h1 h2 h3 => by rw [a5.1 q (by omega) h2 h3, y2 q h1]) (by rw [a5.2.1 0 (by decide), y2 21 (by omega)]) (fun j => ?_) (fun q h1 h4 h8 => by rw [a9 q h1 h8, zcpy_row h4])
    by_cases q : j < 332
    · have := zcpy_in (M := N) (A := 4) (a0 := 0) (B := 1) (b0 := 0) (K := 332) (i := j) q
      rw [Nat.zero_add] at this
      rw [a7 j q, this]
    · rw [a8 j (by omega), e1]
  · rw [a9 0 (by decide) (by decide), zcpy_row (by decide)]
  · rw [a5.1 3 (by omega) (by omega) (by omega), y2 3 (by omega)]
theorem s_hours (t : Nat) (ht : t < 512) : zs_hours (zRel t) (zRel (t + 1)) := by
  intro M N h x1
  by_cases hp : 1 ≤ x1.toInt ∧ x1.toInt ≤ 100
  · obtain ⟨H, e1, rfl⟩ := nI_get (x := x1) (by omega)
    obtain ⟨M1, N1, a1, a2, a3, a4, a5, a6⟩ := s_remember (h.thr 0)
    obtain ⟨v, M', N', b1, b2, b3, b4, b5⟩ := s_run (x3 := 1) (c := 0) (by omega) xw_3 (by omega) a3.lx (Or.inr ⟨rfl, rfl⟩) (show H ≤ 100 by omega)
    refine zsT_ok (M1 := M') (b := v) (N1 := N') ?_ ?_ ?_ ?_
    · rw [f_X10_hours, g_in (by exact hp), zbt_i, a1, zbn_s, b1, zbn_s]
    · rw [f_X11_hours, znm_e, r_in, if_pos (by exact hp), zbn_s, if_neg n10, b_X11_hours_21, r_thr0, zbn_s, if_pos rfl, a2, zbn_s, b2, zbn_s]
    · rw [b4.2.2.1 0 (by decide) (by decide), a6 0 (by decide), zu00_c]
    · refine a3.step (by omega) ?_ b3.2.1 (fun q _ hd h21 hw => b4.1 q (by omega) h21 (fun e => by rw [e] at hd; exact absurd hd (by decide))) (b4.2.1 0 (by decide)) (b4.2.2.2 3 (by unfold zPh; omega)) (fun j h1 h2 => b4.2.2.2 j (by unfold zPh; omega)) (b4.2.2.1 2 (by decide) (by decide)) (b4.2.2.1 5 (by decide) (by decide)) (b4.2.2.1 6 (by decide) (by decide)) (by rw [b4.2.2.1 0 (by decide) (by decide)]) (by rw [b4.2.2.1 0 (by decide) (by decide)]) (by rw [b4.2.2.1 0 (by decide) (by decide)]) (by rw [b4.2.2.1 0 (by decide) (by decide)])
      exact b3.1.more (by omega)
  · refine zsT_ex (M1 := M) (k := 1) (b := 0) (N1 := zu N 0 0 1) ?_ ?_ rfl zu00_c (h.thr 1).more
    · rw [f_X10_hours, g_out (by exact hp), zbt_x]
    · rw [f_X11_hours, znm_e, r_in, if_neg (by exact hp), zbn_s, if_pos rfl, b_X11_hours_21, r_thr1, zbn_s, if_neg n10, zu00_00]
theorem zmo_s {β : Type} {A : Option β} {B : Nat → Option β} {q : Nat} : zmo (some q) A B = B q := rfl
theorem s_ahead (t : Nat) (ht : t < 512) : zs_ahead (zRel t) (zRel (t + 1)) := by
  intro M N h x1 x2
  have h0 := h.ok.c0
  by_cases hp : 0 ≤ x1.toInt ∧ x1.toInt < (N 1 0).toInt
  · have hpM : 0 ≤ x1.toInt ∧ x1.toInt < (M 3 10).toInt := by rw [h.w.monks]; exact hp
    have hpz : 0 ≤ x1.toInt ∧ x1.toInt < (zu N 0 0 0 1 0).toInt := by rw [zw0]; exact hp
    obtain ⟨m, e1, rfl⟩ := nI_get hp.1
    have hm : m < 6 := by omega
    by_cases hq : 0 ≤ x2.toInt ∧ x2.toInt ≤ 100
    · obtain ⟨H, f1, rfl⟩ := nI_get hq.1
      obtain ⟨Y, v, M', N1, N2, N3, a1, a2, a3, a4, a5, a6, a7, a8, a9⟩ := s_trial1 (h.thr 0) ht (x3 := 0) (c := 1) (Or.inl ⟨rfl, rfl⟩) (show H ≤ 100 by omega)
      refine zsT_ok (M1 := M') (b := N2 1 (38 + 5 * m + 0)) (N1 := N3) ?_ ?_ (by rw [a8, zu00_c]) a7.more
      · rw [f_X10_ahead, g_mk hpM, zbt_i, g_in (by exact hq), zbt_i, a1, zbn_s]
        dsimp only
        rw [zmo_s, zck_t (by decide), a2, zbn_s]
        dsimp only
        rw [show (0 : Int32) = nI 0 from rfl, x_monkCell a6.1 hm (by omega), zbn_s]
      · rw [f_X11_ahead, znm_e, r_noMonk (ok0 h.ok), if_pos hpz, zbn_s, r_thr0, zbn_s, if_pos rfl, r_in, if_pos (by exact hq), zbn_s, if_neg n10, b_X11_ahead_34, r_thr0, zbn_s, if_pos rfl, a3, zbn_s, a4, zbn_s]
        dsimp only
        rw [show (0 : Int32) = nI 0 from rfl, r_of hm (by omega), zbn_s, a5, zbn_s]
    · refine zsT_ex (M1 := M) (k := 1) (b := 0) (N1 := zu N 0 0 2) ?_ ?_ (Or.inr rfl) zu00_c (h.thr 2).more
      · rw [f_X10_ahead, g_mk hpM, zbt_i, g_out (by exact hq), zbt_x]
      · rw [f_X11_ahead, znm_e, r_noMonk (ok0 h.ok), if_pos hpz, zbn_s, r_thr0, zbn_s, if_pos rfl, r_in, if_neg (by exact hq), zbn_s, if_pos rfl, b_X11_ahead_34, r_thr1, zbn_s, if_neg n10, zu00_00]
  · have hpM : ¬ (0 ≤ x1.toInt ∧ x1.toInt < (M 3 10).toInt) := by rw [h.w.monks]; exact hp
    have hpz : ¬ (0 ≤ x1.toInt ∧ x1.toInt < (zu N 0 0 0 1 0).toInt) := by rw [zw0]; exact hp
    refine zsT_ex (M1 := M) (k := 0) (b := 0) (N1 := zu N 0 0 1) ?_ ?_ (Or.inl rfl) zu00_c (h.thr 1).more
    · rw [f_X10_ahead, g_mkn hpM, zbt_x]
    · rw [f_X11_ahead, znm_e, r_noMonk (ok0 h.ok), if_neg hpz, zbn_s, r_thr1, zbn_s, if_neg n10, zu00_00]
theorem s_doomed (t : Nat) (ht : t < 512) : zs_doomed (zRel t) (zRel (t + 1)) := by
  intro M N h x1
  by_cases hq : 0 ≤ x1.toInt ∧ x1.toInt ≤ 100
  · obtain ⟨H, f1, rfl⟩ := nI_get hq.1
    obtain ⟨Y, v, M', N1, N2, N3, a1, a2, a3, a4, a5, a6, a7, a8, a9⟩ := s_trial1 (h.thr 0) ht (x3 := 0) (c := 1) (Or.inl ⟨rfl, rfl⟩) (show H ≤ 100 by omega)
    refine zsT_ok (M1 := M') (b := (M' 9 12) &&& ((M' 3 12) ^^^ (-1))) (N1 := N3) ?_ ?_ (by rw [a8, zu00_c]) a7.more
    · rw [f_X10_doomed, g_in (by exact hq), zbt_i, a1, zbn_s]
      dsimp only
      rw [zmo_s, zck_t (by decide), a2, zbn_s]
    · have d1 : f_X11_drownedOnes (zu N 0 0 0) = some (M' 3 12) := by rw [a9]; exact r_drownedOnes (ok0 h.ok) (by rw [zu00_1]; exact h.w.drowned)
      rw [f_X11_doomed, znm_e, r_in, if_pos (by exact hq), zbn_s, if_neg n10, b_X11_doomed_21, r_thr0, zbn_s, if_pos rfl, d1, zbn_s, a3, zbn_s, a4, zbn_s]
      dsimp only
      rw [r_drownedOnes a6.2.1 a6.1.drowned, zbn_s, a5, zbn_s]
  · refine zsT_ex (M1 := M) (k := 1) (b := 0) (N1 := zu N 0 0 1) ?_ ?_ rfl zu00_c (h.thr 1).more
    · rw [f_X10_doomed, g_out (by exact hq), zbt_x]
    · rw [f_X11_doomed, znm_e, r_in, if_neg (by exact hq), zbn_s, if_pos rfl, b_X11_doomed_21, r_thr1, zbn_s, if_neg n10, zu00_00]
theorem s_done (t : Nat) (ht : t < 512) : zs_done (zRel t) (zRel (t + 1)) := by
  intro M N h x1
  by_cases hq : 0 ≤ x1.toInt ∧ x1.toInt ≤ 100
  · obtain ⟨H, f1, rfl⟩ := nI_get hq.1
    obtain ⟨Y, v, M', N1, N2, N3, a1, a2, a3, a4, a5, a6, a7, a8, a9⟩ := s_trial1 (h.thr 0) ht (x3 := 0) (c := 1) (Or.inl ⟨rfl, rfl⟩) (show H ≤ 100 by omega)
    refine zsT_ok (M1 := M') (b := M' 9 13) (N1 := N3) ?_ ?_ (by rw [a8, zu00_c]) a7.more
    · rw [f_X10_done, g_in (by exact hq), zbt_i, a1, zbn_s]
      dsimp only
      rw [zmo_s, zck_t (by decide), a2, zbn_s]
    · rw [f_X11_done, znm_e, r_in, if_pos (by exact hq), zbn_s, if_neg n10, b_X11_done_21, r_thr0, zbn_s, if_pos rfl, a3, zbn_s, a4, zbn_s]
      dsimp only
      rw [r_keptOnes a6.2.1 a6.1.kept, zbn_s, a5, zbn_s]
  · refine zsT_ex (M1 := M) (k := 1) (b := 0) (N1 := zu N 0 0 1) ?_ ?_ rfl zu00_c (h.thr 1).more
    · rw [f_X10_done, g_out (by exact hq), zbt_x]
    · rw [f_X11_done, znm_e, r_in, if_neg (by exact hq), zbn_s, if_pos rfl, b_X11_done_21, r_thr1, zbn_s, if_neg n10, zu00_00]
theorem s_trial (t : Nat) (ht : t < 512) : zs_trial (zRel t) (zRel (t + 1)) := by
  intro M N h x1 x2 _
  by_cases hq : 0 ≤ x1.toInt ∧ x1.toInt ≤ 100
  · obtain ⟨H, f1, rfl⟩ := nI_get hq.1
    obtain ⟨Y, v, M', N1, N2, N3, a1, a2, a3, a4, a5, a6, a7, a8, a9⟩ := s_trial1 (h.thr 0) ht (x3 := 1) (c := 0) (Or.inr ⟨rfl, rfl⟩) (show H ≤ 100 by omega)
    have hX : f_X10_trial M (nI H) x2 = if x2 = 0 then (some (M', .inr v)) else (some (M', .inr (M' 9 12))) := by
      rw [f_X10_trial, g_in (by exact hq), zbt_i, a1, zbn_s]
      dsimp only
      rw [zmo_s, zck_t (by decide), a2, zbn_s]
    have hR : f_X11_trial N (nI H) x2 = if x2 = 0 then (some (v, N3)) else (some (M' 9 12, N3)) := by
      rw [f_X11_trial, znm_e, r_in, if_pos (by exact hq), zbn_s, if_neg n10, b_X11_trial_21, r_thr0, zbn_s, if_pos rfl, a3, zbn_s, a4, zbn_s]
      dsimp only
      rw [r_drownedOnes a6.2.1 a6.1.drowned, zbn_s, b_X11_trial_53, b_X11_trial_53, a5, zbn_s, zbn_s]
    by_cases q2 : x2 = 0
    · exact zsT_ok (by rw [hX, if_pos q2]) (by rw [hR, if_pos q2]) (by rw [a8, zu00_c]) a7.more
    · exact zsT_ok (by rw [hX, if_neg q2]) (by rw [hR, if_neg q2]) (by rw [a8, zu00_c]) a7.more
  · refine zsT_ex (M1 := M) (k := 1) (b := 0) (N1 := zu N 0 0 1) ?_ ?_ rfl zu00_c (h.thr 1).more
    · rw [f_X10_trial, g_out (by exact hq), zbt_x]
    · rw [f_X11_trial, znm_e, r_in, if_neg (by exact hq), zbn_s, if_pos rfl, b_X11_trial_21, r_thr1, zbn_s, if_neg n10, zu00_00]
theorem span_loop (ht : t < 512) {H : Nat} (hH : H ≤ 100) {x2 : Int32} : ∀ (d s n j : Nat) (M N : zM) (b f g : Int32), s + d = 7 → 1 ≤ s → d < n → d < j → zRel t M N → N 0 0 = 0 → (∀ q, q < 332 → N 4 q = N 1 q) → ((b = -1 ∧ f = 6 ∧ g = 0 ∧ s < 7) ∨ (0 ≤ b.toInt ∧ (x2 = 0 → b = f) ∧ (x2 ≠ 0 → b = g))) → ∃ v M' N', b_X10_span_17 (nI H) x2 n M f g (nI s) = some (M', .inr v) ∧ b_X11_span_39 (nI H) x2 j N b (nI s) = some (v, N') ∧ zRel t M' N' ∧ N' 0 0 = 0 := by
  intro d
  induction d with
  | zero =>
    intro s n j M N b f g hs h1 hn hj h h0 h4 hb
    obtain ⟨n, rfl⟩ : ∃ k, n = k + 1 := ⟨n - 1, by omega⟩
    obtain ⟨j, rfl⟩ : ∃ k, j = k + 1 := ⟨j - 1, by omega⟩
    have e : s = 7 := by omega
    subst e
    rcases hb with hb | ⟨b0, bf, bg⟩
    · omega
    · refine ⟨b, M, N, ?_, by rw [b_X11_span_39, if_pos (by decide)], h, h0⟩
      rw [b_X10_span_17, if_pos (by decide), b_X10_span_72]
      by_cases q : x2 = 0
      · rw [if_pos q, bf q]
      · rw [if_neg q, bg q]
  | succ d ih =>
    intro s n j M N b f g hs h1 hn hj h h0 h4 hb
    obtain ⟨n, rfl⟩ : ∃ k, n = k + 1 := ⟨n - 1, by omega⟩
    obtain ⟨j, rfl⟩ : ∃ k, j = k + 1 := ⟨j - 1, by omega⟩
    have h6 : ¬ (6 : Int32) < nI s := by rw [i_lt, i_nI (by omega)]; show ¬ (6 : Int) < _; omega
    obtain ⟨Y, y1, y2, y3⟩ := x_trialCopy h
    have hl : zLxp (1200 * t) 9 (zu Y 9 2 (nI s)) (zu N 1 13 (nI s)) := by
      refine ⟨by rw [zu_self]; exact y3.1.put (j := 2) (c := 13) (by decide) _, by rw [zu_self]; exact y3.2.1.put ⟨i_lo _, i_hi _⟩ (by omega) (by omega) (by omega) (by omega) (fun m hm => by omega) (fun m hm => by omega), ?_⟩
      exact zLxp.law (k := 9) (P := zPb) (M := Y) (N := N) (by omega) zPb_ok y3.2.2 (zCf.set (by omega) (by omega) (Or.inr rfl))
    obtain ⟨v, M', N2, N3, a1, a2, a3, a4, a5, a6, a7, a8, a9⟩ := s_tr (x3 := 1) (c := 0) (by omega) hl (Or.inr ⟨rfl, rfl⟩) hH
    have hR : zRel t M' N3 := by
      refine h.tr (fun q h1 h2 h3 => by rw [a5.1 q (by omega) h2 h3, zu_row (by omega), y2 q h1]) (by rw [a5.2.1 0 (by decide), zu_row (by omega), y2 21 (by omega)]) (fun j => ?_) (fun q h1 h4 h8 => by rw [a9 q h1 h8, zu_row h1])
      by_cases q : j < 332
      · rw [a7 j q, zu_row (by decide), h4 j q]
      · rw [a8 j (by omega), zu_at, if_neg (by omega)]
    have h00 : N3 0 0 = 0 := by rw [a9 0 (by decide) (by decide), zu_row (by decide)]; exact h0
    have h44 : ∀ q, q < 332 → N3 4 q = N3 1 q := fun q hq => by rw [a9 4 (by decide) (by decide), a7 q hq]
    have hX : b_X10_span_17 (nI H) x2 (n + 1) M f g (nI s) = b_X10_span_17 (nI H) x2 n M' (if v < f then v else f) (if g < v then v else g) (nI (s + 1)) := by
      rw [b_X10_span_17, if_neg h6, y1, zbn_s]
      dsimp only
      rw [zmo_s, zck_t (by decide), znm_e, a1, zbn_s, znm_e, znm_e, znm_e, nI_p1]
    have y13 : (13 : Int32).toNatClampNeg = 13 := rfl
    have hRr : b_X11_span_39 (nI H) x2 (j + 1) N b (nI s) = b_X11_span_39 (nI H) x2 j N3 (if 0 ≤ b then (if x2 = 0 then (if v < b then v else b) else (if b < v then v else b)) else v) (nI (s + 1)) := by
      rw [b_X11_span_39, if_neg h6, zck_t (by decide), znm_e, y13, a2, zbn_s]
      dsimp only
      rw [a3, zbn_s]
      simp only [b_X11_span_95, znm_e, nI_p1]
      split
      · split <;> rfl
      · rfl
    rw [hX, hRr]
    refine ih (s + 1) n j M' N3 _ _ _ (by omega) (by omega) (by omega) (by omega) hR h00 h44 (Or.inr ?_)
    have l6 : (6 : Int32).toInt = 6 := rfl
    have lm : ¬ (0 : Int32) ≤ -1 := by decide
    rcases hb with ⟨rfl, rfl, rfl, -⟩ | ⟨b0, bf, bg⟩
    · rw [if_neg lm]
      refine ⟨a6.1, fun _ => ?_, fun _ => ?_⟩
      · by_cases q : v < 6
        · rw [if_pos q]
        · rw [if_neg q, i_eq, l6]; rw [i_lt, l6] at q; omega
      · by_cases q : (0 : Int32) < v
        · rw [if_pos q]
        · rw [if_neg q, i_eq, i_lit0]; rw [i_lt, i_lit0] at q; omega
    · have hb0 : (0 : Int32) ≤ b := by rw [i_le, i_lit0]; exact b0
      rw [if_pos hb0]
      by_cases q : x2 = 0
      · rw [if_pos q]
        refine ⟨by split <;> omega, fun _ => by rw [bf q], fun z => absurd q z⟩
      · rw [if_neg q]
        refine ⟨by split <;> omega, fun z => absurd z q, fun _ => by rw [bg q]⟩
theorem s_span (t : Nat) (ht : t < 512) : zs_span (zRel t) (zRel (t + 1)) := by
  intro M N h x1 x2 _
  by_cases hq : 0 ≤ x1.toInt ∧ x1.toInt ≤ 100
  · obtain ⟨H, f1, rfl⟩ := nI_get hq.1
    have hz := h.thr 0
    have hk : zRel t M (zcpy (zu N 0 0 0) 4 0 1 0 332) := hz.tr (fun _ _ _ _ => rfl) rfl (fun j => by rw [zcpy_row (by decide)]) (fun q _ h4 _ => zcpy_row h4)
    obtain ⟨v, M', N', a1, a2, a3, a4⟩ := span_loop ht (show H ≤ 100 by omega) (x2 := x2) 6 1 6000 6000 M _ (-1) 6 0 (by omega) (by omega) (by omega) (by omega) hk (by rw [zcpy_row (by decide), zu00_c]) (fun q hq => by
      have := zcpy_in (M := zu N 0 0 0) (A := 4) (a0 := 0) (B := 1) (b0 := 0) (K := 332) (i := q) hq
      rw [Nat.zero_add] at this
      rw [this, zcpy_row (by decide)]) (Or.inl ⟨rfl, rfl, rfl, by omega⟩)
    rw [nI1] at a1 a2
    refine zsT_ok (M1 := M') (b := v) (N1 := N') ?_ ?_ a4 a3.more
    · rw [f_X10_span, g_in (by exact hq), zbt_i]; exact a1
    · rw [f_X11_span, znm_e, r_in, if_pos (by exact hq), zbn_s, if_neg n10, b_X11_span_21, r_thr0, zbn_s, if_pos rfl, r_keeps_cp, zbn_s]; exact a2
  · refine zsT_ex (M1 := M) (k := 1) (b := 0) (N1 := zu N 0 0 1) ?_ ?_ rfl zu00_c (h.thr 1).more
    · rw [f_X10_span, g_out (by exact hq), zbt_x]
    · rw [f_X11_span, znm_e, r_in, if_neg (by exact hq), zbn_s, if_pos rfl, b_X11_span_21, r_thr1, zbn_s, if_neg n10, zu00_00]
end
