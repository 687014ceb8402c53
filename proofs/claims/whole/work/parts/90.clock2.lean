section
variable {T : Int} {k : Nat}
theorem i_min9 {x : Int32} (h : 0 ≤ x.toInt) : 0 ≤ (if x < 9 then x else 9).toInt ∧ (if x < 9 then x else 9).toInt ≤ 9 := by
  have l9 : (9 : Int32).toInt = 9 := rfl
  split
  · rename_i q; rw [i_lt, l9] at q; omega
  · rw [l9]; omega
theorem walkAll_loop (hk : k + 6 ≤ 21) (hx : xw k) {D : Nat} (hD6 : D ≤ 6) {wt : Int32} : ∀ (d i n j : Nat) (M N : zM), i + d = D → d < n → d < j → zLxp T k M N → N 1 0 = nI D → wt = sWater (N 1) (N 1 4) (N 1 9) → ∃ M' N', b_X0_walkAll_11 k 21 wt n M (nI i) = some M' ∧ b_X11_oneHour_10 j N (nI i) = b_X11_oneHour_76 N' ∧ zLxp T k M' N' ∧ zCf k zPw M M' N N' := by
  intro d
  induction d with
  | zero =>
    intro i n j M N hi hn hj h hD hw
    obtain ⟨n, rfl⟩ : ∃ k, n = k + 1 := ⟨n - 1, by omega⟩
    obtain ⟨j, rfl⟩ : ∃ k, j = k + 1 := ⟨j - 1, by omega⟩
    have e : i = D := by omega
    subst e
    have hle : nI i ≤ nI i := by rw [i_le]; omega
    exact ⟨M, N, by rw [b_X0_walkAll_11, h.1.monks, hD, if_pos hle], by rw [b_X11_oneHour_10, r_monks, zbn_s, hD, if_pos hle], h, zCf.refl⟩
  | succ d ih =>
    intro i n j M N hi hn hj h hD hw
    obtain ⟨n, rfl⟩ : ∃ k, n = k + 1 := ⟨n - 1, by omega⟩
    obtain ⟨j, rfl⟩ : ∃ k, j = k + 1 := ⟨j - 1, by omega⟩
    have hi6 : i < 6 := by omega
    have hle : ¬ nI D ≤ nI i := by rw [nI_leN (by omega) (by omega)]; omega
    have keep : ∀ (M1 N1 : zM), zCf k zPw M M1 N N1 → N1 1 0 = nI D ∧ wt = sWater (N1 1) (N1 1 4) (N1 1 9) := by
      intro M1 N1 c
      have e : ∀ q, q < 38 → N1 1 q = N 1 q := fun q hq => c.2.2.2 q (by unfold zPw; omega)
      exact ⟨by rw [e 0 (by omega)]; exact hD, by rw [sWater_eq e, e 4 (by omega), e 9 (by omega)]; exact hw⟩
    have next : ∀ (M1 N1 : zM), zLxp T k M1 N1 → zCf k zPw M M1 N N1 → ∃ M' N', b_X0_walkAll_11 k 21 wt n M1 (nI (i + 1)) = some M' ∧ b_X11_oneHour_10 j N1 (nI (i + 1)) = b_X11_oneHour_76 N' ∧ zLxp T k M' N' ∧ zCf k zPw M M' N N' := by
      intro M1 N1 h1 c
      obtain ⟨M', N', a1, a2, a3, a4⟩ := ih (i + 1) n j M1 N1 (by omega) (by omega) (by omega) h1 (keep M1 N1 c).1 (keep M1 N1 c).2
      exact ⟨M', N', a1, a2, a3, c.trans a4⟩
    have tire : ∀ (M1 N1 : zM), zLxp T k M1 N1 → zCf k zPw M M1 N N1 → ∃ M' N', b_X0_walkAll_50 (fun M x3 => b_X0_walkAll_11 k 21 wt n M x3) k 21 M1 wt (nI i) = some M' ∧ b_X11_oneHour_42 (fun M x2 => b_X11_oneHour_10 j M x2) N1 (nI i) = b_X11_oneHour_76 N' ∧ zLxp T k M' N' ∧ zCf k zPw M M' N N' := by
      intro M1 N1 h1 c
      obtain ⟨v, M2, N2, a1, a2, a3, a4, a5⟩ := s_tires hk hx h1 (keep M1 N1 c).2 hi6
      have h2 : zLxp T k M2 N2 := h1.fr hk a4 a5
      have e1 : N2 1 = N1 1 := a5 1 (by decide)
      have ht := h1.2.1.m hi6 (c := 3) (by omega)
      have ht9 : (N1 1 (38 + 5 * i + 3)).toInt ≤ 9 := ht.2
      have hs : (N1 1 (38 + 5 * i + 3) + v).toInt = (N1 1 (38 + 5 * i + 3)).toInt + v.toInt := i_add (by omega) (by omega)
      obtain ⟨u, hu⟩ : ∃ u, u = (if N1 1 (38 + 5 * i + 3) + v < 9 then N1 1 (38 + 5 * i + 3) + v else 9) := ⟨_, rfl⟩
      have hu9 : 0 ≤ u.toInt ∧ u.toInt ≤ 9 := by rw [hu]; exact i_min9 (by omega)
      have hc : zCf k zPw M2 (zu M2 (k + 3) (4 * i + 3) u) N2 (zu N2 1 (38 + 5 * i + 3) u) := zCf.set hk (by omega) (by unfold zPw; omega)
      have hL : zLxp T k (zu M2 (k + 3) (4 * i + 3) u) (zu N2 1 (38 + 5 * i + 3) u) := ⟨by rw [zu_self]; exact h2.1.putM hi6 (by omega) _, by rw [zu_self]; exact h2.2.1.setM hi6 (by omega) hu9, zLxp.law hk zPw_ok h2.2.2 hc⟩
      obtain ⟨M', N', b1, b2, b3, b4⟩ := next _ _ hL ((c.trans (zCf.law a4 a5)).trans hc)
      refine ⟨M', N', ?_, ?_, b3, b4⟩
      · rw [b_X0_walkAll_50, show (3 : Int32) = nI 3 from rfl, x_monkCell h1.1 hi6 (by omega), zbn_s, a1, zbn_s, znm_e, znm_e]
        dsimp only
        rw [← hu, x_setMonk hx.2.2.1 hi6 (by omega), zbn_s, b_X0_walkAll_79, znm_e, nI_p1]
        exact b1
      · rw [b_X11_oneHour_42, show (3 : Int32) = nI 3 from rfl, r_monkAt, zbn_s, r_of hi6 (by omega), zbn_s, a2, zbn_s, znm_e]
        dsimp only
        rw [← hu, zck_t (nI_lt_i (by omega) (by omega)), nI_cl (by omega), znm_e, b_X11_oneHour_70, znm_e, nI_p1]
        exact b2
    have dX : f_X9_isDrowned M k (nI i) = some (N 1 (42 + 5 * i)) := x_isDrowned h.1 h.2.1 hi6
    have dR : f_X11_isDrowned N (nI i) = some (N 1 (42 + 5 * i)) := r_isDrowned' h.2.1 hi6
    by_cases qd : N 1 (42 + 5 * i) = 0
    · obtain ⟨v, M1, N1, a1, a2, a3, a4, a5⟩ := s_waits hk hx h hw hi6
      have h1 : zLxp T k M1 N1 := h.fr hk a4 a5
      have c1 : zCf k zPw M M1 N N1 := zCf.law a4 a5
      rcases a3 with z | z
      · obtain ⟨wd, M2, N2, b1, b2, b3, b4, b5⟩ := s_wades hk hx h1 (keep M1 N1 c1).2 hi6
        have h2 : zLxp T k M2 N2 := h1.fr hk b4 b5
        have c2 : zCf k zPw M M2 N N2 := c1.trans (zCf.law b4 b5)
        obtain ⟨M3, N3, w1, w2, w3, w4⟩ := s_walk (wd := wd) hk hx hi6 h2 (keep M2 N2 c2).2
        obtain ⟨M', N', t1, t2, t3, t4⟩ := tire M3 N3 w3 (c2.trans w4)
        refine ⟨M', N', ?_, ?_, t3, t4⟩
        · rw [b_X0_walkAll_11, h.1.monks, hD, if_neg hle, dX, zbn_s, if_pos qd, a1, zbn_s, z, if_pos rfl, b1, zbn_s]
          dsimp only
          rw [w1, zbn_s]; exact t1
        · rw [b_X11_oneHour_10, r_monks, zbn_s, hD, if_neg hle, dR, zbn_s, if_pos qd, a2, zbn_s, z, if_pos rfl, f_X11_walks, b2, zbn_s]
          dsimp only
          rw [w2, zbn_s]; exact t2
      · obtain ⟨M', N', t1, t2, t3, t4⟩ := tire M1 N1 h1 c1
        refine ⟨M', N', ?_, ?_, t3, t4⟩
        · rw [b_X0_walkAll_11, h.1.monks, hD, if_neg hle, dX, zbn_s, if_pos qd, a1, zbn_s, z, if_neg n10]; exact t1
        · rw [b_X11_oneHour_10, r_monks, zbn_s, hD, if_neg hle, dR, zbn_s, if_pos qd, a2, zbn_s, z, if_neg n10]; exact t2
    · obtain ⟨M', N', t1, t2, t3, t4⟩ := next M N h zCf.refl
      refine ⟨M', N', ?_, ?_, t3, t4⟩
      · rw [b_X0_walkAll_11, h.1.monks, hD, if_neg hle, dX, zbn_s, if_neg qd, b_X0_walkAll_79, znm_e, nI_p1]; exact t1
      · rw [b_X11_oneHour_10, r_monks, zbn_s, hD, if_neg hle, dR, zbn_s, if_neg qd, b_X11_oneHour_70, znm_e, nI_p1]; exact t2
def zsh (M : zM) (c : Nat) : zM := fun q j => if q = 1 ∧ 92 + c ≤ j ∧ j < 332 then M 1 (j - 4) else M q j
theorem tells_loop {x1 x2 x3 : Int32} {N : zM} : ∀ (c n : Nat), c ≤ 236 → c < n → b_X11_tells_5 x1 x2 x3 n (zsh N (c + 4)) (nI (c + 3)) = b_X11_tells_39 (zsh N 4) x1 x2 x3 := by
  intro c
  induction c with
  | zero =>
    intro n _ hn
    obtain ⟨n, rfl⟩ : ∃ k, n = k + 1 := ⟨n - 1, by omega⟩
    rw [b_X11_tells_5, if_pos (by decide)]
  | succ c ih =>
    intro n hc hn
    obtain ⟨n, rfl⟩ : ∃ k, n = k + 1 := ⟨n - 1, by omega⟩
    have hlt : ¬ nI (c + 1 + 3) < 4 := by rw [i_lt, i_nI (by omega)]; show ¬ _ < (4 : Int); omega
    have e1 : 92 + nI (c + 1 + 3) = nI (96 + c) := by rw [show (92 : Int32) = nI 92 from rfl, nI_add]; congr 1; omega
    have e2 : nI (96 + c) - 4 = nI (92 + c) := by
      have a1 := i_nI (n := 96 + c) (by omega)
      have a2 := i_nI (n := 92 + c) (by omega)
      have l4 : (4 : Int32).toInt = 4 := rfl
      rw [i_eq, i_sub (by omega) (by omega), a1, a2, l4]; omega
    have e3 : nI (c + 1 + 3) + (-1) = nI (c + 3) := by rw [i_m1, show c + 1 + 3 = c + 3 + 1 by omega, nI_m1]
    have e4 : zu (zsh N (c + 1 + 4)) 1 (96 + c) (zsh N (c + 1 + 4) 1 (92 + c)) = zsh N (c + 4) := by
      funext q j
      rw [zu_at]
      unfold zsh
      by_cases h1 : q = 1 ∧ j = 96 + c
      · rw [if_pos h1, if_neg (by omega), if_pos (by omega), show j - 4 = 92 + c by omega]
      · rw [if_neg h1]
        by_cases h2 : q = 1 ∧ 92 + (c + 1 + 4) ≤ j ∧ j < 332
        · rw [if_pos h2, if_pos (by omega)]
        · rw [if_neg h2, if_neg (by omega)]
    rw [b_X11_tells_5, if_neg hlt, e1, e2, zck_t (nI_lt_i (by omega) (by omega)), zck_t (nI_lt_i (by omega) (by omega)), nI_cl (by omega), nI_cl (by omega), znm_e, znm_e, e3, e4]
    exact ih n (by omega) (by omega)
theorem zsh_0 {N : zM} : zsh N 240 = N := by funext q j; unfold zsh; rw [if_neg (by omega)]
def zlog (w : Nat → Int32) (h n c p : Int32) : Nat → Int32 := fun j => if j = 92 then h else if j = 93 then n else if j = 94 then c else if j = 95 then p else if j = 12 then (if w 12 + 1 < 60 then w 12 + 1 else 60) else if 96 ≤ j ∧ j < 332 then w (j - 4) else w j
theorem r_tells {N : zM} {h x1 x2 x3 : Int32} : ∃ N', f_X11_tells N x1 x2 x3 = some N' ∧ (∀ q, q ≠ 1 → N' q = N q) ∧ (∀ j, j ≠ 92 → N' 1 j = zlog (N 1) h x1 x2 x3 j) := by
  have e := tells_loop (x1 := x1) (x2 := x2) (x3 := x3) (N := N) 236 6000 (by omega) (by omega)
  rw [zsh_0] at e
  refine ⟨_, by rw [f_X11_tells]; exact e.trans (by rw [b_X11_tells_39, zck_t (by decide), znm_e, zck_t (by decide), znm_e, zck_t (by decide), znm_e, zck_t (by decide), znm_e, zck_t (by decide), znm_e]), fun q hq => ?_, fun j hj => ?_⟩
  · rw [zu_row hq, zu_row hq, zu_row hq, zu_row hq]; funext j; unfold zsh; rw [if_neg (by omega)]
  · have y12 : ∀ Z : zM, Z 1 (12 : Int32).toNatClampNeg = Z 1 12 := fun _ => rfl
    have y93 : (93 : Int32).toNatClampNeg = 93 := rfl
    have y94 : (94 : Int32).toNatClampNeg = 94 := rfl
    have y95 : (95 : Int32).toNatClampNeg = 95 := rfl
    have y12' : (12 : Int32).toNatClampNeg = 12 := rfl
    rw [y93, y94, y95, y12']
    have e12 : zu (zu (zu (zsh N 4) 1 93 x1) 1 94 x2) 1 95 x3 1 12 = N 1 12 := by
      rw [zu_at, if_neg (by omega), zu_at, if_neg (by omega), zu_at, if_neg (by omega)]; unfold zsh; rw [if_neg (by omega)]
    rw [e12, zu_at, zu_at, zu_at, zu_at]
    unfold zlog zsh
    by_cases h12 : j = 12
    · subst h12; simp
    · by_cases h95 : j = 95
      · subst h95; simp
      · by_cases h94 : j = 94
        · subst h94; simp
        · by_cases h93 : j = 93
          · subst h93; simp
          · by_cases h96 : 96 ≤ j ∧ j < 332
            · simp [h12, h95, h94, h93, hj, h96]
            · simp [h12, h95, h94, h93, hj]
end
