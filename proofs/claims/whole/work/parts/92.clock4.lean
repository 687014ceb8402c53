section
variable {T : Int} {k : Nat}
theorem sWater_e {w w' : Nat → Int32} (h5 : w' 5 = w 5) (h6 : w' 6 = w 6) (h7 : w' 7 = w 7) (h8 : w' 8 = w 8) (x y : Int32) : sWater w' x y = sWater w x y := by
  unfold sWater sRange sStep; rw [h5, h6, h7, h8]
def zGr (N N' : zM) : Prop := ∀ d : Nat, d < 6 → N 1 (71 + 4 * d) = 1 → N' 1 (71 + 4 * d) = 1
theorem zGr.refl {N : zM} : zGr N N := fun _ _ h => h
theorem zGr.trans {N N' N'' : zM} (h : zGr N N') (h' : zGr N' N'') : zGr N N'' := fun d hd z => h' d hd (h d hd z)
theorem zGr.same {N N' : zM} (h : ∀ d : Nat, d < 6 → N' 1 (71 + 4 * d) = N 1 (71 + 4 * d)) : zGr N N' := fun d hd z => by rw [h d hd]; exact z
def zPk (j : Nat) : Prop := j = 12 ∨ (71 ≤ j ∧ j < 332)
theorem zPk_ok : ∀ j, zPk j → 4 ≤ j ∧ j < 332 := fun j h => by unfold zPk at h; omega
theorem zPl_k : ∀ j, zPl j → zPk j := fun j h => by unfold zPl at h; unfold zPk; omega
theorem keep_loop (hk : k + 6 ≤ 21) (hx : xw k) (hT : T ≤ 1999990) {D B : Nat} (hD6 : D ≤ 6) (hB6 : B ≤ 6) {mv : Int32} : ∀ (d i n j : Nat) (M N : zM), i + d = D → d < n → d < j → zLxp (T + i) k M N → N 1 1 = nI D → N 1 0 = nI B → (∀ p, p < 12 → (tb mv p = true ↔ zHm (N 1) B p)) → ∃ M' N', b_X0_keepAll_39 k mv n M (nI i) = some M' ∧ b_X11_oneHour_78 j N (nI i) = b_X11_oneHour_97 N' ∧ zLxp (T + D) k M' N' ∧ zCf k zPk M M' N N' ∧ zGr N N' := by
  intro d
  induction d with
  | zero =>
    intro i n j M N hi hn hj h hD hB hmv
    obtain ⟨n, rfl⟩ : ∃ k, n = k + 1 := ⟨n - 1, by omega⟩
    obtain ⟨j, rfl⟩ : ∃ k, j = k + 1 := ⟨j - 1, by omega⟩
    have e : i = D := by omega
    subst e
    have hle : nI i ≤ nI i := by rw [i_le]; omega
    exact ⟨M, N, by rw [b_X0_keepAll_39, h.1.duties, hD, if_pos hle], by rw [b_X11_oneHour_78, r_duties, zbn_s, hD, if_pos hle], h, zCf.refl, zGr.refl⟩
  | succ d ih =>
    intro i n j M N hi hn hj h hD hB hmv
    obtain ⟨n, rfl⟩ : ∃ k, n = k + 1 := ⟨n - 1, by omega⟩
    obtain ⟨j, rfl⟩ : ∃ k, j = k + 1 := ⟨j - 1, by omega⟩
    have hi6 : i < 6 := by omega
    have hle : ¬ nI D ≤ nI i := by rw [nI_leN (by omega) (by omega)]; omega
    have next : ∀ (M1 N1 : zM), zLxp (T + ((i + 1 : Nat) : Int)) k M1 N1 → zCf k zPk M M1 N N1 → zGr N N1 → ∃ M' N', b_X0_keepAll_39 k mv n M1 (nI (i + 1)) = some M' ∧ b_X11_oneHour_78 j N1 (nI (i + 1)) = b_X11_oneHour_97 N' ∧ zLxp (T + D) k M' N' ∧ zCf k zPk M M' N N' ∧ zGr N N' := by
      intro M1 N1 h1 c g
      have e : ∀ q, q < 71 → q ≠ 12 → N1 1 q = N 1 q := fun q hq hn => c.2.2.2 q (by unfold zPk; omega)
      obtain ⟨M', N', a1, a2, a3, a4, a5⟩ := ih (i + 1) n j M1 N1 (by omega) (by omega) (by omega) h1 (by rw [e 1 (by omega) (by omega)]; exact hD) (by rw [e 0 (by omega) (by omega)]; exact hB) (fun p hp => by
        rw [hmv p hp]
        have eq : ∀ m, m < B → (N1 1 (42 + 5 * m) = N 1 (42 + 5 * m) ∧ N1 1 (38 + 5 * m + 0) = N 1 (38 + 5 * m + 0)) := fun m hm => ⟨e _ (by omega) (by omega), e _ (by omega) (by omega)⟩
        constructor
        · rintro ⟨m, h1, h2, h3⟩; exact ⟨m, h1, by rw [(eq m h1).1]; exact h2, by rw [(eq m h1).2]; exact h3⟩
        · rintro ⟨m, h1, h2, h3⟩; exact ⟨m, h1, by rw [← (eq m h1).1]; exact h2, by rw [← (eq m h1).2]; exact h3⟩)
      exact ⟨M', N', a1, a2, a3, c.trans a4, g.trans a5⟩
    have h' : zLxp (T + ((i + 1 : Nat) : Int)) k M N := ⟨h.1.more (by omega), h.2⟩
    obtain ⟨hw, ok, hl⟩ := h
    have dp := ok.d hi6 (c := 0) (by omega)
    have dp11 : (N 1 (68 + 4 * i + 0)).toInt ≤ 11 := dp.2
    obtain ⟨p, p1, p2⟩ := nI_get dp.1
    have hp12 : p < 12 := by omega
    have x0 : f_X9_dutyCell M k (nI i) 0 = some (nI p) := by rw [show (0 : Int32) = nI 0 from rfl, x_dutyCell hx.2.2.2.1 hw hi6 (by omega), p2]
    have x1 : f_X9_dutyCell M k (nI i) 1 = some (N 1 (68 + 4 * i + 1)) := by rw [show (1 : Int32) = nI 1 from rfl, x_dutyCell hx.2.2.2.1 hw hi6 (by omega)]
    have x2 : f_X9_dutyCell M k (nI i) 2 = some (N 1 (68 + 4 * i + 2)) := by rw [show (2 : Int32) = nI 2 from rfl, x_dutyCell hx.2.2.2.1 hw hi6 (by omega)]
    have r0 : f_X11_ofDuty N (nI i) 0 = some (nI p) := by rw [show (0 : Int32) = nI 0 from rfl, r_ofDuty hi6 (by omega), p2]
    have r1 : f_X11_ofDuty N (nI i) 1 = some (N 1 (68 + 4 * i + 1)) := by rw [show (1 : Int32) = nI 1 from rfl, r_ofDuty hi6 (by omega)]
    have r2 : f_X11_ofDuty N (nI i) 2 = some (N 1 (68 + 4 * i + 2)) := by rw [show (2 : Int32) = nI 2 from rfl, r_ofDuty hi6 (by omega)]
    have xk : f_X9_isKept M k (nI i) = some (N 1 (71 + 4 * i)) := x_isKept hw ok hi6
    have rk : f_X11_isKept N (nI i) = some (N 1 (71 + 4 * i)) := r_isKept' ok hi6
    obtain ⟨hv, hv1, hv2⟩ := r_hasMonk ok hB hB6 hp12
    have y4 : N 1 (4 : Int32).toNatClampNeg = N 1 4 := rfl
    have c131 : ∀ Z, b_X0_keepAll_131 (fun M x2 => b_X0_keepAll_39 k mv n M x2) k Z mv (nI i) = b_X0_keepAll_39 k mv n Z (nI (i + 1)) := fun Z => by rw [b_X0_keepAll_131, znm_e, nI_p1]
    have hX : b_X0_keepAll_39 k mv (n + 1) M (nI i) = (if N 1 4 < N 1 (68 + 4 * i + 1) then b_X0_keepAll_39 k mv n M (nI (i + 1)) else (if N 1 (68 + 4 * i + 2) < N 1 4 then b_X0_keepAll_39 k mv n M (nI (i + 1)) else (b_X0_keepAll_85 (fun M x2 => b_X0_keepAll_39 k mv n M x2) k M mv (nI i) (nI p) 1))) := by
      rw [b_X0_keepAll_39, hw.duties, hD, if_neg hle, x0, zbn_s, x1, zbn_s, x2, zbn_s, hw.hour, b_X0_keepAll_84, b_X0_keepAll_85, if_pos rfl, c131]
    have hR : b_X11_oneHour_78 (j + 1) N (nI i) = zbn (f_X11_keeps N (nI i)) (fun u_19 => b_X11_oneHour_78 j u_19 (nI (i + 1))) := by
      rw [b_X11_oneHour_78, r_duties, zbn_s, hD, if_neg hle]
      simp only [znm_e, nI_p1]
    have hskip : ∀ (N1 : zM), f_X11_keeps N (nI i) = some N1 → b_X11_oneHour_78 (j + 1) N (nI i) = b_X11_oneHour_78 j N1 (nI (i + 1)) := fun N1 e => by rw [hR, e, zbn_s]
    have kN : ∀ u, f_X11_in N (N 1 4) (N 1 (68 + 4 * i + 1)) (N 1 (68 + 4 * i + 2)) = some u → f_X11_keeps N (nI i) = (if N 1 (71 + 4 * i) = 0 then (if u = 0 then some N else (if hv = 0 then (some N) else (zbn (f_X11_dutyAt N (nI i) 3) (fun u_7 => zck (zin u_7 2030) (znm (zu N 1 (u_7 : Int32).toNatClampNeg 1) (fun M_8 => zbn (f_X11_ofDuty M_8 (nI i) 0) (fun u_9 => zbn (f_X11_tells M_8 (nI i) 0 u_9) (fun u_10 => zck (zin 4 2030) (zck (zin 92 2030) (znm (zu u_10 1 (92 : Int32).toNatClampNeg (u_10 1 (4 : Int32).toNatClampNeg)) (fun M_11 => some M_11))))))))))) else (some N)) := by
      intro u hu
      rw [f_X11_keeps, rk, zbn_s, zck_t (by decide), r1, zbn_s, r2, zbn_s, y4, hu, zbn_s, r0, zbn_s, hv1, zbn_s]
    have hin := r_in (N := N) (x := N 1 4) (a := N 1 (68 + 4 * i + 1)) (b := N 1 (68 + 4 * i + 2))
    have skipR : ¬ ((N 1 (68 + 4 * i + 1)).toInt ≤ (N 1 4).toInt ∧ (N 1 4).toInt ≤ (N 1 (68 + 4 * i + 2)).toInt) → f_X11_keeps N (nI i) = some N := by
      intro hh
      rw [if_neg hh] at hin
      rw [kN 0 hin, if_pos rfl]; split <;> rfl
    by_cases qf : N 1 4 < N 1 (68 + 4 * i + 1)
    · rw [hX, if_pos qf, hskip N (skipR (by rw [i_lt] at qf; omega))]
      exact next M N h' zCf.refl zGr.refl
    by_cases qt : N 1 (68 + 4 * i + 2) < N 1 4
    · rw [hX, if_neg qf, if_pos qt, hskip N (skipR (by rw [i_lt] at qt; omega))]
      exact next M N h' zCf.refl zGr.refl
    rw [hX, if_neg qf, if_neg qt, b_X0_keepAll_85, if_neg n10, xk, zbn_s]
    have hyes : (N 1 (68 + 4 * i + 1)).toInt ≤ (N 1 4).toInt ∧ (N 1 4).toInt ≤ (N 1 (68 + 4 * i + 2)).toInt := by rw [i_lt] at qf qt; omega
    rw [if_pos hyes] at hin
    have kN1 := kN 1 hin
    rcases ok.k01 hi6 with qk | qk
    · rw [if_pos qk, x_has _ (show p < 32 by omega), zbn_s]
      rw [if_pos qk, if_neg n10] at kN1
      by_cases qh : zHm (N 1) B p
      · have htb : tb mv p = true := (hmv p hp12).mpr qh
        have hv0 : ¬ hv = 0 := fun z => (hv2.mp z) qh
        rw [if_neg hv0] at kN1
        rw [htb, if_neg (by decide), znm_e]
        have okK : zOk (upd (N 1) (71 + 4 * i) 1) := by
          refine ok.put ?_ (by omega) (by omega) (by omega) (by omega) (fun m hm hm6 => by omega) (fun m hm _ hle2 => ?_)
          · have := zlo_d hi6 (c := 3) (by omega)
            rw [show 68 + 4 * i + 3 = 71 + 4 * i by omega] at this
            rw [this.1, this.2]; decide
          · rw [hD, i_nI (by omega)] at hle2; omega
        have e8 : zu N 1 (71 + 4 * i) 1 1 = upd (N 1) (71 + 4 * i) 1 := zu_self
        have wK : zWr (T + i) (zu M k 13 (M k 13 ||| ((1 : Int32) <<< (nI i &&& 31)))) k (zu N 1 (71 + 4 * i) 1 1) := by
          rw [e8]; exact hw.putK hi6 (fun j hj => by rw [tb_set _ (by omega)]; rfl)
        obtain ⟨M', N1, s1, s2, s3, s4, s5, s6⟩ := s_row (x1 := N 1 4) (x2 := nI i) (x3 := 0) (x4 := nI p) hk hx (by omega) wK (by rw [e8]; exact okK) ok.c4 (by rw [i_nI (by omega)]; omega) (by decide) (by rw [i_nI (by omega)]; omega)
        have cK : zCf k zPk M (zu M k 13 (M k 13 ||| ((1 : Int32) <<< (nI i &&& 31)))) N (zu N 1 (71 + 4 * i) 1) := zCf.set hk (by omega) (by unfold zPk; omega)
        have cA := cK.trans (s6.mono zPl_k)
        have u4 : N1 1 (4 : Int32).toNatClampNeg = N 1 4 := by
          have := s3 4 (by omega) (by omega)
          rw [e8, upd_at, if_neg (by omega)] at this
          exact this
        have kr : f_X11_keeps N (nI i) = some (zu N1 1 92 (N 1 4)) := by
          have r8 : f_X11_ofDuty (zu N 1 (71 + 4 * i) 1) (nI i) 0 = some (nI p) := by rw [show (0 : Int32) = nI 0 from rfl, r_ofDuty hi6 (by omega), e8, upd_at, if_neg (by omega), p2]
          rw [kN1, show (3 : Int32) = nI 3 from rfl, r_dutyAt, zbn_s, zck_t (nI_lt_i (by omega) (by omega)), nI_cl (by omega), znm_e, show 68 + 4 * i + 3 = 71 + 4 * i by omega, r8, zbn_s, s2, zbn_s, zck_t (by decide), zck_t (by decide), znm_e, u4]
          rfl
        rw [hskip _ kr]
        have xrow : f_X9_addRow (zu M k 13 (M k 13 ||| ((1 : Int32) <<< (nI i &&& 31)))) k (zu M k 13 (M k 13 ||| ((1 : Int32) <<< (nI i &&& 31))) k 0) (nI i) 0 (nI p) = some M' := by
          rw [zu_at, if_neg (by omega), hw.hour]; exact s1
        rw [xrow, zbn_s, c131]
        refine next M' _ ⟨by rw [show T + ((i + 1 : Nat) : Int) = T + i + 1 by omega]; exact s4, s5, zLxp.law hk zPk_ok hl cA⟩ cA (fun d hd z => ?_)
        have hq : zu N1 1 92 (N 1 4) 1 (71 + 4 * d) = upd (N 1) (71 + 4 * i) 1 (71 + 4 * d) := by
          rw [zu_self, upd_at, if_neg (by omega), s3 _ (by omega) (by omega), e8]
        rw [hq, upd_at]
        split
        · rfl
        · exact z
      · have htb : tb mv p = false := by
          cases hh : tb mv p with
          | true => exact absurd ((hmv p hp12).mp hh) qh
          | false => rfl
        rw [if_pos (hv2.mpr qh)] at kN1
        rw [htb, if_pos (by decide), c131, hskip N kN1]
        exact next M N h' zCf.refl zGr.refl
    · have qk' : ¬ N 1 (71 + 4 * i) = 0 := by rw [qk]; decide
      rw [if_neg qk', c131]
      rw [if_neg qk'] at kN1
      rw [hskip N kN1]
      exact next M N h' zCf.refl zGr.refl
def zPd (j : Nat) : Prop := j = 12 ∨ (38 ≤ j ∧ j < 68) ∨ (92 ≤ j ∧ j < 332)
theorem zPd_ok : ∀ j, zPd j → 4 ≤ j ∧ j < 332 := fun j h => by unfold zPd at h; omega
theorem zPl_d : ∀ j, zPl j → zPd j := fun j h => by unfold zPl at h; unfold zPd; omega
theorem drown_loop (hk : k + 6 ≤ 21) (hx : xw k) (hT : T ≤ 1999990) {B : Nat} (hB6 : B ≤ 6) {was wt : Int32} (hwas : 0 ≤ was.toInt ∧ was.toInt ≤ 9999) : ∀ (d i n j : Nat) (M N : zM), i + d = B → d < n → d < j → zLxp (T + i) k M N → N 1 0 = nI B → wt = sWater (N 1) (N 1 4) (N 1 9) → ∃ M' N', b_X0_drownAll_12 k 21 was wt n M (nI i) = some M' ∧ b_X11_oneHour_121 was j N (nI i) = some N' ∧ zLxp (T + B) k M' N' ∧ zCf k zPd M M' N N' := by
  intro d
  induction d with
  | zero =>
    intro i n j M N hi hn hj h hB hw
    obtain ⟨n, rfl⟩ : ∃ k, n = k + 1 := ⟨n - 1, by omega⟩
    obtain ⟨j, rfl⟩ : ∃ k, j = k + 1 := ⟨j - 1, by omega⟩
    have e : i = B := by omega
    subst e
    have hle : nI i ≤ nI i := by rw [i_le]; omega
    exact ⟨M, N, by rw [b_X0_drownAll_12, h.1.monks, hB, if_pos hle], by rw [b_X11_oneHour_121, r_monks, zbn_s, hB, if_pos hle], h, zCf.refl⟩
  | succ d ih =>
    intro i n j M N hi hn hj h hB hw
    obtain ⟨n, rfl⟩ : ∃ k, n = k + 1 := ⟨n - 1, by omega⟩
    obtain ⟨j, rfl⟩ : ∃ k, j = k + 1 := ⟨j - 1, by omega⟩
    have hi6 : i < 6 := by omega
    have hle : ¬ nI B ≤ nI i := by rw [nI_leN (by omega) (by omega)]; omega
    have next : ∀ (M1 N1 : zM), zLxp (T + ((i + 1 : Nat) : Int)) k M1 N1 → zCf k zPd M M1 N N1 → ∃ M' N', b_X0_drownAll_12 k 21 was wt n M1 (nI (i + 1)) = some M' ∧ b_X11_oneHour_121 was j N1 (nI (i + 1)) = some N' ∧ zLxp (T + B) k M' N' ∧ zCf k zPd M M' N N' := by
      intro M1 N1 h1 c
      have e : ∀ q, q < 38 → q ≠ 12 → N1 1 q = N 1 q := fun q hq hn => c.2.2.2 q (by unfold zPd; omega)
      obtain ⟨M', N', a1, a2, a3, a4⟩ := ih (i + 1) n j M1 N1 (by omega) (by omega) (by omega) h1 (by rw [e 0 (by omega) (by omega)]; exact hB) (by rw [sWater_e (e 5 (by omega) (by omega)) (e 6 (by omega) (by omega)) (e 7 (by omega) (by omega)) (e 8 (by omega) (by omega)), e 4 (by omega) (by omega), e 9 (by omega) (by omega)]; exact hw)
      exact ⟨M', N', a1, a2, a3, c.trans a4⟩
    have up : ∀ {M1 N1 : zM}, zLxp (T + i) k M1 N1 → zLxp (T + ((i + 1 : Nat) : Int)) k M1 N1 := fun h => ⟨h.1.more (by omega), h.2⟩
    have hh := h
    obtain ⟨hW, ok, hl⟩ := hh
    obtain ⟨p, hp, p2⟩ := ok.mp hi6 0 (by omega)
    have hwi := sWater_i ok (x := N 1 4) (wind := N 1 9) ok.c4.1 ok.c9
    have m0 : f_X9_monkCell M k (nI i) 0 = some (nI p) := by rw [show (0 : Int32) = nI 0 from rfl, x_monkCell hW hi6 (by omega), p2]
    have r0 : f_X11_of N (nI i) 0 = some (nI p) := by rw [show (0 : Int32) = nI 0 from rfl, r_of hi6 (by omega), p2]
    have dX : f_X9_isDrowned M k (nI i) = some (N 1 (42 + 5 * i)) := x_isDrowned hW ok hi6
    have dR : f_X11_isDrowned N (nI i) = some (N 1 (42 + 5 * i)) := r_isDrowned' ok hi6
    have xd : f_X9_depthBy M k wt (nI p) = some (sDepth (N 1) p (N 1 4)) := by rw [hw, x_depthBy hW ok (by omega) hp]; rfl
    have c82 : ∀ Z, b_X0_drownAll_82 (fun M x4 => b_X0_drownAll_12 k 21 was wt n M x4) k 21 Z was wt (nI i) = b_X0_drownAll_12 k 21 was wt n Z (nI (i + 1)) := fun Z => by rw [b_X0_drownAll_82, znm_e, nI_p1]
    have c191 : ∀ Z, b_X11_oneHour_191 (fun M x3 => b_X11_oneHour_121 was j M x3) Z was (nI i) = b_X11_oneHour_121 was j Z (nI (i + 1)) := fun Z => by rw [b_X11_oneHour_191, znm_e, nI_p1]
    by_cases qd : N 1 (42 + 5 * i) = 0
    · obtain ⟨wd, M1, N1, a1, a2, a3, a4, a5⟩ := s_wades hk hx h hw hi6
      have h1 : zLxp (T + i) k M1 N1 := h.fr hk a4 a5
      have e1 : N1 1 = N 1 := a5 1 (by decide)
      have c1 : zCf k zPd M M1 N N1 := zCf.law a4 a5
      have hX : b_X0_drownAll_12 k 21 was wt (n + 1) M (nI i) = (if sDepth (N 1) p (N 1 4) ≤ wd + 3 then b_X0_drownAll_12 k 21 was wt n M1 (nI (i + 1)) else (zbn (f_X9_addRow (zu M1 k 12 ((M1 k 12) ||| ((1 : Int32) <<< (nI i &&& 31)))) k was (nI i) 1 (nI p)) (fun u_7 => b_X0_drownAll_12 k 21 was wt n u_7 (nI (i + 1))))) := by
        rw [b_X0_drownAll_12, hW.monks, hB, if_neg hle, m0, zbn_s, dX, zbn_s, if_pos qd, xd, zbn_s, a1, zbn_s, znm_e]
        simp only [c82]
      have hR : b_X11_oneHour_121 was (j + 1) N (nI i) = (if wd + 3 < sDepth (N 1) p (N 1 4) then (zbn (f_X11_monkAt N1 (nI i) 4) (fun u_7 => zck (zin u_7 2030) (znm (zu N1 1 (u_7 : Int32).toNatClampNeg 1) (fun M_8 => zbn (f_X11_of M_8 (nI i) 0) (fun u_9 => zbn (f_X11_tells M_8 (nI i) 1 u_9) (fun u_10 => zck (zin 92 2030) (znm (zu u_10 1 (92 : Int32).toNatClampNeg was) (fun M_11 => b_X11_oneHour_121 was j M_11 (nI (i + 1)))))))))) else b_X11_oneHour_121 was j N1 (nI (i + 1))) := by
        rw [b_X11_oneHour_121, r_monks, zbn_s, hB, if_neg hle, dR, zbn_s, if_pos qd, r0, zbn_s, r_depthNow ok hp, zbn_s, a2, zbn_s]
        simp only [c191]
      rw [hX, hR, lt_ite]
      by_cases q : wd + 3 < sDepth (N 1) p (N 1 4)
      · rw [if_pos q, if_pos q]
        have okK : zOk (upd (N1 1) (42 + 5 * i) 1) := by
          refine h1.2.1.put ?_ (by omega) (by omega) (by omega) (by omega) (fun m hm _ hle2 => ?_) (fun m hm hm6 => by omega)
          · have := zlo_m hi6 (c := 4) (by omega)
            rw [show 38 + 5 * i + 4 = 42 + 5 * i by omega] at this
            rw [this.1, this.2]; decide
          · rw [e1, hB, i_nI (by omega)] at hle2; omega
        have e8 : zu N1 1 (42 + 5 * i) 1 1 = upd (N1 1) (42 + 5 * i) 1 := zu_self
        have wK : zWr (T + i) (zu M1 k 12 (M1 k 12 ||| ((1 : Int32) <<< (nI i &&& 31)))) k (zu N1 1 (42 + 5 * i) 1 1) := by
          rw [e8]; exact h1.1.putW hi6 (fun j hj => by rw [tb_set _ (by omega)]; rfl)
        obtain ⟨M', N2, s1, s2, s3, s4, s5, s6⟩ := s_row (x1 := was) (x2 := nI i) (x3 := 1) (x4 := nI p) hk hx (by omega) wK (by rw [e8]; exact okK) hwas (by rw [i_nI (by omega)]; omega) (by decide) (by rw [i_nI (by omega)]; omega)
        have cK : zCf k zPd M1 (zu M1 k 12 (M1 k 12 ||| ((1 : Int32) <<< (nI i &&& 31)))) N1 (zu N1 1 (42 + 5 * i) 1) := zCf.set hk (by omega) (by unfold zPd; omega)
        have cA := (c1.trans cK).trans (s6.mono zPl_d)
        have r8 : f_X11_of (zu N1 1 (42 + 5 * i) 1) (nI i) 0 = some (nI p) := by rw [show (0 : Int32) = nI 0 from rfl, r_of hi6 (by omega), e8, upd_at, if_neg (by omega), e1, p2]
        rw [s1, zbn_s, show (4 : Int32) = nI 4 from rfl, r_monkAt, zbn_s, zck_t (nI_lt_i (by omega) (by omega)), nI_cl (by omega), znm_e, show 38 + 5 * i + 4 = 42 + 5 * i by omega, r8, zbn_s, s2, zbn_s, zck_t (by decide), znm_e]
        exact next M' _ ⟨by rw [show T + ((i + 1 : Nat) : Int) = T + i + 1 by omega]; exact s4, s5, zLxp.law hk zPd_ok hl cA⟩ cA
      · rw [if_neg q, if_neg q]
        exact next M1 N1 (up h1) c1
    · rw [b_X0_drownAll_12, hW.monks, hB, if_neg hle, m0, zbn_s, dX, zbn_s, if_neg qd, c82, b_X11_oneHour_121, r_monks, zbn_s, hB, if_neg hle, dR, zbn_s, if_neg qd, c191]
      exact next M N (up h) zCf.refl
end
