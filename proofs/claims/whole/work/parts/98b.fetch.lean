section
variable {t : Nat} {M N : zM}
theorem s_come {T : Int} {k : Nat} (hx : xw k) (hw : zWr T M k (N 1)) (ok : zOk (N 1)) (hl : zLk M (N 1)) {m p : Nat} (hm : m < 6) (hp : p < 12) : ∃ a b, f_X8_hoursOfMonk M k (nI m) (nI p) = some a ∧ f_X11_comesTo N (nI m) (nI p) = some b ∧ zWy a b := by
  obtain ⟨q, hq, q2⟩ := ok.mp hm 0 (by omega)
  have hpc := ok.m hm (c := 2) (by omega)
  have hpc4 : (N 1 (38 + 5 * m + 2)).toInt ≤ 4 := hpc.2
  obtain ⟨P, P1, P2⟩ := nI_get hpc.1
  have c4 := ok.c4
  obtain ⟨X, X1, X2⟩ := nI_get c4.1
  obtain ⟨a, b, c1, c2, c3⟩ := s_ways hw ok hl (dp := 1) (by decide) (show P ≤ 4 by omega) hq hp (show X < 1000000 by omega)
  have m0 : f_X9_monkCell M k (nI m) 0 = some (nI q) := by rw [show (0 : Int32) = nI 0 from rfl, x_monkCell hw hm (by omega), q2]
  have m2 : f_X9_monkCell M k (nI m) 2 = some (nI P) := by rw [show (2 : Int32) = nI 2 from rfl, x_monkCell hw hm (by omega), P2]
  have r0 : f_X11_of N (nI m) 0 = some (nI q) := by rw [show (0 : Int32) = nI 0 from rfl, r_of hm (by omega), q2]
  have r2 : f_X11_of N (nI m) 2 = some (nI P) := by rw [show (2 : Int32) = nI 2 from rfl, r_of hm (by omega), P2]
  have y4 : (N 1 (4 : Int32).toNatClampNeg) = N 1 4 := rfl
  refine ⟨a, b, ?_, ?_, c3⟩
  · rw [f_X8_hoursOfMonk, m0, zbn_s, m2, zbn_s, hw.hour, X2, c1, zbn_s]
  · rw [f_X11_comesTo, r0, zbn_s, r2, zbn_s, zck_t (by decide), y4, X2, c2, zbn_s]
theorem fetch_loop (h : zRel t M N) (hl : zLk M (N 1)) {q p D : Nat} (hq : q < 6) (hp : p < 12) (hp2 : N 1 (38 + 5 * q + 0) = nI p) (hD : N 1 0 = nI D) (hD6 : D ≤ 6) : ∀ (d i n j : Nat) (u f l : Int32), i + d = D → d < n → d < j → ((f = 61 ∧ l = 1000000) ∨ (f = l ∧ f.toInt ≤ 60)) → ∃ v', b_X10_fetch_48 M (nI q) (nI p) n u f (nI i) = some (M, .inr v') ∧ b_X11_fetch_39 N (nI q) j u l (nI i) = some (v', N) := by
  intro d
  have lm : (1000000 : Int32).toInt = 1000000 := rfl
  have l61 : (61 : Int32).toInt = 61 := rfl
  induction d with
  | zero =>
    intro i n j u f l hi hn hj hfl
    obtain ⟨n, rfl⟩ : ∃ k, n = k + 1 := ⟨n - 1, by omega⟩
    obtain ⟨j, rfl⟩ : ∃ k, j = k + 1 := ⟨j - 1, by omega⟩
    have e : i = D := by omega
    subst e
    have hle : nI i ≤ nI i := by rw [i_le]; omega
    exact ⟨u, by rw [b_X10_fetch_48, h.w.monks, hD, if_pos hle], by rw [b_X11_fetch_39, r_monks, zbn_s, hD, if_pos hle]⟩
  | succ d ih =>
    intro i n j u f l hi hn hj hfl
    obtain ⟨n, rfl⟩ : ∃ k, n = k + 1 := ⟨n - 1, by omega⟩
    obtain ⟨j, rfl⟩ : ∃ k, j = k + 1 := ⟨j - 1, by omega⟩
    have hi6 : i < 6 := by omega
    have hle : ¬ nI D ≤ nI i := by rw [nI_leN (by omega) (by omega)]; omega
    have hl6 : l.toInt ≤ 1000000 := by rcases hfl with ⟨z1, z2⟩ | ⟨z1, z2⟩ <;> rw [i_eq] at * <;> omega
    have x114 : ∀ u' f', b_X10_fetch_114 (fun x3 x4 x5 => b_X10_fetch_48 M (nI q) (nI p) n x3 x4 x5) M (nI q) (nI p) u' f' (nI i) = b_X10_fetch_48 M (nI q) (nI p) n u' f' (nI (i + 1)) := fun u' f' => by rw [b_X10_fetch_114, znm_e, nI_p1]
    have r81 : ∀ t0 : Int32, b_X11_fetch_81 (fun x2 x3 x4 => b_X11_fetch_39 N (nI q) j x2 x3 x4) N (nI q) u l (nI i) t0 = if l ≤ t0 then b_X11_fetch_39 N (nI q) j u l (nI (i + 1)) else b_X11_fetch_39 N (nI q) j (nI i) t0 (nI (i + 1)) := by
      intro t0
      rw [b_X11_fetch_81, b_X11_fetch_95, b_X11_fetch_95, znm_e, znm_e, znm_e, znm_e, nI_p1]
      by_cases z : l ≤ t0
      · rw [if_pos z, if_pos z, if_neg (by rw [i_lt]; rw [i_le] at z; omega)]
      · rw [if_neg z, if_neg z, if_pos (by rw [i_lt]; rw [i_le] at z; omega)]
    have r63 : b_X11_fetch_63 (fun x2 x3 x4 => b_X11_fetch_39 N (nI q) j x2 x3 x4) N (nI q) u l (nI i) = b_X11_fetch_39 N (nI q) j u l (nI (i + 1)) := by
      rw [b_X11_fetch_63, r81, if_pos (by rw [i_le, lm]; exact hl6)]
    have skip : ∃ v', b_X10_fetch_48 M (nI q) (nI p) n u f (nI (i + 1)) = some (M, .inr v') ∧ b_X11_fetch_39 N (nI q) j u l (nI (i + 1)) = some (v', N) := ih (i + 1) n j u f l (by omega) (by omega) (by omega) hfl
    have rof : f_X11_of N (nI q) 0 = some (nI p) := by rw [show (0 : Int32) = nI 0 from rfl, r_of hq (by omega), hp2]
    by_cases qi : i = q
    · have e : nI i = nI q := by rw [qi]
      rw [b_X10_fetch_48, h.w.monks, hD, if_neg hle, if_pos e, x114, b_X11_fetch_39, r_monks, zbn_s, hD, if_neg hle, if_pos e, r63]
      exact skip
    · have e : ¬ nI i = nI q := fun z => qi (by rw [i_eq, i_nI (by omega), i_nI (by omega)] at z; omega)
      have hX : b_X10_fetch_48 M (nI q) (nI p) (n + 1) u f (nI i) = zbn (f_X9_isDrowned M 3 (nI i)) (fun u_2 => if u_2 = 0 then (zbn (f_X8_hoursOfMonk M 3 (nI i) (nI p)) (fun u_3 => if u_3 = ((-1)) then b_X10_fetch_48 M (nI q) (nI p) n u f (nI (i + 1)) else (if f ≤ u_3 then b_X10_fetch_48 M (nI q) (nI p) n u f (nI (i + 1)) else b_X10_fetch_48 M (nI q) (nI p) n (nI i) u_3 (nI (i + 1))))) else b_X10_fetch_48 M (nI q) (nI p) n u f (nI (i + 1))) := by
        rw [b_X10_fetch_48, h.w.monks, hD, if_neg hle, if_neg e]
        simp only [x114]
      have hR : b_X11_fetch_39 N (nI q) (j + 1) u l (nI i) = zbn (f_X11_isDrowned N (nI i)) (fun u_5 => if u_5 = 0 then (zbn (f_X11_of N (nI q) 0) (fun u_6 => zbn (f_X11_comesTo N (nI i) u_6) (fun u_7 => b_X11_fetch_81 (fun x2 x3 x4 => b_X11_fetch_39 N (nI q) j x2 x3 x4) N (nI q) u l (nI i) u_7))) else b_X11_fetch_39 N (nI q) j u l (nI (i + 1))) := by
        rw [b_X11_fetch_39, r_monks, zbn_s, hD, if_neg hle, if_neg e]
        simp only [r63]
      rw [hX, hR, x_isDrowned h.w h.ok hi6, zbn_s, r_isDrowned' h.ok hi6, zbn_s]
      by_cases qd : N 1 (42 + 5 * i) = 0
      · obtain ⟨a, b, c1, c2, c3⟩ := s_come (k := 3) xw_3 h.w h.ok hl hi6 hp
        rw [if_pos qd, if_pos qd, c1, zbn_s, rof, zbn_s, c2, zbn_s, r81]
        rcases c3 with ⟨rfl, b0, b6⟩ | ⟨rfl, rfl⟩
        · rw [if_neg (fun z => by rw [i_eq] at z; have : a.toInt = -1 := z; omega)]
          rcases hfl with ⟨z1, z2⟩ | ⟨z1, z2⟩
          · rw [z1, z2, if_neg (by rw [i_le, l61]; omega), if_neg (by rw [i_le, lm]; omega)]
            exact ih (i + 1) n j (nI i) a a (by omega) (by omega) (by omega) (Or.inr ⟨rfl, b6⟩)
          · rw [← z1]
            by_cases z : f ≤ a
            · rw [if_pos z, if_pos z]; rw [← z1] at skip; exact skip
            · rw [if_neg z, if_neg z]; exact ih (i + 1) n j (nI i) a a (by omega) (by omega) (by omega) (Or.inr ⟨rfl, b6⟩)
        · rw [if_pos rfl, if_pos (by rw [i_le, lm]; exact hl6)]; exact skip
      · rw [if_neg qd, if_neg qd]; exact skip
theorem s_fetch (t : Nat) : zs_fetch (zRel t) (zRel (t + 1)) := by
  intro M N h x1
  have h0 := h.ok.c0
  by_cases hp : 0 ≤ x1.toInt ∧ x1.toInt < (N 1 0).toInt
  · have hpM : 0 ≤ x1.toInt ∧ x1.toInt < (M 3 10).toInt := by rw [h.w.monks]; exact hp
    have hpz : 0 ≤ x1.toInt ∧ x1.toInt < (zu N 0 0 0 1 0).toInt := by rw [zw0]; exact hp
    obtain ⟨m, e1, rfl⟩ := nI_get hp.1
    have hm : m < 6 := by omega
    have rd : f_X11_isDrowned (zu N 0 0 0) (nI m) = some (N 1 (42 + 5 * m)) := by have z := r_isDrowned' (N := zu N 0 0 0) (ok0 h.ok) hm; rw [zw0] at z; exact z
    rcases h.ok.m01 hm with q | q
    · obtain ⟨M', l1, l2, l3⟩ := x_look (k := 3) (by omega) xw_3 h.ok h.w
      have hz := (h.look l2).thr 0
      obtain ⟨D, D1, D2⟩ := nI_get (x := N 1 0) h0.1
      obtain ⟨p, hp12, p2⟩ := h.ok.mp hm 0 (by omega)
      obtain ⟨v, a1, a2⟩ := fetch_loop hz (by rw [zu00_1]; exact l3) hm hp12 (by rw [zw0]; exact p2) (by rw [zw0]; exact D2) (show D ≤ 6 by omega) D 0 6000 6000 (-1) 61 1000000 (by omega) (by omega) (by omega) (Or.inl ⟨rfl, rfl⟩)
      refine zsT_ok (M1 := M') (b := v) (N1 := zu N 0 0 0) ?_ ?_ zu00_c hz.more
      · have m0 : f_X9_monkCell M' 3 (nI m) 0 = some (nI p) := by
          have hw := (h.look l2).w
          rw [show (0 : Int32) = nI 0 from rfl, x_monkCell hw hm (by omega), p2]
        rw [f_X10_fetch, g_mk hpM, zbt_i, x_isDrowned h.w h.ok hm, q, zbn_s, if_pos rfl, l1, zbn_s, m0, zbn_s]; exact a1
      · rw [f_X11_fetch, znm_e, r_noMonk (ok0 h.ok), if_pos hpz, zbn_s, r_thr0, zbn_s, if_pos rfl, rd, q, zbn_s, if_pos rfl]; exact a2
    · refine zsT_ok (M1 := M) (b := -1) (N1 := zu N 0 0 0) ?_ ?_ zu00_c (h.thr 0).more
      · rw [f_X10_fetch, g_mk hpM, zbt_i, x_isDrowned h.w h.ok hm, q, zbn_s, if_neg n10]
      · rw [f_X11_fetch, znm_e, r_noMonk (ok0 h.ok), if_pos hpz, zbn_s, r_thr0, zbn_s, if_pos rfl, rd, q, zbn_s, if_neg n10]
  · have hpM : ¬ (0 ≤ x1.toInt ∧ x1.toInt < (M 3 10).toInt) := by rw [h.w.monks]; exact hp
    have hpz : ¬ (0 ≤ x1.toInt ∧ x1.toInt < (zu N 0 0 0 1 0).toInt) := by rw [zw0]; exact hp
    refine zsT_ex (M1 := M) (k := 0) (b := 0) (N1 := zu N 0 0 1) ?_ ?_ rfl zu00_c (h.thr 1).more
    · rw [f_X10_fetch, g_mkn hpM, zbt_x]
    · rw [f_X11_fetch, znm_e, r_noMonk (ok0 h.ok), if_neg hpz, zbn_s, r_thr1, zbn_s, if_neg n10, zu00_00]
end
