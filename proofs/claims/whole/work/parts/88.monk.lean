section
variable {t : Nat} {M M' N N' : zM}
theorem zRel.lawf (h : zRel t M N) (f : zFr M M') (g : zFn N N') : zRel t M' N' := by
  have h1 : zRel t M' N := h.cls (fun q _ hd hq => f.1 q hq (fun e => by rw [e] at hd; exact absurd hd (by decide))) (f.2 0 (by decide))
  exact h1.ref (g 1 (by decide)) (g 2 (by decide)) (g 5 (by decide)) (g 6 (by decide)) (by rw [g 0 (by decide)]) (by rw [g 0 (by decide)]) (by rw [g 0 (by decide)]) (by rw [g 0 (by decide)])
theorem zRel.lx (h : zRel t M N) : zLxp (1200 * t) 3 M N := ⟨h.w, h.ok, h.law⟩
theorem s_monk (t : Nat) : zs_monk (zRel t) (zRel (t + 1)) := by
  intro M N h x1 x2
  have h0 := h.ok.c0
  have hz := h.thr 0
  have y4 : zu N 0 0 0 1 = N 1 := zu00_1
  by_cases hp : 0 ≤ x1.toInt ∧ x1.toInt < (N 1 0).toInt
  · have hpM : 0 ≤ x1.toInt ∧ x1.toInt < (M 3 10).toInt := by rw [h.w.monks]; exact hp
    have hpz : 0 ≤ x1.toInt ∧ x1.toInt < (zu N 0 0 0 1 0).toInt := by rw [zw0]; exact hp
    obtain ⟨m, e1, rfl⟩ := nI_get hp.1
    have hm : m < 6 := by omega
    have hwt : f_X9_waterIn M 3 (M 3 0) = some (sWater (N 1) (N 1 4) (N 1 9)) := by rw [h.w.hour]; exact x_waterIn h.w h.ok h.ok.c4.1
    have hwz : sWater (N 1) (N 1 4) (N 1 9) = sWater (zu N 0 0 0 1) (zu N 0 0 0 1 4) (zu N 0 0 0 1 9) := by rw [y4]
    have hr : ∀ x2 : Int32, (0 ≤ x2.toInt ∧ x2.toInt ≤ 7) → f_X11_monk N (nI m) x2 = (if x2 = 5 then (zbn (f_X11_wadesBy (zu N 0 0 0) (nI m)) (fun u_3 => some (u_3.1, u_3.2))) else if x2 = 6 then (zbn (f_X11_doesWait (zu N 0 0 0) (nI m)) (fun u_4 => if u_4.1 = 0 then (some (0, u_4.2)) else (some (1, u_4.2)))) else if x2 = 7 then (zbn (f_X11_sumOf (zu N 0 0 0) 2 (nI m)) (fun u_6 => some (u_6.1, u_6.2))) else (zbn (f_X11_of (zu N 0 0 0) (nI m) x2) (fun u_2 => some (u_2, zu N 0 0 0)))) := by
      intro x2 hh
      rw [f_X11_monk, znm_e, r_noMonk (ok0 h.ok), if_pos hpz, zbn_s, r_thr0, zbn_s, if_pos rfl, r_in, if_pos (by exact hh), zbn_s, if_neg n10, b_X11_monk_34, r_thr0, zbn_s, if_pos rfl]
    have hof : ∀ c : Nat, c < 5 → f_X11_monk N (nI m) (nI c) = some (N 1 (38 + 5 * m + c), zu N 0 0 0) := by
      intro c hc
      have ne : ∀ q : Nat, 5 ≤ q → q < 8 → ¬ nI c = nI q := fun q h1 h2 e => by rw [i_eq, i_nI (by omega), i_nI (by omega)] at e; omega
      rw [hr (nI c) (by rw [i_nI (by omega)]; omega), if_neg (by exact ne 5 (by omega) (by omega)), if_neg (by exact ne 6 (by omega) (by omega)), if_neg (by exact ne 7 (by omega) (by omega)), r_of hm hc, zbn_s, zw0]
    have hx : f_X10_monk M (nI m) x2 = (if x2 = 0 then (zbn (f_X9_monkCell M 3 (nI m) 0) (fun u_4 => some (M, .inr u_4))) else if x2 = 1 then (zbn (f_X9_monkCell M 3 (nI m) 1) (fun u_5 => some (M, .inr u_5))) else if x2 = 2 then (zbn (f_X9_monkCell M 3 (nI m) 2) (fun u_6 => some (M, .inr u_6))) else if x2 = 3 then (zbn (f_X9_monkCell M 3 (nI m) 3) (fun u_7 => some (M, .inr u_7))) else if x2 = 4 then (zbn (f_X9_isDrowned M 3 (nI m)) (fun u_8 => if u_8 = 0 then (some (M, .inr 0)) else (some (M, .inr 1)))) else if x2 = 5 then (zbn (f_X3_wades M 21 3 (nI m) (sWater (N 1) (N 1 4) (N 1 9))) (fun u_10 => some (u_10.2, .inr u_10.1))) else if x2 = 6 then (zbn (f_X3_waits M 21 3 (nI m) (sWater (N 1) (N 1 4) (N 1 9))) (fun u_11 => if u_11.1 = 0 then (some (u_11.2, .inr 0)) else (some (u_11.2, .inr 1)))) else if x2 = 7 then (zbn (f_X3_tires M 21 3 (nI m) (sWater (N 1) (N 1 4) (N 1 9))) (fun u_13 => some (u_13.2, .inr u_13.1))) else (some (M, .inl 3))) := by
      rw [f_X10_monk, g_mk hpM, zbt_i, hwt, zbn_s]
    by_cases q0 : x2 = 0
    · subst q0
      refine zsT_ok (M1 := M) ?_ (hof 0 (by omega)) zu00_c hz.more
      rw [hx, if_pos rfl, show (0 : Int32) = nI 0 from rfl, x_monkCell h.w hm (by omega), zbn_s]
    by_cases q1 : x2 = 1
    · subst q1
      refine zsT_ok (M1 := M) ?_ (hof 1 (by omega)) zu00_c hz.more
      rw [hx, if_neg (by decide), if_pos rfl, show (1 : Int32) = nI 1 from rfl, x_monkCell h.w hm (by omega), zbn_s]
    by_cases q2 : x2 = 2
    · subst q2
      refine zsT_ok (M1 := M) ?_ (hof 2 (by omega)) zu00_c hz.more
      rw [hx, if_neg (by decide), if_neg (by decide), if_pos rfl, show (2 : Int32) = nI 2 from rfl, x_monkCell h.w hm (by omega), zbn_s]
    by_cases q3 : x2 = 3
    · subst q3
      refine zsT_ok (M1 := M) ?_ (hof 3 (by omega)) zu00_c hz.more
      rw [hx, if_neg (by decide), if_neg (by decide), if_neg (by decide), if_pos rfl, show (3 : Int32) = nI 3 from rfl, x_monkCell h.w hm (by omega), zbn_s]
    by_cases q4 : x2 = 4
    · subst q4
      refine zsT_ok (M1 := M) ?_ (hof 4 (by omega)) zu00_c hz.more
      rw [hx, if_neg (by decide), if_neg (by decide), if_neg (by decide), if_neg (by decide), if_pos rfl, x_isDrowned h.w h.ok hm, zbn_s, show 38 + 5 * m + 4 = 42 + 5 * m by omega]
      rcases h.ok.m01 hm with q | q <;> rw [q] <;> rfl
    by_cases q5 : x2 = 5
    · subst q5
      obtain ⟨v, M', N', a1, a2, a3, a4, a5⟩ := s_wades (by omega) xw_3 hz.lx hwz hm
      refine zsT_ok (M1 := M') (b := v) (N1 := N') ?_ ?_ (by rw [a5 0 (by decide), zu00_c]) (hz.lawf a4 a5).more
      · rw [hx, if_neg (by decide), if_neg (by decide), if_neg (by decide), if_neg (by decide), if_neg (by decide), if_pos rfl, a1, zbn_s]
      · rw [hr 5 (by decide), if_pos rfl, a2, zbn_s]
    by_cases q6 : x2 = 6
    · subst q6
      obtain ⟨v, M', N', a1, a2, a3, a4, a5⟩ := s_waits (by omega) xw_3 hz.lx hwz hm
      refine zsT_ok (M1 := M') (b := v) (N1 := N') ?_ ?_ (by rw [a5 0 (by decide), zu00_c]) (hz.lawf a4 a5).more
      · rw [hx, if_neg (by decide), if_neg (by decide), if_neg (by decide), if_neg (by decide), if_neg (by decide), if_neg (by decide), if_pos rfl, a1, zbn_s]
        rcases a3 with q | q <;> rw [q] <;> rfl
      · rw [hr 6 (by decide), if_neg (by decide), if_pos rfl, a2, zbn_s]
        rcases a3 with q | q <;> rw [q] <;> rfl
    by_cases q7 : x2 = 7
    · subst q7
      obtain ⟨v, M', N', a1, a2, a3, a4, a5⟩ := s_tires (by omega) xw_3 hz.lx hwz hm
      refine zsT_ok (M1 := M') (b := v) (N1 := N') ?_ ?_ (by rw [a5 0 (by decide), zu00_c]) (hz.lawf a4 a5).more
      · rw [hx, if_neg (by decide), if_neg (by decide), if_neg (by decide), if_neg (by decide), if_neg (by decide), if_neg (by decide), if_neg (by decide), if_pos rfl, a1, zbn_s]
      · rw [hr 7 (by decide), if_neg (by decide), if_neg (by decide), if_pos rfl, a2, zbn_s]
    · refine zsT_ex (M1 := M) (k := 3) (b := 0) (N1 := zu N 0 0 2) ?_ ?_ (Or.inr rfl) zu00_c (h.thr 2).more
      · rw [hx, if_neg q0, if_neg q1, if_neg q2, if_neg q3, if_neg q4, if_neg q5, if_neg q6, if_neg q7]
      · have hr : ¬ ((0 : Int32).toInt ≤ x2.toInt ∧ x2.toInt ≤ (7 : Int32).toInt) := by
          intro hh
          obtain ⟨c, f1, rfl⟩ := nI_get (x := x2) hh.1
          have n3 : ∀ z : Nat, z < 100 → ¬ nI c = nI z → z ≠ c := fun z hz hn e => hn (by rw [e])
          have := n3 0 (by omega) q0; have := n3 1 (by omega) q1; have := n3 2 (by omega) q2; have := n3 3 (by omega) q3
          have := n3 4 (by omega) q4; have := n3 5 (by omega) q5; have := n3 6 (by omega) q6; have := n3 7 (by omega) q7
          have h11 : (c : Int) ≤ 7 := by rw [f1]; exact hh.2
          omega
        rw [f_X11_monk, znm_e, r_noMonk (ok0 h.ok), if_pos hpz, zbn_s, r_thr0, zbn_s, if_pos rfl, r_in, if_neg hr, zbn_s, if_pos rfl, b_X11_monk_34, r_thr1, zbn_s, if_neg n10, zu00_00]
  · have hpM : ¬ (0 ≤ x1.toInt ∧ x1.toInt < (M 3 10).toInt) := by rw [h.w.monks]; exact hp
    have hpz : ¬ (0 ≤ x1.toInt ∧ x1.toInt < (zu N 0 0 0 1 0).toInt) := by rw [zw0]; exact hp
    refine zsT_ex (M1 := M) (k := 0) (b := 0) (N1 := zu N 0 0 1) ?_ ?_ (Or.inl rfl) zu00_c (h.thr 1).more
    · rw [f_X10_monk, g_mkn hpM, zbt_x]
    · rw [f_X11_monk, znm_e, r_noMonk (ok0 h.ok), if_neg hpz, zbn_s, r_thr1, zbn_s, if_neg n10, zu00_00]
def zDeep (w : Nat → Int32) (wd : Int32) (p : Nat) : Prop := ¬ sDepth w p (w 4) ≤ wd
theorem r_deep (ok : zOk (N 1)) {p : Nat} (hp : p < 12) {wd : Int32} : f_X11_isDeep N (nI p) wd = some (if sDepth (N 1) p (N 1 4) ≤ wd then 0 else 1) := by
  rw [f_X11_isDeep, r_noPlace, if_pos (by rw [i_nI (by omega)]; omega), zbn_s, if_pos rfl, r_depthNow ok hp, zbn_s]
  split <;> rfl
theorem r_deepn {x wd : Int32} (hx : ¬ (0 ≤ x.toInt ∧ x.toInt ≤ 11)) : f_X11_isDeep N x wd = some 1 := by
  rw [f_X11_isDeep, r_noPlace, if_neg hx, zbn_s, if_neg n10]
theorem strand_loop {D : Nat} (hD6 : D ≤ 6) {wt : Int32} : ∀ (d i n j : Nat) (M N : zM) (v : Int32), i + d = D → d < n → d < j → zRel t M N → N 1 0 = nI D → wt = sWater (N 1) (N 1 4) (N 1 9) → ∃ v' M' N', b_X10_stranded_19 wt n M v (nI i) = some (v', M') ∧ b_X11_stranded_9 j N v (nI i) = some (v', N') ∧ zRel t M' N' := by
  intro d
  induction d with
  | zero =>
    intro i n j M N v hi hn hj h hD hw
    obtain ⟨n, rfl⟩ : ∃ k, n = k + 1 := ⟨n - 1, by omega⟩
    obtain ⟨j, rfl⟩ : ∃ k, j = k + 1 := ⟨j - 1, by omega⟩
    have e : i = D := by omega
    subst e
    have hle : nI i ≤ nI i := by rw [i_le]; omega
    exact ⟨v, M, N, by rw [b_X10_stranded_19, h.w.monks, hD, if_pos hle], by rw [b_X11_stranded_9, r_monks, zbn_s, hD, if_pos hle], h⟩
  | succ d ih =>
    intro i n j M N v hi hn hj h hD hw
    obtain ⟨n, rfl⟩ : ∃ k, n = k + 1 := ⟨n - 1, by omega⟩
    obtain ⟨j, rfl⟩ : ∃ k, j = k + 1 := ⟨j - 1, by omega⟩
    have hi6 : i < 6 := by omega
    have hle : ¬ nI D ≤ nI i := by rw [nI_leN (by omega) (by omega)]; omega
    have hp := h.ok.m hi6 (c := 0) (by omega)
    have h11 : (N 1 (38 + 5 * i + 0)).toInt ≤ 11 := hp.2
    obtain ⟨p, p1, p2⟩ := nI_get (x := N 1 (38 + 5 * i + 0)) hp.1
    have hp12 : p < 12 := by omega
    have hwi := sWater_i h.ok (x := N 1 4) (wind := N 1 9) h.ok.c4.1 h.ok.c9
    have hwt : 0 ≤ wt.toInt ∧ wt.toInt ≤ 100 := by rw [hw]; omega
    obtain ⟨wd, M1, N1, a1, a2, a3, a4, a5⟩ := s_wades (by omega) xw_3 h.lx hw hi6
    have e1 : N1 1 = N 1 := a5 1 (by decide)
    have hR1 : zRel t M N1 := h.lawf zFr.refl a5
    have hR2 : zRel t M1 N1 := h.lawf a4 a5
    have mc : f_X9_monkCell M 3 (nI i) 0 = some (nI p) := by rw [show (0 : Int32) = nI 0 from rfl, x_monkCell h.w hi6 (by omega), p2]
    have mr : f_X11_of N (nI i) 0 = some (nI p) := by rw [show (0 : Int32) = nI 0 from rfl, r_of hi6 (by omega), p2]
    have dr : f_X11_isDrowned N1 (nI i) = some (N 1 (42 + 5 * i)) := by rw [r_isDrowned' hR1.ok hi6, e1]
    have dn : f_X11_depthNow N1 (nI p) = some (sDepth (N 1) p (N 1 4)) := by rw [r_depthNow hR1.ok hp12, e1]
    have db : ∀ (Z : zM), zWr (1200 * t) Z 3 (N 1) → ∀ q, q < 12 → f_X9_depthBy Z 3 wt (nI q) = some (sDepth (N 1) q (N 1 4)) := fun Z hZ q hq => by rw [hw, x_depthBy hZ h.ok (by omega) hq]; rfl
    have hX : b_X10_stranded_19 wt (n + 1) M v (nI i) = if N 1 (42 + 5 * i) = 0 then (if sDepth (N 1) p (N 1 4) = 0 then (if nI p = 0 then (b_X10_stranded_102 (fun M x2 x3 => b_X10_stranded_19 wt n M x2 x3) M1 wt v (nI i) (nI p) wd) else (zbn (f_X9_depthBy M1 3 wt (nI p - 1)) (fun u_12 => if u_12 ≤ wd then (b_X10_stranded_107 (fun M x2 x3 => b_X10_stranded_19 wt n M x2 x3) M1 wt v (nI i) (nI p) wd 0) else (b_X10_stranded_102 (fun M x2 x3 => b_X10_stranded_19 wt n M x2 x3) M1 wt v (nI i) (nI p) wd)))) else (b_X10_stranded_160 (fun M x2 x3 => b_X10_stranded_19 wt n M x2 x3) M wt v (nI i))) else (b_X10_stranded_160 (fun M x2 x3 => b_X10_stranded_19 wt n M x2 x3) M wt v (nI i)) := by
      rw [b_X10_stranded_19, h.w.monks, hD, if_neg hle, mc, zbn_s, x_isDrowned h.w h.ok hi6, zbn_s, db M h.w p hp12, zbn_s, a1, zbn_s]
    have hRr : b_X11_stranded_9 (j + 1) N v (nI i) = if N 1 (42 + 5 * i) = 0 then (if sDepth (N 1) p (N 1 4) = 0 then (zbn (f_X11_isDeep N1 (nI p - 1) wd) (fun u_8 => if u_8 = 0 then (b_X11_stranded_78 (fun M x1 x2 => b_X11_stranded_9 j M x1 x2) N1 (nI i) v) else (zbn (f_X11_isDeep N1 (nI p + 1) wd) (fun u_9 => if u_9 = 0 then (b_X11_stranded_78 (fun M x1 x2 => b_X11_stranded_9 j M x1 x2) N1 (nI i) v) else (b_X11_stranded_79 (fun M x1 x2 => b_X11_stranded_9 j M x1 x2) N1 (nI i) ((1 : Int32) <<< (nI i &&& 31)) v))))) else (b_X11_stranded_78 (fun M x1 x2 => b_X11_stranded_9 j M x1 x2) N1 (nI i) v)) else (b_X11_stranded_78 (fun M x1 x2 => b_X11_stranded_9 j M x1 x2) N1 (nI i) v) := by
      rw [b_X11_stranded_9, r_monks, zbn_s, hD, if_neg hle, mr, zbn_s, a2, zbn_s, dr, zbn_s, dn, zbn_s]
    have k78 : b_X11_stranded_78 (fun M x1 x2 => b_X11_stranded_9 j M x1 x2) N1 (nI i) v = b_X11_stranded_9 j N1 v (nI (i + 1)) := by rw [b_X11_stranded_78, b_X11_stranded_79, znm_e, znm_e, or_0, nI_p1]
    have k79 : b_X11_stranded_79 (fun M x1 x2 => b_X11_stranded_9 j M x1 x2) N1 (nI i) ((1 : Int32) <<< (nI i &&& 31)) v = b_X11_stranded_9 j N1 (v ||| ((1 : Int32) <<< (nI i &&& 31))) (nI (i + 1)) := by rw [b_X11_stranded_79, znm_e, znm_e, nI_p1]
    have c160 : ∀ Z u, b_X10_stranded_160 (fun M x2 x3 => b_X10_stranded_19 wt n M x2 x3) Z wt u (nI i) = b_X10_stranded_19 wt n Z u (nI (i + 1)) := fun Z u => by rw [b_X10_stranded_160, znm_e, nI_p1]
    have c157 : ∀ Z, b_X10_stranded_157 (fun M x2 x3 => b_X10_stranded_19 wt n M x2 x3) Z wt (nI i) v = b_X10_stranded_19 wt n Z v (nI (i + 1)) := fun Z => by rw [b_X10_stranded_157, b_X10_stranded_158, znm_e, or_0, c160]
    have c158 : ∀ Z, b_X10_stranded_158 (fun M x2 x3 => b_X10_stranded_19 wt n M x2 x3) Z wt (nI i) ((1 : Int32) <<< (nI i &&& 31)) v = b_X10_stranded_19 wt n Z (v ||| ((1 : Int32) <<< (nI i &&& 31))) (nI (i + 1)) := fun Z => by rw [b_X10_stranded_158, znm_e, c160]
    have next : ∀ (Z : zM) (u : Int32), zRel t Z N1 → ∃ v' M' N', b_X10_stranded_19 wt n Z u (nI (i + 1)) = some (v', M') ∧ b_X11_stranded_9 j N1 u (nI (i + 1)) = some (v', N') ∧ zRel t M' N' := fun Z u hZ => ih (i + 1) n j Z N1 u (by omega) (by omega) (by omega) hZ (by rw [e1]; exact hD) (by rw [e1]; exact hw)
    by_cases qd : N 1 (42 + 5 * i) = 0
    · by_cases q0 : sDepth (N 1) p (N 1 4) = 0
      · rw [hX, hRr, if_pos qd, if_pos q0, if_pos qd, if_pos q0]
        have lit11 : nI p = 11 ↔ p = 11 := by rw [i_eq, i_nI (by omega)]; show (p : Int) = 11 ↔ _; omega
        have hup : ∀ t0 : Int32, (t0 = 0 ∨ t0 = 1) → b_X10_stranded_107 (fun M x2 x3 => b_X10_stranded_19 wt n M x2 x3) M1 wt v (nI i) (nI p) wd t0 = if t0 = 1 ∧ (p = 11 ∨ ¬ sDepth (N 1) (p + 1) (N 1 4) ≤ wd) then b_X10_stranded_19 wt n M1 (v ||| ((1 : Int32) <<< (nI i &&& 31))) (nI (i + 1)) else b_X10_stranded_19 wt n M1 v (nI (i + 1)) := by
          intro t0 ht
          rw [b_X10_stranded_107]
          by_cases q11 : p = 11
          · rw [if_pos (lit11.mpr q11), b_X10_stranded_133, b_X10_stranded_138]
            rcases ht with z | z <;> subst z
            · rw [if_pos rfl, if_neg (show ¬ ((0 : Int32) = 1 ∧ (p = 11 ∨ ¬ sDepth (N 1) (p + 1) (N 1 4) ≤ wd)) from fun z => absurd z.1 (by decide)), c157]
            · rw [if_neg n10, if_neg n10, if_pos ⟨rfl, Or.inl q11⟩, c158]
          · have hp1 : p + 1 < 12 := by omega
            rw [if_neg (fun z => q11 (lit11.mp z)), nI_p1, db M1 (by have := hR2.w; rw [e1] at this; exact this) _ hp1, zbn_s]
            by_cases qa : sDepth (N 1) (p + 1) (N 1 4) ≤ wd
            · have hneg : ¬ (t0 = 1 ∧ (p = 11 ∨ ¬ sDepth (N 1) (p + 1) (N 1 4) ≤ wd)) := by simp [q11, qa]
              rw [if_pos qa, b_X10_stranded_138, if_neg hneg]
              rcases ht with z | z <;> subst z
              · rw [if_pos rfl, c157]
              · rw [if_neg n10, if_pos rfl, c157]
            · rw [if_neg qa, b_X10_stranded_133, b_X10_stranded_138]
              rcases ht with z | z <;> subst z
              · rw [if_pos rfl, if_neg (show ¬ ((0 : Int32) = 1 ∧ (p = 11 ∨ ¬ sDepth (N 1) (p + 1) (N 1 4) ≤ wd)) from fun z => absurd z.1 (by decide)), c157]
              · rw [if_neg n10, if_neg n10, if_pos ⟨rfl, Or.inr qa⟩, c158]
        have hupr : ∃ u : Int32, f_X11_isDeep N1 (nI p + 1) wd = some u ∧ (u = 0 ↔ ¬ (p = 11 ∨ ¬ sDepth (N 1) (p + 1) (N 1 4) ≤ wd)) := by
          rw [nI_p1]
          by_cases q11 : p = 11
          · exact ⟨1, r_deepn (by rw [i_nI (by omega)]; omega), by simp [q11]⟩
          · refine ⟨_, by rw [r_deep hR1.ok (show p + 1 < 12 by omega), e1], ?_⟩
            by_cases qa : sDepth (N 1) (p + 1) (N 1 4) ≤ wd <;> simp [qa, q11]
        obtain ⟨u, hu1, hu2⟩ := hupr
        have lit0 : nI p = 0 ↔ p = 0 := by rw [i_eq, i_nI (by omega), i_lit0]; omega
        have fin : (p = 0 ∨ ¬ sDepth (N 1) (p - 1) (N 1 4) ≤ wd) → ∃ v' M' N', b_X10_stranded_107 (fun M x2 x3 => b_X10_stranded_19 wt n M x2 x3) M1 wt v (nI i) (nI p) wd 1 = some (v', M') ∧ (zbn (f_X11_isDeep N1 (nI p + 1) wd) (fun u_9 => if u_9 = 0 then (b_X11_stranded_78 (fun M x1 x2 => b_X11_stranded_9 j M x1 x2) N1 (nI i) v) else (b_X11_stranded_79 (fun M x1 x2 => b_X11_stranded_9 j M x1 x2) N1 (nI i) ((1 : Int32) <<< (nI i &&& 31)) v))) = some (v', N') ∧ zRel t M' N' := by
          intro hb
          rw [hup 1 (Or.inr rfl), hu1, zbn_s]
          by_cases qu : u = 0
          · rw [if_pos qu, if_neg (fun z => (hu2.mp qu) z.2), k78]; exact next M1 v hR2
          · rw [if_neg qu, if_pos ⟨rfl, Classical.byContradiction (fun z => qu (hu2.mpr z))⟩, k79]; exact next M1 _ hR2
        by_cases qp : p = 0
        · rw [if_pos (lit0.mpr qp), b_X10_stranded_102, r_deepn (x := nI p - 1) (by rw [qp]; decide), zbn_s, if_neg n10]
          exact fin (Or.inl qp)
        · obtain ⟨r, rfl⟩ : ∃ r, p = r + 1 := ⟨p - 1, by omega⟩
          have hr12 : r < 12 := by omega
          rw [if_neg (fun z => qp (lit0.mp z)), nI_m1, db M1 (by have := hR2.w; rw [e1] at this; exact this) _ hr12, zbn_s, r_deep hR1.ok hr12, zbn_s, e1]
          by_cases qb : sDepth (N 1) r (N 1 4) ≤ wd
          · rw [if_pos qb, if_pos qb, if_pos rfl, hup 0 (Or.inl rfl), if_neg (fun z => absurd z.1 (by decide)), k78]
            exact next M1 v hR2
          · rw [if_neg qb, if_neg qb, if_neg n10, b_X10_stranded_102]
            exact fin (Or.inr qb)
      · rw [hX, hRr, if_pos qd, if_neg q0, if_pos qd, if_neg q0, c160, k78]; exact next M v hR1
    · rw [hX, hRr, if_neg qd, if_neg qd, c160, k78]; exact next M v hR1
theorem s_stranded (t : Nat) : zs_stranded (zRel t) (zRel (t + 1)) := by
  intro M N h
  obtain ⟨D, e1, e2⟩ := nI_get (x := N 1 0) h.ok.c0.1
  have hD := h.ok.c0
  have hz := h.thr 0
  have y4 : zu N 0 0 0 1 = N 1 := zu00_1
  obtain ⟨v, M', N', a, b, c⟩ := strand_loop (t := t) (D := D) (by omega) (wt := sWater (N 1) (N 1 4) (N 1 9)) D 0 6000 6000 M (zu N 0 0 0) 0 (by omega) (by omega) (by omega) hz (by rw [y4]; exact e2) (by rw [y4])
  refine ⟨v, M', N', ?_, ?_, c.more⟩
  · rw [f_X10_stranded, h.w.hour, x_waterIn h.w h.ok h.ok.c4.1, zbn_s]; exact a
  · rw [f_X11_stranded, znm_e]; exact b
end
