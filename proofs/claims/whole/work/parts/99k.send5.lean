section
variable {t : Nat} {M N : zM}
theorem lob_al {x : Nat} {dr : Nat → Bool} : ∀ n, (∀ i, i < n → x.testBit i = dr i) → lob x n + zAl dr n = n
  | 0, _ => rfl
  | n + 1, h => by
    have h1 := lob_al n (fun i hi => h i (by omega))
    have h2 := h n (by omega)
    show lob x n + (if x.testBit n then 1 else 0) + (zAl dr n + (if dr n then 0 else 1)) = n + 1
    rw [h2]
    cases dr n <;> simp <;> omega
theorem zAl_tail {dr : Nat → Bool} {Mn : Nat} (h : ∀ i, Mn ≤ i → i < 6 → dr i = false) : ∀ d, Mn + d ≤ 6 → zAl dr (Mn + d) = zAl dr Mn + d
  | 0, _ => rfl
  | d + 1, hd => by
    have h1 := zAl_tail h d (by omega)
    show zAl dr (Mn + d) + (if dr (Mn + d) then 0 else 1) = _
    rw [h1, h (Mn + d) (by omega) (by omega)]; simp; omega
theorem s_alive {T : Int} {k : Nat} {w : Nat → Int32} {N0 : zM} (hN : N0 1 = w) (h : zWr T M k w) (ok : zOk w) {Mn : Nat} (hMn : w 0 = nI Mn) (h6 : Mn ≤ 6) : nI Mn - bcv (M k 12) = nI (zAl (zdr N0) Mn) := by
  obtain ⟨x, x1, x2⟩ := tb_small (v := M k 12) (n := 6) (by omega) (fun j h1 h2 => by rw [h.drowned j h2]; simp; omega)
  have hb : ∀ i, i < 6 → x.testBit i = zdr N0 i := by
    intro i hi
    have e := h.drowned i (by omega)
    rw [x2, tb_nI (by omega)] at e
    rw [e]; unfold zdr; rw [hN]; simp [hi]
  have e1 := lob_al 6 hb
  have e2 := zAl_tail (dr := zdr N0) (Mn := Mn) (fun i h1 h2 => by
    unfold zdr; rw [hN, ok.2.2.1 i h2 (by rw [hMn, i_nI (by omega)]; omega)]; decide) (6 - Mn) (by omega)
  rw [show Mn + (6 - Mn) = 6 by omega] at e2
  have e3 := zAl_le (zdr N0) Mn
  rw [x2, bc_lob 6 (by omega) x (by omega)]
  have a1 := i_nI (n := Mn) (by omega)
  have a2 := i_nI (n := lob x 6) (by omega)
  have a3 := i_nI (n := zAl (zdr N0) Mn) (by omega)
  rw [i_eq, i_sub (by omega) (by omega), a1, a2, a3]; omega
theorem bytes_loop (hT : zTape M N) {K : Nat} (hK : K ≤ 6) (hN : N 0 11 = nI K) {x1 : Int32} : ∀ (d i n j : Nat), i + d = K → d < n → d + 1 < j → ((∀ r, i ≤ r → r < K → ∃ a : Nat, M 2 r = nI a ∧ a ≤ 11 ∧ N 6 r = nI a) ∧ b_X10_send_47 x1 (nI K) n M (nI i) = b_X10_send_76 M x1 (nI K) ∧ b_X11_send_62 N x1 (nI K) j 1 (nI i) = b_X11_send_100 N x1 (nI K) 1) ∨ (b_X10_send_47 x1 (nI K) n M (nI i) = some (M, .inl 1) ∧ b_X11_send_62 N x1 (nI K) j 1 (nI i) = b_X11_send_100 N x1 (nI K) 0) := by
  intro d
  induction d with
  | zero =>
    intro i n j hi hn hj
    obtain ⟨n, rfl⟩ : ∃ k, n = k + 1 := ⟨n - 1, by omega⟩
    obtain ⟨j, rfl⟩ : ∃ k, j = k + 1 := ⟨j - 1, by omega⟩
    have e : i = K := by omega
    subst e
    have hle : nI i ≤ nI i := by rw [i_le]; omega
    exact Or.inl ⟨fun r h1 h2 => by omega, by rw [b_X10_send_47, if_pos hle], by rw [b_X11_send_62, hN, if_pos hle]⟩
  | succ d ih =>
    intro i n j hi hn hj
    obtain ⟨n, rfl⟩ : ∃ k, n = k + 1 := ⟨n - 1, by omega⟩
    obtain ⟨j, rfl⟩ : ∃ k, j = k + 2 := ⟨j - 2, by omega⟩
    have hle : ¬ nI K ≤ nI i := by rw [nI_leN (by omega) (by omega)]; omega
    have a0 : f_X10_at M 2 (nI i) = some (M 2 i) := x_at (n := 400) (by decide +kernel) (by omega) (by omega)
    have hx0 : b_X10_send_47 x1 (nI K) (n + 1) M (nI i) = zbt (f_X10_needWithin M (M 2 i) 0 11) (fun M_7 _ => b_X10_send_47 x1 (nI K) n M_7 (nI (i + 1))) := by
      rw [b_X10_send_47, if_neg hle, a0, zbn_s]
      simp only [znm_e, nI_p1]
    have hr0 : b_X11_send_62 N x1 (nI K) (j + 2) 1 (nI i) = zbn (f_X11_noPlace N (N 6 i)) (fun u_24 => if u_24 = 0 then b_X11_send_62 N x1 (nI K) (j + 1) 1 (nI (i + 1)) else b_X11_send_62 N x1 (nI K) (j + 1) 0 (nI (i + 1))) := by
      rw [b_X11_send_62, hN, if_neg hle, if_neg n10, zck_t (nI_lt_i (by omega) (by omega)), nI_cl (by omega)]
      simp only [b_X11_send_93, znm_e, nI_p1]
    rcases hT.byte (i := i) (c := 11) (by omega) (by omega) with ⟨a, p1, p2, p3⟩ | ⟨p1, p2⟩
    · have q1 : (0 : Int32).toInt ≤ (nI a).toInt ∧ (nI a).toInt ≤ (11 : Int32).toInt := by rw [i_nI (by omega)]; exact ⟨by rw [i_lit0]; omega, by show (a : Int) ≤ 11; omega⟩
      have hx1 : b_X10_send_47 x1 (nI K) (n + 1) M (nI i) = b_X10_send_47 x1 (nI K) n M (nI (i + 1)) := by rw [hx0, p1, g_in q1, zbt_i]
      have hr1 : b_X11_send_62 N x1 (nI K) (j + 2) 1 (nI i) = b_X11_send_62 N x1 (nI K) (j + 1) 1 (nI (i + 1)) := by rw [hr0, p3, r_noPlace, if_pos (by rw [i_nI (by omega)]; omega), zbn_s, if_pos rfl]
      rw [hx1, hr1]
      rcases ih (i + 1) n (j + 1) (by omega) (by omega) (by omega) with ⟨z1, z2, z3⟩ | z
      · refine Or.inl ⟨fun r h1 h2 => ?_, z2, z3⟩
        by_cases e : r = i
        · subst e; exact ⟨a, p1, p2, p3⟩
        · exact z1 r (by omega) h2
      · exact Or.inr z
    · refine Or.inr ⟨by rw [hx0, g_out (by exact p1), zbt_x], ?_⟩
      rw [hr0, r_noPlace, if_neg (by exact p2), zbn_s, if_neg n10, b_X11_send_62, if_pos rfl]
      split <;> rfl
theorem s_sendAll (h : zRel t M N) (h00 : N 0 0 = 0) {K Mn : Nat} (hK : K ≤ 6) (hMn : N 1 0 = nI Mn) (hMn6 : Mn ≤ 6) (hA : zAl (zdr N) Mn = K) (hb : ∀ r, r < K → ∃ a : Nat, M 2 r = nI a ∧ a ≤ 11 ∧ N 6 r = nI a) {x1 : Int32} (hx : x1 = -1 ∨ (0 ≤ x1.toInt ∧ x1.toInt < Mn)) : ∃ M1 b N1, b_X10_send_76 M x1 (nI K) = some (M1, .inr b) ∧ b_X11_send_110 N x1 (nI K) 0 = some (b, N1) ∧ N1 0 0 = 0 ∧ zRel t M1 N1 := by
  obtain ⟨Ml, l1, l2, l3⟩ := x_look (k := 3) (by omega) xw_3 h.ok h.w
  have hR := h.look l2
  have hsd : zSd (1200 * t) Ml N K Mn (fun k => (M 2 k).toInt.toNat) := by
    refine ⟨hR.w, h.ok, l3, hMn, hMn6, hK, fun k hk => ?_⟩
    obtain ⟨a, a1, a2, a3⟩ := hb k hk
    have e : (M 2 k).toInt.toNat = a := by rw [a1, i_nI (by omega)]; omega
    show (M 2 k).toInt.toNat < 12 ∧ Ml 2 k = nI (M 2 k).toInt.toNat ∧ N 6 k = nI (M 2 k).toInt.toNat
    rw [e]
    exact ⟨by omega, by rw [l2 2 (by decide)]; exact a1, a3⟩
  obtain ⟨tp, htp⟩ : ∃ tp, tp = (fun k => (M 2 k).toInt.toNat) := ⟨_, rfl⟩
  rw [← htp] at hsd
  obtain ⟨Mm, m1, m2, -, m4⟩ := meas_out hsd Mn 0 6000 Ml (by omega) (by omega) (fun _ _ => rfl)
  have h64 := p64 hK
  have hpos : 0 < 2 ^ K := Nat.pos_of_ne_zero (by simp)
  obtain ⟨Md, hMd⟩ : ∃ Z, Z = zu Mm 47 (2 ^ K - 1) 0 := ⟨_, rfl⟩
  obtain ⟨Mt, d1, d2, d3⟩ := dp_out hK (2 ^ K - 1) 6000 Md (Nat.le_refl _) (by omega) (fun u h1 h2 => by
    have e : u = 2 ^ K - 1 := by omega
    rw [e, lob_all K (by omega), Nat.sub_self, hMd, zu_at, if_pos ⟨rfl, rfl⟩]; rfl)
  obtain ⟨Nt, n1, n2, n3, n4⟩ := r_laysLeast hsd
  have e46 : Mt 46 = Mm 46 := by rw [d2 46 (by decide), hMd, zu_row (by decide)]
  have htb : zTb Ml N K Mn tp Mt Nt := by
    refine ⟨fun q h1 h2 _ => by rw [d2 q h2, hMd, zu_row h2, m2 q h1], fun u hu => ?_, n2, n3, n4, hA, fun m hm hd k hk => ?_⟩
    · rw [d3 u hu, d2 46 (by decide)]
    · rw [e46, m4 m (by omega) hm hd k hk]
      have hc := (hsd.come (m := m) (k := k) (by omega) hk).2.2
      unfold zhc zhr
      rw [hd]
      rcases hc with ⟨z1, z2, z3⟩ | ⟨z1, z2⟩
      · have hne : ¬ zha Ml tp m k = -1 := fun z => by rw [z] at z2; exact absurd z2 (by decide)
        rw [if_neg hne]
        exact Or.inl ⟨z1, z2, z3⟩
      · rw [if_pos z1]; exact Or.inr ⟨rfl, z2⟩
  have l0 : lob 0 6 = 0 := by decide
  have hrel := zTb.rel hsd htb (m := 0) (u := 0) (by omega) hpos (by rw [l0]; rfl)
  have hall : nI (2 ^ K) - 1 = nI (2 ^ K - 1) := by rw [show 2 ^ K = (2 ^ K - 1) + 1 by omega, nI_m1]; congr 1
  have hmeas : f_X2_measure M 3 2 (nI K) = some Mm := by rw [f_X2_measure, l1, zbn_s]; exact m1
  have hSA : f_X2_sendAll M 3 2 (nI K) = b_X2_sendAll_105 3 2 Mt (nI K) := by
    rw [f_X2_sendAll, hmeas, zbn_s, pow_e K (by omega), hall, znm_e, x_put (n := 64) (by decide +kernel) (by omega) (by omega), zbn_s, znm_e, ← hMd]
    exact d1
  have at0 : ∀ Z : zM, f_X10_at Z 47 0 = some (Z 47 0) := fun Z => x_at (o := 47) (n := 64) (j := 0) (by decide +kernel) (by omega) (by omega)
  have lo0 : f_X11_leastOf Nt 0 0 = some (Nt 10 0) := r_leastOf (N := Nt) (m := 0) (u := 0) (by omega) (by omega)
  have hR110 : b_X11_send_110 N x1 (nI K) 0 = (if 1000000 ≤ Nt 10 0 then (some ((-1), Nt)) else (if x1 = ((-1)) then (b_X11_send_151 Nt x1) else (zbn (f_X11_isDrowned Nt x1) (fun u_17 => if u_17 = 0 then (b_X11_send_151 Nt x1) else (some ((-1), Nt)))))) := by
    rw [b_X11_send_110, r_thr0, zbn_s, if_pos rfl, n1, zbn_s, lo0, zbn_s]
  have nr : ∀ {M' : zM}, (∀ q, q ≠ 44 → q ≠ 46 → q ≠ 47 → q ≠ 48 → M' q = M q) → zRel t M' Nt := by
    intro M' hM'
    have c : zRel t M' N := h.cls (fun q _ hd hq => hM' q (fun e => by rw [e] at hd; exact absurd hd (by decide)) (fun e => by rw [e] at hd; exact absurd hd (by decide)) (fun e => by rw [e] at hd; exact absurd hd (by decide)) (fun e => by rw [e] at hd; exact absurd hd (by decide))) (by rw [hM' 21 (by decide) (by decide) (by decide) (by decide)])
    exact c.ref (n2 1 (by decide) (by decide)) (n2 2 (by decide) (by decide)) (n2 5 (by decide) (by decide)) (n2 6 (by decide) (by decide)) (by rw [n2 0 (by decide) (by decide)]) (by rw [n2 0 (by decide) (by decide)]) (by rw [n2 0 (by decide) (by decide)]) (by rw [n2 0 (by decide) (by decide)])
  have hMtM : ∀ q, q ≠ 44 → q ≠ 46 → q ≠ 47 → q ≠ 48 → Mt q = M q := fun q h1 h2 h3 h4 => by rw [htb.1 q h2 h3 h4, l2 q h1]
  have hNt0 : Nt 0 0 = 0 := by rw [n2 0 (by decide) (by decide)]; exact h00
  have lm : (1000000 : Int32).toInt = 1000000 := rfl
  have l5 : (100000 : Int32).toInt = 100000 := rfl
  rcases hrel with ⟨z1, z2, z3⟩ | ⟨z1, z2⟩
  · -- there is a way for all
    have hz1 : Mt 47 0 = Nt 10 0 := z1
    obtain ⟨M', c1, c2, -, c4⟩ := choose_loop hsd htb Mn 0 6000 Mt 0 (by omega) (by omega) (fun _ _ => rfl) hpos (by rw [l0]; rfl) (by omega)
    have hch : f_X2_choose Mt 3 (nI K) = some M' := by rw [f_X2_choose]; exact c1
    have hSA2 : f_X2_sendAll M 3 2 (nI K) = some (Mt 47 0, M') := by
      rw [hSA, b_X2_sendAll_105, at0, zbn_s, if_pos (by rw [i_lt, l5]; omega), hch, zbn_s, at0, zbn_s, c2 47 (by decide)]
    have hne : ¬ Mt 47 0 = -1 := fun z => by rw [z] at z2; exact absurd z2 (by decide)
    have hX : b_X10_send_76 M x1 (nI K) = (if x1 = ((-1)) then (some (M', .inr (Mt 47 0))) else (zbn (f_X2_sentTo M' x1) (fun u_2 => some (M', .inr u_2)))) := by
      rw [b_X10_send_76, hSA2, zbn_s]
      dsimp only
      rw [if_neg hne]
    have hM' : zRel t M' Nt := nr (fun q h1 h2 h3 h4 => by rw [c2 q h4, hMtM q h1 h2 h3 h4])
    rw [if_neg (by rw [i_le, lm, ← hz1]; omega)] at hR110
    rcases hx with hx | hx
    · refine ⟨M', Mt 47 0, Nt, by rw [hX, if_pos hx], ?_, hNt0, hM'⟩
      rw [hR110, if_pos hx, b_X11_send_151, if_pos hx, lo0, zbn_s, hz1]
    · obtain ⟨m, m1', rfl⟩ := nI_get hx.1
      have hm : m < Mn := by omega
      have hne1 : ¬ nI m = -1 := fun z => by rw [z] at m1'; exact absurd m1' (by rw [show (-1 : Int32).toInt = -1 from rfl]; omega)
      have hst : f_X2_sentTo M' (nI m) = some (M' 48 m) := by rw [f_X2_sentTo, x_at (n := 6) (by decide +kernel) (by omega) (by omega), zbn_s]
      refine ⟨M', M' 48 m, Nt, by rw [hX, if_neg hne1, hst, zbn_s], ?_, hNt0, hM'⟩
      rw [hR110, if_neg hne1, hsd.drR (N := Nt) (n2 1 (by decide) (by decide)) (show m < 6 by omega), zbn_s]
      cases hd : zdr N m with
      | true => rw [if_neg (by decide), (c4 m (by omega) hm).1 hd]
      | false =>
        rw [if_pos (by decide), b_X11_send_151, if_neg hne1]
        exact (c4 m (by omega) hm).2 hd 6000 0 (by omega)
  · have hz2 : Nt 10 0 = 1000000 := z2
    have hz1 : Mt 47 0 = 100000 := z1
    refine ⟨Mt, -1, Nt, ?_, by rw [hR110, hz2, if_pos (by decide)], hNt0, nr hMtM⟩
    rw [b_X10_send_76, hSA, b_X2_sendAll_105, at0, zbn_s, hz1, if_neg (by decide), zbn_s]
    dsimp only
    rw [if_pos rfl]
theorem s_send (t : Nat) : zs_send (zRel t) (zRel (t + 1)) := by
  intro M N h x1
  have hu := h.uses
  have ht := h.tape
  have c0 := h.ok.c0
  obtain ⟨Mn, Mn1, Mn2⟩ := nI_get (x := N 1 0) c0.1
  have hMn6 : Mn ≤ 6 := by omega
  obtain ⟨L, L1, L2⟩ := nI_get (x := N 0 9) ht.2.1
  have hLb := ht.2.2.1
  have hM11 : M 1 1 = nI L := by rw [ht.1, L2]
  have hU1 : zUs N 1 = N 1 := zUs_row (by decide)
  have hU0 : zUs N 1 0 = nI Mn := by rw [hU1, Mn2]
  have hal := s_alive (N0 := zUs N) (w := N 1) hU1 h.w h.ok Mn2 hMn6
  have hA6 := zAl_le (zdr (zUs N)) Mn
  have xal : f_X9_alive (zu M 1 1 0) 3 = some (nI (zAl (zdr (zUs N)) Mn)) := by
    rw [f_X9_alive, zu_row (by decide), bc_e, zbn_s, h.w.monks, Mn2, hal]
  have hX26 : (x1 = -1 ∨ (0 ≤ x1.toInt ∧ x1.toInt < Mn)) → f_X10_send M x1 = b_X10_send_26 (zu M 1 1 0) x1 (nI L) := by
    intro hh
    rw [f_X10_send, znm_e, znm_e, hM11]
    by_cases q : x1 = -1
    · rw [if_pos q]
    · rw [if_neg q, g_mk (by rw [zu_row (by decide), h.w.monks, Mn2, i_nI (by omega)]; exact hh.elim (fun z => absurd z q) id), zbt_i]
  have hR22 : (x1 = -1 ∨ (0 ≤ x1.toInt ∧ x1.toInt < Mn)) → f_X11_send N x1 = b_X11_send_23 (zUs N) x1 0 := by
    intro hh
    rw [f_X11_send, r_uses, zbn_s]
    by_cases q : x1 = -1
    · rw [if_pos q, b_X11_send_22]
    · rw [if_neg q, r_noMonk (by rw [hU1]; exact h.ok), if_pos (by rw [hU0, i_nI (by omega)]; exact hh.elim (fun z => absurd z q) id), zbn_s, if_pos rfl, b_X11_send_22]
  have hR23 : b_X11_send_23 (zUs N) x1 0 = (if nI L = nI (zAl (zdr (zUs N)) Mn) then (b_X11_send_58 (zUs N) x1 (nI (zAl (zdr (zUs N)) Mn)) 1) else (b_X11_send_58 (zUs N) x1 (nI (zAl (zdr (zUs N)) Mn)) 0)) := by
    rw [b_X11_send_23, r_thr0, zbn_s]
    dsimp only
    rw [if_pos rfl, r_monks, hU0, zbn_s, r_drownedOnes (v := M 3 12) (by rw [hU1]; exact h.ok) (by rw [hU1]; exact h.w.drowned), zbn_s, bc_e, zbn_s, hal, znm_e]
    simp only [zUs_11, L2]
  have bad : ∀ x2, b_X11_send_100 (zUs N) x1 x2 0 = some (0, zu (zUs N) 0 0 2) := fun x2 => by
    rw [b_X11_send_100, if_pos rfl, b_X11_send_110, r_thr1, zbn_s, if_neg n10]
  by_cases hx : x1 = -1 ∨ (0 ≤ x1.toInt ∧ x1.toInt < Mn)
  · rw [hX26 hx, hR22 hx, hR23]
    by_cases q : L = zAl (zdr (zUs N)) Mn
    · have hU11 : zUs N 0 11 = nI L := by rw [zUs_11, L2]
      have hX2 : b_X10_send_26 (zu M 1 1 0) x1 (nI L) = b_X10_send_47 x1 (nI L) 8 (zu M 1 1 0) 0 := by rw [b_X10_send_26, xal, zbn_s, if_pos (by rw [q])]
      have hR2 : (if nI L = nI (zAl (zdr (zUs N)) Mn) then (b_X11_send_58 (zUs N) x1 (nI (zAl (zdr (zUs N)) Mn)) 1) else (b_X11_send_58 (zUs N) x1 (nI (zAl (zdr (zUs N)) Mn)) 0)) = b_X11_send_62 (zUs N) x1 (nI L) 6000 1 0 := by rw [if_pos (by rw [q]), b_X11_send_58, ← q]
      rw [hX2, hR2]
      have hloop := bytes_loop hu.tape (K := L) (by omega) hU11 (x1 := x1) L 0 8 6000 (by omega) (by omega) (by omega)
      rw [show nI 0 = 0 from rfl] at hloop
      rcases hloop with ⟨z1, z2, z3⟩ | ⟨z2, z3⟩
      · obtain ⟨M1, b, N1, s1, s2, s3, s4⟩ := s_sendAll hu zUs_00 (K := L) (Mn := Mn) (by omega) hU0 hMn6 q.symm (fun r hr => z1 r (by omega) hr) hx
        exact zsT_ok (by rw [z2]; exact s1) (by rw [z3, b_X11_send_100, if_neg n10]; exact s2) s3 s4.more
      · exact zsT_ex (M1 := zu M 1 1 0) (k := 1) (b := 0) (N1 := zu (zUs N) 0 0 2) z2 (by rw [z3, bad]) (Or.inr rfl) zu00_c (hu.thr 2).more
    · have hne : ¬ nI L = nI (zAl (zdr (zUs N)) Mn) := fun z => q (by rw [i_eq, i_nI (by omega), i_nI (by omega)] at z; omega)
      obtain ⟨f, hf⟩ : ∃ f, 6000 = f + 1 := ⟨5999, rfl⟩
      refine zsT_ex (M1 := zu M 1 1 0) (k := 1) (b := 0) (N1 := zu (zUs N) 0 0 2) ?_ ?_ (Or.inr rfl) zu00_c (hu.thr 2).more
      · rw [b_X10_send_26, xal, zbn_s, if_neg hne]
      · rw [if_neg hne, b_X11_send_58, hf, b_X11_send_62, bad, if_pos rfl]
        split <;> rfl
  · have q : ¬ x1 = -1 := fun z => hx (Or.inl z)
    have hr : ¬ (0 ≤ x1.toInt ∧ x1.toInt < Mn) := fun z => hx (Or.inr z)
    refine zsT_ex (M1 := zu M 1 1 0) (k := 0) (b := 0) (N1 := zu (zUs N) 0 0 1) ?_ ?_ (Or.inl rfl) zu00_c (hu.thr 1).more
    · rw [f_X10_send, znm_e, znm_e, if_neg q, g_mkn (by rw [zu_row (by decide), h.w.monks, Mn2, i_nI (by omega)]; exact hr), zbt_x]
    · rw [f_X11_send, r_uses, zbn_s, if_neg q, r_noMonk (by rw [hU1]; exact h.ok), if_neg (by rw [hU0, i_nI (by omega)]; exact hr), zbn_s, if_neg n10, b_X11_send_23, r_thr1, zbn_s, if_neg n10]
end
