section
variable {L : Nat} {T : Int} {M M' N N' : zM} {b : Nat}
theorem zwm_eq (h : zby M' = zby M) {e o : Nat} : zwm M' b e o = zwm M b e o := by
  have : ∀ i, zeq M' b o i = zeq M b o i := by
    intro i
    induction i with
    | zero => rfl
    | succ i ih => show (zeq _ b o i && _) = (zeq M b o i && _); rw [ih, h]
  unfold zwm; rw [this]
theorem zpn_eq (h : zby M' = zby M) : zpn L M' b = zpn L M b := by
  have : ∀ i, znv M' b i = znv M b i := by
    intro i
    induction i with
    | zero => rfl
    | succ i ih => show 10 * znv _ b i + _ = 10 * znv M b i + _; rw [ih, h]
  unfold zpn; rw [zde_eq h, this]
theorem zTk.eq (h : zTk L M b) (hb : zby M' = zby M) (h39 : M' 39 = M 39) : zTk L M' b := by
  obtain ⟨h1, h2, h3, h4, h5, h6⟩ := h
  refine ⟨h1, by rw [zsk_eq hb]; exact h2, by rw [h39]; exact h3, by rw [h39, zkd_eq hb]; exact h4, by rw [h39, zen_eq hb]; exact h5, fun z => ?_⟩
  rw [zkd_eq hb] at z
  have := h6 z
  unfold zvl at this ⊢
  simp only [zkd_eq hb, zle_eq hb, zwm_eq hb, zpn_eq hb, hb, h39]
  exact this
theorem zPr.world (h : zPr L M N b) (hM : ∀ q, ¬ (9 ≤ q ∧ q < 15) → M' q = M q) (hN : ∀ q, q ≠ 1 → N' q = N q) : zPr L M' N' b := by
  obtain ⟨h1, h2, h3, h4, q, q1, q2, q3⟩ := h
  have hb : zby M' = zby M := by funext j; unfold zby; rw [hM 2 (by omega)]
  refine ⟨⟨h1.1, by rw [hM 1 (by omega)]; exact h1.2.1, by rw [hN 0 (by decide)]; exact h1.2.2.1, fun j hj => by rw [hM 2 (by omega), hN 6 (by decide)]; exact h1.2.2.2 j hj⟩, by rw [hM 40 (by omega)]; exact h2, h3.eq hb (hM 39 (by omega)), by rw [hM 39 (by omega)]; exact h4, q, by rw [hN 0 (by decide)]; exact q1, q2, by rw [zsk_eq hb]; exact q3⟩
def zCo (L : Nat) (T : Int) (M N : zM) (b : Nat) : Prop := zPr L M N b ∧ zWr T M 9 (N 1) ∧ zOk (N 1)
def zCm (M M' : zM) : Prop := ∀ q, ¬ (9 ≤ q ∧ q < 15) → q ≠ 39 → M' q = M q
def zCn (N N' : zM) : Prop := zNf N N' ∧ N' 1 2 = N 1 2 ∧ N' 1 3 = N 1 3 ∧ ∀ j, 332 ≤ j → N' 1 j = N 1 j
def zOuc (L : Nat) (T : Int) (M N : zM) (fx fr : Option (Int32 × zM)) : Prop := (∃ M' N' b', fx = some (1, M') ∧ fr = some (1, N') ∧ zCo L T M' N' b' ∧ zCm M M' ∧ zCn N N') ∨ (∃ M' N' bf, fx = some (0, M') ∧ fr = some (0, N') ∧ M' 39 6 = nI bf ∧ zBf (N' 0 12) bf ∧ zCm M M' ∧ zNf N N')
theorem zMf.cm (h : zMf M M') : zCm M M' := fun q _ hq => h q hq
theorem zCm.trans {M'' : zM} (h : zCm M M') (h' : zCm M' M'') : zCm M M'' := fun q a b => (h' q a b).trans (h q a b)
theorem zCm.refl : zCm M M := fun _ _ _ => rfl
theorem zCn.refl : zCn N N := ⟨zNf.refl, rfl, rfl, fun _ _ => rfl⟩
theorem zCn.trans {N'' : zM} (h : zCn N N') (h' : zCn N' N'') : zCn N N'' := ⟨h.1.trans h'.1, h'.2.1.trans h.2.1, h'.2.2.1.trans h.2.2.1, fun j hj => (h'.2.2.2 j hj).trans (h.2.2.2 j hj)⟩
theorem zNf.cn (h : zNf N N') (h1 : N' 1 = N 1) : zCn N N' := ⟨h, by rw [h1], by rw [h1], fun _ _ => by rw [h1]⟩
theorem zCo.move (h : zCo L T M N b) {b' : Nat} (hp : zPr L M' N' b') (hM : zMf M M') (h1 : N' 1 = N 1) : zCo L T M' N' b' := ⟨hp, by rw [h1]; exact h.2.1.eq6 (fun q _ _ => hM q (by omega)), by rw [h1]; exact h.2.2⟩
theorem zCo.put (h : zCo L T M N b) {o j c : Nat} {v : Int32} (ho : 9 ≤ o ∧ o < 15) (hw : zWr T (zu M o j v) 9 (upd (N 1) c v)) (ok : zOk (upd (N 1) c v)) : zCo L T (zu M o j v) (zu N 1 c v) b := by
  refine ⟨h.1.world (fun q hq => zu_row (by omega)) (fun q hq => zu_row hq), ?_, ?_⟩
  · rw [zu_self]; exact hw
  · rw [zu_self]; exact ok
theorem put_cm {o j : Nat} {v : Int32} (ho : 9 ≤ o ∧ o < 15) : zCm M (zu M o j v) := fun q h1 _ => zu_row (by omega)
theorem put_cn {c : Nat} {v : Int32} (hc : c < 332) (h2 : c ≠ 2) (h3 : c ≠ 3) : zCn N (zu N 1 c v) := ⟨⟨fun q _ h1 => zu_row h1, fun j _ _ => by rw [zu_row (by decide)]⟩, by rw [zu_at, if_neg (by omega)], by rw [zu_at, if_neg (by omega)], fun j hj => by rw [zu_at, if_neg (by omega)]⟩
theorem i_m {x : Int32} {lo : Int32} (hlo : 0 ≤ lo.toInt) (h : lo.toInt ≤ x.toInt) : ¬ x = -1 := fun z => by rw [z] at h; have : lo.toInt ≤ -1 := h; omega
theorem l_num (h : zCo L T M N b) {j c : Nat} {lo hi : Int32} (hj : (j, c) ∈ zsc) (hlo : 0 ≤ lo.toInt) (hb : zlo c = lo.toInt ∧ zhi c = hi.toInt) (hc : c = 5 ∨ c = 6 ∨ c = 11) : zOuc L T M N (zbn (f_X7_takeNumber M lo hi) (fun u_2 => if u_2.1 = ((-1)) then (some (0, u_2.2)) else (znm (zu u_2.2 9 j u_2.1) (fun M_3 => some (1, M_3))))) (f_X11_readNumber N (nI c) lo hi) := by
  rcases j_num h.1 (lo := lo) (hi := hi) hlo with ⟨M', N', b', c1, c2, c3, c4, c5, c6, c7⟩ | ⟨c1, N', c2, c3, c4, c5⟩
  · left
    have hne := i_m hlo c3.1
    have hco := h.move c4 c5 c7
    refine ⟨_, _, b', by rw [c1, zbn_s, if_neg hne, znm_e], ?_, hco.put (o := 9) (j := j) (c := c) (v := zpn L M b) (by omega) (hco.2.1.put hj _) (hco.2.2.put (by rw [hb.1, hb.2]; exact c3) (by omega) (by omega) (by omega) (by omega) (fun m hm => by omega) (fun m hm => by omega)), c5.cm.trans (put_cm (by omega)), (c6.cn c7).trans (put_cn (by omega) (by omega) (by omega))⟩
    rw [f_X11_readNumber, c2, zbn_s]
    dsimp only
    rw [if_pos (by rw [i_le, i_lit0]; omega), b_X11_readNumber_29, zck_t (nI_lt_i (by omega) (by omega)), nI_cl (by omega), znm_e, if_neg (by rw [i_lt, i_lit0]; omega)]
  · right
    refine ⟨_, zu N' 1 c (N' 1 c), b, by rw [c1, zbn_s, if_pos rfl], ?_, by rw [zu_at, if_pos ⟨rfl, rfl⟩], by rw [zu_row (by decide)]; exact c3, miss_f.cm, ⟨fun q h0 h1 => by rw [zu_row h1, c4.1 q h0 h1], fun j h1 h2 => by rw [zu_row (by decide), c4.2 j h1 h2]⟩⟩
    rw [f_X11_readNumber, c2, zbn_s]
    dsimp only
    rw [if_neg (by decide), zck_t (nI_lt_i (by omega) (by omega)), b_X11_readNumber_29, zck_t (nI_lt_i (by omega) (by omega)), nI_cl (by omega), znm_e, if_pos (by decide)]
theorem l_ground (h : zCo L T M N b) : zOuc L T M N (zbn (f_X7_takeNumber M 0 11) (fun u_4 => if u_4.1 = ((-1)) then (b_X1_groundLine_37 9 u_4.2 u_4.1 ((-1))) else (zbn (f_X7_takeNumber u_4.2 0 19) (fun u_5 => b_X1_groundLine_37 9 u_5.2 u_4.1 u_5.1)))) (f_X11_readGround N) := by
  have l11 : (11 : Int32).toInt = 11 := rfl
  rcases j_num h.1 (lo := 0) (hi := 11) (by decide) with ⟨M1, N1, b1, c1, c2, c3, c4, c5, c6, c7⟩ | ⟨c1, N1, c2, c3, c4, c5⟩
  · have hne := i_m (by decide) c3.1
    rw [i_lit0, l11] at c3
    obtain ⟨p, p1, p2⟩ := nI_get (x := zpn L M b) (by omega)
    have hp : p < 12 := by omega
    have hco := h.move c4 c5 c7
    have e14 : 14 + nI p = nI (14 + p) := nI_add 14 p
    rw [p2] at c1 c2 hne
    rcases j_num hco.1 (lo := 0) (hi := 19) (by decide) with ⟨M', N', b', d1, d2, d3, d4, d5, d6, d7⟩ | ⟨d1, N', d2, d3, d4, d5⟩
    · left
      have hne2 := i_m (by decide) d3.1
      have hco2 := hco.move d4 d5 d7
      refine ⟨_, _, b', ?_, ?_, hco2.put (o := 10) (j := p) (c := 14 + p) (v := zpn L M1 b1) (by omega) (hco2.2.1.putG hp _) (hco2.2.2.put (by rw [(zlo_g hp).1, (zlo_g hp).2]; exact d3) (by omega) (by omega) (by omega) (by omega) (fun m hm => by omega) (fun m hm => by omega)), (c5.cm.trans d5.cm).trans (put_cm (by omega)), ((c6.cn c7).trans (d6.cn d7)).trans (put_cn (by omega) (by omega) (by omega))⟩
      · rw [c1, zbn_s]
        dsimp only
        rw [if_neg hne, d1, zbn_s]
        dsimp only
        rw [b_X1_groundLine_37, if_neg hne2, x_put (n := 12) (by decide +kernel) (by omega) hp, zbn_s]
      · have e : f_X11_readNumber N1 (nI (14 + p)) 0 19 = some (1, zu N' 1 (14 + p) (zpn L M1 b1)) := by
          rw [f_X11_readNumber, d2, zbn_s]
          dsimp only
          rw [if_pos (by rw [i_le]; exact d3.1), b_X11_readNumber_29, zck_t (nI_lt_i (by omega) (by omega)), nI_cl (by omega), znm_e, if_neg (by rw [i_lt, i_lit0]; have := d3.1; rw [i_lit0] at this; omega)]
        rw [f_X11_readGround, c2, zbn_s]
        dsimp only
        rw [if_neg (by rw [i_lt, i_lit0, i_nI (by omega)]; omega), e14, e, zbn_s]
        rfl
    · right
      refine ⟨_, zu N' 1 (14 + p) (N' 1 (14 + p)), b1, ?_, ?_, by rw [zu_at, if_pos ⟨rfl, rfl⟩], by rw [zu_row (by decide)]; exact d3, c5.cm.trans miss_f.cm, (c6.trans ⟨fun q h0 h1 => by rw [zu_row h1, d4.1 q h0 h1], fun j h1 h2 => by rw [zu_row (by decide), d4.2 j h1 h2]⟩)⟩
      · rw [c1, zbn_s]
        dsimp only
        rw [if_neg hne, d1, zbn_s]
        dsimp only
        rw [b_X1_groundLine_37, if_pos rfl]
      · have e : f_X11_readNumber N1 (nI (14 + p)) 0 19 = some (0, zu N' 1 (14 + p) (N' 1 (14 + p))) := by
          rw [f_X11_readNumber, d2, zbn_s]
          dsimp only
          rw [if_neg (by decide), zck_t (nI_lt_i (by omega) (by omega)), b_X11_readNumber_29, zck_t (nI_lt_i (by omega) (by omega)), nI_cl (by omega), znm_e, if_pos (by decide)]
        rw [f_X11_readGround, c2, zbn_s]
        dsimp only
        rw [if_neg (by rw [i_lt, i_lit0, i_nI (by omega)]; omega), e14, e, zbn_s]
        rfl
  · right
    refine ⟨_, N1, b, ?_, ?_, by rw [zu_at, if_pos ⟨rfl, rfl⟩], c3, miss_f.cm, c4⟩
    · rw [c1, zbn_s]
      dsimp only
      rw [if_pos rfl, b_X1_groundLine_37, if_pos rfl]
    · rw [f_X11_readGround, c2, zbn_s]
      dsimp only
      rw [if_pos (by decide)]
theorem l_range (h : zCo L T M N b) : zOuc L T M N (zbn (f_X7_takeNumber M 0 30) (fun u_2 => if u_2.1 = ((-1)) then (some (0, u_2.2)) else (zbn (f_X7_takeWord u_2.2 11) (fun u_3 => if u_3.1 = 0 then (some (0, u_3.2)) else (zbn (f_X7_takeNumber u_3.2 u_2.1 30) (fun u_4 => if u_4.1 = ((-1)) then (some (0, u_4.2)) else (znm (zu u_4.2 9 7 u_2.1) (fun M_5 => znm (zu M_5 9 8 u_4.1) (fun M_6 => some (1, M_6)))))))))) (f_X11_readRange N) := by
  have l30 : (30 : Int32).toInt = 30 := rfl
  rcases j_num h.1 (lo := 0) (hi := 30) (by decide) with ⟨M1, N1, b1, c1, c2, c3, c4, c5, c6, c7⟩ | ⟨c1, N1, c2, c3, c4, c5⟩
  · have hne := i_m (by decide) c3.1
    rw [i_lit0, l30] at c3
    have hco := h.move c4 c5 c7
    have hr0 : f_X11_readRange N = zbn (f_X11_after N1 5 (zpn L M b) 30) (fun u_5 => b_X11_readRange_25 u_5.2 (zpn L M b) u_5.1) := by
      rw [f_X11_readRange, c2, zbn_s]
      dsimp only
      rw [if_pos (by rw [i_le, i_lit0]; exact c3.1)]
    have hx0 : ∀ fx : Option (Int32 × zM), fx = (zbn (f_X7_takeNumber M 0 30) (fun u_2 => if u_2.1 = ((-1)) then (some (0, u_2.2)) else (zbn (f_X7_takeWord u_2.2 11) (fun u_3 => if u_3.1 = 0 then (some (0, u_3.2)) else (zbn (f_X7_takeNumber u_3.2 u_2.1 30) (fun u_4 => if u_4.1 = ((-1)) then (some (0, u_4.2)) else (znm (zu u_4.2 9 7 u_2.1) (fun M_5 => znm (zu M_5 9 8 u_4.1) (fun M_6 => some (1, M_6)))))))))) → fx = zbn (f_X7_takeWord M1 11) (fun u_3 => if u_3.1 = 0 then (some (0, u_3.2)) else (zbn (f_X7_takeNumber u_3.2 (zpn L M b) 30) (fun u_4 => if u_4.1 = ((-1)) then (some (0, u_4.2)) else (znm (zu u_4.2 9 7 (zpn L M b)) (fun M_5 => znm (zu M_5 9 8 u_4.1) (fun M_6 => some (1, M_6))))))) := by
      intro fx e
      rw [e, c1, zbn_s]
      dsimp only
      rw [if_neg hne]
    rw [hx0 _ rfl, hr0]
    rcases j_after hco.1 (i := 11) (by omega) (lo := zpn L M b) (hi' := 30) c3.1 with ⟨M2, M', N', b2, b', d1, d2, d3, d4, d5, d6, d7, d8⟩ | ⟨Mf, bf, N', d1, d2, d3, d4, d5⟩
    · left
      rw [l30] at d4
      have hco2 := hco.move d5 d6 d8
      have hne2 : ¬ zpn L M1 b2 = -1 := i_m (by omega) d4.1
      have w1 := hco2.2.1.put (j := 7) (c := 7) (by decide) (zpn L M b)
      have w2 := w1.put (j := 8) (c := 8) (by decide) (zpn L M1 b2)
      have ok2 : zOk (upd (upd (N' 1) 7 (zpn L M b)) 8 (zpn L M1 b2)) := by
        have ok := hco2.2.2
        refine ⟨fun j hj => ?_, ?_, fun m hm hle => ?_, fun m hm hle => ?_⟩
        · rw [upd_at, upd_at]
          by_cases e8 : j = 8
          · rw [if_pos e8, e8]; show (0 : Int) ≤ _ ∧ _ ≤ (30 : Int); omega
          · rw [if_neg e8]
            by_cases e7 : j = 7
            · rw [if_pos e7, e7]; show (0 : Int) ≤ _ ∧ _ ≤ (30 : Int); omega
            · rw [if_neg e7]; exact ok.1 j hj
        · rw [upd_at, if_neg (by decide), upd_at, if_pos rfl, upd_at, if_pos rfl]; exact d4.1
        · rw [upd_at, if_neg (by omega), upd_at, if_neg (by omega)] at hle ⊢; exact ok.2.2.1 m hm hle
        · rw [upd_at, if_neg (by omega), upd_at, if_neg (by omega)] at hle ⊢; exact ok.2.2.2 m hm hle
      refine ⟨zu (zu M' 9 7 (zpn L M b)) 9 8 (zpn L M1 b2), zu (zu N' 1 7 (zpn L M b)) 1 8 (zpn L M1 b2), b', ?_, ?_, ⟨d5.world (fun q hq => by rw [zu_row (by omega), zu_row (by omega)]) (fun q hq => by rw [zu_row hq, zu_row hq]), by rw [zu_self, zu_self]; exact w2, by rw [zu_self, zu_self]; exact ok2⟩, ((c5.cm.trans d6.cm).trans (put_cm (by omega))).trans (put_cm (by omega)), (((c6.cn c7).trans (d7.cn d8)).trans (put_cn (by omega) (by omega) (by omega))).trans (put_cn (by omega) (by omega) (by omega))⟩
      · rw [show (11 : Int32) = nI 11 from rfl, d1, zbn_s]
        dsimp only
        rw [if_neg n10, d2, zbn_s]
        dsimp only
        rw [if_neg hne2, znm_e, znm_e]
      · rw [show f_X11_after N1 5 (zpn L M b) 30 = f_X11_after N1 (zwi 11) (zpn L M b) 30 from rfl, d3, zbn_s, b_X11_readRange_25, if_pos (by rw [i_le, i_lit0]; show 0 ≤ (zpn L M1 b2).toInt; omega), zck_t (by decide), znm_e, zck_t (by decide), znm_e]; rfl
    · right
      have hr : zbn (f_X11_after N1 5 (zpn L M b) 30) (fun u_5 => b_X11_readRange_25 u_5.2 (zpn L M b) u_5.1) = some (0, N') := by
        rw [show f_X11_after N1 5 (zpn L M b) 30 = f_X11_after N1 (zwi 11) (zpn L M b) 30 from rfl, d1, zbn_s, b_X11_readRange_25, if_neg (show ¬ (0 : Int32) ≤ -1 by decide)]
      rcases d5 with ⟨e1, e2, e3⟩ | ⟨M2, e1, e2, e3, e4⟩
      · refine ⟨Mf, N', bf, ?_, hr, e2, d2, c5.cm.trans e3.cm, c6.trans d3⟩
        rw [show (11 : Int32) = nI 11 from rfl, e1, zbn_s, if_pos rfl]
      · refine ⟨Mf, N', bf, ?_, hr, e3, d2, c5.cm.trans e4.cm, c6.trans d3⟩
        rw [show (11 : Int32) = nI 11 from rfl, e1, zbn_s]
        dsimp only
        rw [if_neg n10, e2, zbn_s, if_pos rfl]
  · right
    refine ⟨_, N1, b, by rw [c1, zbn_s, if_pos rfl], ?_, by rw [zu_at, if_pos ⟨rfl, rfl⟩], c3, miss_f.cm, c4⟩
    rw [f_X11_readRange, c2, zbn_s]
    dsimp only
    rw [if_neg (by decide), b_X11_readRange_25, if_neg (by decide)]
end
