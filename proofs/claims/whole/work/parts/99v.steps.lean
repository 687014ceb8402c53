section
variable {L : Nat} {M M' M'' M1 N N' N1 : zM} {b b1 s s' s1 s2 h h' : Nat} {pre mid post : List Bool} {v c n : Int32}
def zdf (N : zM) (j : Nat) : Int32 := N 1 (849 + j)
def zEx (M : zM) (s : Nat) (v : Int32) : zM := zu (zu M 31 s v) 27 5 (nI (s + 1))
def zEr (N : zM) (s : Nat) (c n : Int32) : zM := zu (zu (zu N 1 (1230 + 2 * s) c) 1 (1230 + 2 * s + 1) n) 0 16 (nI (s + 1))
theorem x_putA {o : Nat} (hx : xl o < 2147483648) {i : Int32} : ∃ M', f_X10_put M o i v = some M' ∧ ∀ q, q ≠ o → M' q = M q := by
  unfold f_X10_put
  by_cases h1 : i < 0
  · exact ⟨M, by rw [if_pos h1], fun _ _ => rfl⟩
  · rw [if_neg h1]
    by_cases h2 : Int32.ofNat (xl o) ≤ i
    · exact ⟨M, by rw [if_pos h2], fun _ _ => rfl⟩
    · rw [if_neg h2]
      have h3 : zin i (xl o) = true := by
        rw [zin_iff]
        rw [i_lt, i_lit0] at h1
        rw [i_le, show (Int32.ofNat (xl o)).toInt = (xl o : Int) from i_nI hx] at h2
        omega
      exact ⟨_, by rw [zck_t h3, znm_e], fun q hq => zu_row hq⟩
theorem x_emit (h5 : M 27 5 = nI s) (hs : s < 400) : f_X3_addStep M 27 v = some (zEx M s v) := by
  rw [f_X3_addStep, h5, x_put (n := 400) (o := 27 + 4) (by decide +kernel) (by omega) hs, zbn_s, znm_e, zu_row (by decide), h5, nI_p1]; rfl
theorem x_emitA : ∃ M', f_X3_addStep M 27 v = some M' ∧ ∀ q, q ≠ 27 → q ≠ 31 → M' q = M q := by
  obtain ⟨M1, e1, e2⟩ := x_putA (M := M) (o := 27 + 4) (by decide +kernel) (i := M 27 5) (v := v)
  exact ⟨_, by rw [f_X3_addStep, e1, zbn_s, znm_e], fun q h1 h2 => by rw [zu_row h1, e2 q h2]⟩
theorem r_emit (hh : N 0 16 = nI s) (hs : s < 400) : f_X11_emits N c n = some (zEr N s c n) := by
  have e : ∀ x : Nat, (1230 : Int32) + 2 * nI x = nI (1230 + 2 * x) := fun x => by rw [show (1230 : Int32) = nI 1230 from rfl, show (2 : Int32) = nI 2 from rfl, nI_mul, nI_add]
  have z : (0 : Nat) ≠ 1 := by decide
  rw [f_X11_emits, hh, e, zck_t (nI_lt_i (by omega) (by omega)), nI_cl (by omega), znm_e, zu_row z, hh, e, nI_p1, zck_t (nI_lt_i (by omega) (by omega)), nI_cl (by omega), znm_e, zu_row z, zu_row z, hh, nI_p1, znm_e]; rfl
def zTp (N : zM) (s s' h : Nat) (pre post : List Bool) : Prop := ∀ ts : List Bool, ts.length + h ≤ 40 → zTyR (zdf N) (s' - s) s (pre ++ ts) = some (post ++ ts)
theorem zTyR_add {w : Nat → Int32} : ∀ (a c i : Nat) (ts : List Bool), zTyR w (a + c) i ts = (zTyR w a i ts).bind (zTyR w c (i + a))
  | 0, c, i, ts => by rw [Nat.zero_add]; rfl
  | a + 1, c, i, ts => by
    rw [show a + 1 + c = (a + c) + 1 by omega]
    show (zTy1 (w (381 + 2 * i)) ts).bind (zTyR w (a + c) (i + 1)) = ((zTy1 (w (381 + 2 * i)) ts).bind (zTyR w a (i + 1))).bind (zTyR w c (i + (a + 1)))
    cases zTy1 (w (381 + 2 * i)) ts with
    | none => rfl
    | some t =>
      show zTyR w (a + c) (i + 1) t = (zTyR w a (i + 1) t).bind (zTyR w c (i + (a + 1)))
      rw [zTyR_add a c (i + 1) t, show i + 1 + a = i + (a + 1) by omega]
theorem zTp.trans (h1 : zTp N s s1 h pre mid) (h2 : zTp N s1 s2 h mid post) (a : s ≤ s1) (c : s1 ≤ s2) : zTp N s s2 h pre post := by
  intro ts ht
  rw [show s2 - s = (s1 - s) + (s2 - s1) by omega, zTyR_add, h1 ts ht, show s + (s1 - s) = s1 by omega]
  exact h2 ts ht
theorem zTp.nil : zTp N s s h pre pre := by intro ts _; rw [Nat.sub_self]; rfl
theorem zTp.up (h1 : zTp N s s' h pre post) (hh : h ≤ h') : zTp N s s' h' pre post := fun ts ht => h1 ts (by omega)
theorem zTp.push {p : List Bool} {t : Bool} (h1 : zTp N s s' h [] [t]) (hh : h + p.length ≤ h') : zTp N s s' h' p (t :: p) := by
  intro ts ht
  exact h1 (p ++ ts) (by rw [List.length_append]; omega)
theorem zTp.eq (h1 : zTp N s s' h pre post) (he : ∀ j, 1230 + 2 * s ≤ j → j < 1230 + 2 * s' → N' 1 j = N 1 j) : zTp N' s s' h pre post := by
  intro ts ht
  rw [zTyR_eq (w := zdf N) (w' := zdf N') (s' - s) s (pre ++ ts) (fun j h1 h2 => he _ (by omega) (by omega))]
  exact h1 ts ht
theorem zTp.one (hc : N 1 (1230 + 2 * s) = c) (h1 : ∀ ts : List Bool, ts.length + h ≤ 40 → zTy1 c (pre ++ ts) = some (post ++ ts)) : zTp N s (s + 1) h pre post := by
  intro ts ht
  rw [show s + 1 - s = 1 by omega]
  show (zTy1 (N 1 (849 + (381 + 2 * s))) (pre ++ ts)).bind (zTyR _ 0 (s + 1)) = _
  rw [show 849 + (381 + 2 * s) = 1230 + 2 * s by omega, hc, h1 ts ht]; rfl
def zLg (s : Nat) (M N M' N' : zM) : Prop := (∀ q, q ≠ 27 → q ≠ 31 → q ≠ 39 → M' q = M q) ∧ (∀ j, j ≠ 5 → M' 27 j = M 27 j) ∧ (∀ i, i < s → M' 31 i = M 31 i) ∧ (∀ q, q ≠ 0 → q ≠ 1 → N' q = N q) ∧ (∀ j, j ≠ 10 → j ≠ 12 → j ≠ 13 → j ≠ 16 → N' 0 j = N 0 j) ∧ (∀ j, j < 1230 + 2 * s → N' 1 j = N 1 j)
theorem zLg.refl : zLg s M N M N := ⟨fun _ _ _ _ => rfl, fun _ _ => rfl, fun _ _ => rfl, fun _ _ _ => rfl, fun _ _ _ _ _ => rfl, fun _ _ => rfl⟩
theorem zLg.trans {N'' : zM} (g : zLg s M N M' N') (g' : zLg s1 M' N' M'' N'') (hs : s ≤ s1) : zLg s M N M'' N'' := by
  obtain ⟨a1, a2, a3, a4, a5, a6⟩ := g
  obtain ⟨c1, c2, c3, c4, c5, c6⟩ := g'
  exact ⟨fun q x y z => (c1 q x y z).trans (a1 q x y z), fun j x => (c2 j x).trans (a2 j x), fun i x => (c3 i (by omega)).trans (a3 i x), fun q x y => (c4 q x y).trans (a4 q x y), fun j x y z t => (c5 j x y z t).trans (a5 j x y z t), fun j x => (c6 j (by omega)).trans (a6 j x)⟩
theorem zLg.text (hM : zMf M M') (hN : zNf N N') (h1 : N' 1 = N 1) : zLg s M N M' N' := ⟨fun q _ _ z => hM q z, fun j _ => by rw [hM 27 (by decide)], fun i _ => by rw [hM 31 (by decide)], hN.1, fun j x y _ _ => hN.2 j x y, fun j _ => by rw [h1]⟩
theorem zLg.ex : zLg s M N (zEx M s v) N := by
  unfold zEx
  refine ⟨fun q x y _ => by rw [zu_row x, zu_row y], fun j x => by rw [zu_at, if_neg (by omega), zu_row (by decide)], fun i x => by rw [zu_row (by decide), zu_at, if_neg (by omega)], fun _ _ _ => rfl, fun _ _ _ _ _ => rfl, fun _ _ => rfl⟩
theorem zLg.er : zLg s M N M (zEr N s c n) := by
  unfold zEr
  refine ⟨fun _ _ _ _ => rfl, fun _ _ => rfl, fun _ _ => rfl, fun q x y => by rw [zu_row x, zu_row y, zu_row y], fun j x y z t => by rw [zu_at, if_neg (by omega), zu_row (by decide), zu_row (by decide)], fun j x => by rw [zu_row (by decide), zu_at, if_neg (by omega), zu_at, if_neg (by omega)]⟩
def zSp (M N : zM) (s : Nat) : Prop := M 27 5 = nI s ∧ N 0 16 = nI s ∧ ∀ i, i < s → zSt (M 31 i) (N 1 (1230 + 2 * i)) (N 1 (1230 + 2 * i + 1))
theorem zSp.eq (p : zSp M N s) (h27 : M' 27 = M 27) (h31 : M' 31 = M 31) (h16 : N' 0 16 = N 0 16) (h1 : N' 1 = N 1) : zSp M' N' s := by
  unfold zSp; rw [h27, h31, h16, h1]; exact p
theorem zSp.move (p : zSp M N s) (hM : zMf M M') (hN : zNf N N') (h1 : N' 1 = N 1) : zSp M' N' s := p.eq (hM 27 (by decide)) (hM 31 (by decide)) (hN.2 16 (by decide) (by decide)) h1
theorem zEx_5 : zEx M s v 27 5 = nI (s + 1) := by unfold zEx; rw [zu_at, if_pos ⟨rfl, rfl⟩]
theorem zEr_16 : zEr N s c n 0 16 = nI (s + 1) := by unfold zEr; rw [zu_at, if_pos ⟨rfl, rfl⟩]
theorem zEr_0 {j : Nat} (hj : j ≠ 16) : zEr N s c n 0 j = N 0 j := by unfold zEr; rw [zu_at, if_neg (by omega), zu_row (by decide), zu_row (by decide)]
theorem zEr_1 {j : Nat} : zEr N s c n 1 j = if j = 1230 + 2 * s + 1 then n else if j = 1230 + 2 * s then c else N 1 j := by
  unfold zEr
  rw [zu_row (by decide), zu_at, zu_at]
  simp only [true_and]
theorem zEr_q {q : Nat} (h0 : q ≠ 0) (h1 : q ≠ 1) : zEr N s c n q = N q := by unfold zEr; rw [zu_row h0, zu_row h1, zu_row h1]
theorem zEr_c : zEr N s c n 1 (1230 + 2 * s) = c := by rw [zEr_1, if_neg (by omega), if_pos rfl]
theorem zEx_q {q : Nat} (h0 : q ≠ 27) (h1 : q ≠ 31) : zEx M s v q = M q := by unfold zEx; rw [zu_row h0, zu_row h1]
theorem zEx_31 {i : Nat} : zEx M s v 31 i = if i = s then v else M 31 i := by
  unfold zEx
  rw [zu_row (by decide), zu_at]
  simp only [true_and]
theorem zSp.emit (p : zSp M N s) (st : zSt v c n) : zSp (zEx M s v) (zEr N s c n) (s + 1) := by
  refine ⟨zEx_5, zEr_16, fun i hi => ?_⟩
  rw [zEx_31, zEr_1, zEr_1]
  by_cases e : i = s
  · rw [if_pos e, if_neg (by omega), if_pos (by omega), if_pos (by omega)]; exact st
  · rw [if_neg e, if_neg (by omega), if_neg (by omega), if_neg (by omega), if_neg (by omega)]; exact p.2.2 i (by omega)
theorem zPr.oth (p : zPr L M N b) (h1 : M' 1 = M 1) (h2 : M' 2 = M 2) (h39 : M' 39 = M 39) (h40 : M' 40 = M 40) (h10 : N' 0 10 = N 0 10) (h11 : N' 0 11 = N 0 11) (h6 : N' 6 = N 6) : zPr L M' N' b := by
  obtain ⟨p1, p2, p3, p4, q, q1, q2, q3⟩ := p
  have hb : zby M' = zby M := by funext j; unfold zby; rw [h2]
  exact ⟨⟨p1.1, by rw [h1]; exact p1.2.1, by rw [h11]; exact p1.2.2.1, fun j hj => by rw [h2, h6]; exact p1.2.2.2 j hj⟩, by rw [h40]; exact p2, p3.eq hb h39, by rw [h39]; exact p4, q, by rw [h10]; exact q1, q2, by rw [zsk_eq hb]; exact q3⟩
theorem zPr.ex (p : zPr L M N b) : zPr L (zEx M s v) N b := p.oth (zEx_q (by decide) (by decide)) (zEx_q (by decide) (by decide)) (zEx_q (by decide) (by decide)) (zEx_q (by decide) (by decide)) rfl rfl rfl
theorem zPr.er (p : zPr L M N b) : zPr L M (zEr N s c n) b := p.oth rfl rfl rfl rfl (zEr_0 (by decide)) (zEr_0 (by decide)) (zEr_q (by decide) (by decide))
theorem zEx_by : zby (zEx M s v) = zby M := by funext j; unfold zby; rw [zEx_q (by decide) (by decide)]
def zLp (L : Nat) (M N : zM) (b s : Nat) : Prop := zPr L M N b ∧ zSp M N s ∧ s + 4 ≤ b
theorem zLp.s4 (p : zLp L M N b s) : s + 4 ≤ 400 := by have := p.2.2; have := p.1.bL; have := p.1.1.1; omega
def zLf (M N M' N' : zM) : Prop := ∃ bf : Nat, M' 39 6 = nI bf ∧ zBf (N' 0 12) bf ∧ (∀ q, q ≠ 27 → q ≠ 31 → q ≠ 39 → M' q = M q) ∧ (∀ q, q ≠ 0 → q ≠ 1 → N' q = N q) ∧ (∀ j, j ≠ 10 → j ≠ 12 → j ≠ 13 → j ≠ 16 → N' 0 j = N 0 j) ∧ (∀ j, j < 1181 → N' 1 j = N 1 j)
theorem zLf.from (f : zLf M1 N1 M' N') (g : zLg s M N M1 N1) : zLf M N M' N' := by
  obtain ⟨bf, f1, f2, f3, f4, f5, f6⟩ := f
  obtain ⟨a1, a2, a3, a4, a5, a6⟩ := g
  exact ⟨bf, f1, f2, fun q x y z => (f3 q x y z).trans (a1 q x y z), fun q x y => (f4 q x y).trans (a4 q x y), fun j x y z t => (f5 j x y z t).trans (a5 j x y z t), fun j x => (f6 j x).trans (a6 j (by omega))⟩
theorem zLf.x (f : zLf M N M' N') (hM : ∀ q, q ≠ 27 → q ≠ 31 → M'' q = M' q) : zLf M N M'' N' := by
  obtain ⟨bf, f1, f2, f3, f4, f5, f6⟩ := f
  exact ⟨bf, by rw [hM 39 (by decide) (by decide)]; exact f1, f2, fun q x y z => (hM q x y).trans (f3 q x y z), f4, f5, f6⟩
def zLo (L h : Nat) (pre post : List Bool) (M N : zM) (b s : Nat) (fx fr : Option (Int32 × zM)) : Prop := (∃ M' N' b' s', fx = some (1, M') ∧ fr = some (1, N') ∧ zLp L M' N' b' s' ∧ s ≤ s' ∧ s' + b ≤ s + b' ∧ zLg s M N M' N' ∧ N' 0 13 = N 0 13 ∧ zTp N' s s' h pre post) ∨ (∃ M' N', fx = some (0, M') ∧ fr = some (0, N') ∧ zLf M N M' N')
theorem zLo.from {fx fr : Option (Int32 × zM)} (o : zLo L h mid post M1 N1 b1 s1 fx fr) (g : zLg s M N M1 N1) (hs : s ≤ s1) (hb : s1 + b ≤ s + b1) (h13 : N1 0 13 = N 0 13) (t : zTp N1 s s1 h pre mid) : zLo L h pre post M N b s fx fr := by
  rcases o with ⟨M', N', b', s', o1, o2, o3, o4, o5, o6, o7, o8⟩ | ⟨M', N', o1, o2, o3⟩
  · exact Or.inl ⟨M', N', b', s', o1, o2, o3, by omega, by omega, g.trans o6 hs, o7.trans h13, (t.eq (fun j _ x => o6.2.2.2.2.2 j x)).trans o8 hs o4⟩
  · exact Or.inr ⟨M', N', o1, o2, o3.from g⟩
theorem zLo.up {fx fr : Option (Int32 × zM)} (o : zLo L h pre post M N b s fx fr) (hh : h ≤ h') : zLo L h' pre post M N b s fx fr := by
  rcases o with ⟨M', N', b', s', o1, o2, o3, o4, o5, o6, o7, o8⟩ | o
  · exact Or.inl ⟨M', N', b', s', o1, o2, o3, o4, o5, o6, o7, o8.up hh⟩
  · exact Or.inr o
theorem k_sign (p : zPr L M N b) {c : Nat} (hc : c < 128) (hn : ¬ (97 ≤ c ∧ c ≤ 122) ∧ ¬ (48 ≤ c ∧ c ≤ 57)) : (∃ M' N' b', f_X7_isSign M (nI c) = some 1 ∧ f_X7_next M = some M' ∧ f_X11_sign N (nI c) = some (1, N') ∧ zPr L M' N' b' ∧ b < b' ∧ zMf M M' ∧ zNf N N' ∧ N' 1 = N 1 ∧ N' 0 12 = nI b ∧ b < L ∧ zby M b = c) ∨ (f_X7_isSign M (nI c) = some 0 ∧ f_X11_sign N (nI c) = some (0, zNb N b b) ∧ zPr L M (zNb N b b) b) := by
  obtain ⟨x1, x2⟩ := x_isSign p hc hn
  have hr : f_X11_sign N (nI c) = (if (if b < L ∧ zby M b = c then (1 : Int32) else 0) = 0 then (some (0, zNb N b b)) else (znm (zu (zNb N b b) 0 10 (nI (b + 1))) (fun M_3 => some (1, M_3)))) := by
    rw [f_X11_sign, r_bl p, zbn_s, r_at p hc, zbn_s, zNb_10, nI_p1]
  by_cases q : b < L ∧ zby M b = c
  · rw [if_pos q] at x1 hr
    rw [if_neg n10, znm_e, zNb_set] at hr
    obtain ⟨M', g1, g2, g3⟩ := j_gos p q.1 (x2 q)
    have := (zsk_le (M := M) (L := L) (p := b + 1) (by omega)).1
    exact Or.inl ⟨M', _, _, x1, g1, hr, g3, by omega, g2, zNb_f, zNb_1, zNb_12, q.1, q.2⟩
  · rw [if_neg q] at x1 hr
    rw [if_pos rfl] at hr
    exact Or.inr ⟨x1, hr, p.bb⟩
theorem k_pass (p : zPr L M N b) {i : Nat} (hi : i < 29) : (∃ M' N' b', f_X7_skipWord M (nI i) = some (1, M') ∧ f_X7_next M = some M' ∧ f_X11_passes N (zwi i) = some (1, N') ∧ zPr L M' N' b' ∧ b < b' ∧ zMf M M' ∧ zNf N N' ∧ N' 1 = N 1 ∧ N' 0 12 = nI b ∧ zwm M b (zle L M b) (zwi i) = true) ∨ (∃ N', f_X7_skipWord M (nI i) = some (0, M) ∧ f_X11_passes N (zwi i) = some (0, N') ∧ zPr L M N' b ∧ zNf N N' ∧ N' 1 = N 1 ∧ zwm M b (zle L M b) (zwi i) = false) := by
  obtain ⟨u, u1, u2, u3, u4⟩ := x_word p
  have hr0 : f_X11_passes N (zwi i) = (if (if zwm M b (zle L M b) (zwi i) then (1 : Int32) else 0) = 0 then (znm (zu (zNb N b (zle L M b)) 0 10 (nI b)) (fun M_3 => some (0, M_3))) else (some (1, zNb N b (zle L M b)))) := by
    rw [f_X11_passes, r_let p, zbn_s, r_isw p hi, zbn_s, zNb_12]
  cases hm : zwm M b (zle L M b) (zwi i) with
  | true =>
    rw [hm, if_neg (by decide)] at hr0
    obtain ⟨M1, g1, g2, g3⟩ := j_go p hi hm
    have hl : ∀ i, i < 29 → 0 < zLen.getD (zwi i) 0 := by decide
    have hl1 := hl i hi
    have hlt : b < zle L M b := by
      unfold zwm at hm
      rw [Bool.and_eq_true, decide_eq_true_eq] at hm
      omega
    have := (zsk_le (M := M) (L := L) (p := zle L M b) (zle_le p.bL).2).1
    exact Or.inl ⟨M1, _, _, by rw [f_X7_skipWord, u1, zbn_s, if_pos ((u2 i hi).mpr hm), g1, zbn_s], g1, hr0, g3, by omega, g2, zNb_f, zNb_1, zNb_12, rfl⟩
  | false =>
    rw [hm, if_pos (by decide), znm_e, zNb_set] at hr0
    refine Or.inr ⟨_, ?_, hr0, p.same zNb_10 p.bL p.skb (by unfold zNb; rw [zu_at, if_neg (by decide), zu_at, if_neg (by decide)]) (by unfold zNb; rw [zu_row (by decide), zu_row (by decide)]), zNb_f, zNb_1, rfl⟩
    rw [f_X7_skipWord, u1, zbn_s, if_neg (fun z => by have := (u2 i hi).mp z; rw [hm] at this; exact absurd this (by decide))]
end
