section
variable {T : Int} {M N : zM} {k m : Nat} {wt : Int32}
def zKr (N : zM) (x3 : Int32) (vs : List Int32) : Prop := x3 = nI vs.length ∧ zSk (N 8) vs
theorem rk_push {n : Nat} {x4 x3 v : Int32} {vs : List Int32} {i : Nat} (h : zKr N x3 vs) (hl : vs.length < 40) {K : zM → Int32 → Int32 → Option (Int32 × zM)} : ∃ N' x3', (zck (zin x3 400) (znm (zu N 8 (x3 : Int32).toNatClampNeg v) (fun M_21 => znm (x3 + 1) (fun x3_22 => b_X11_holdsLine_257 K M_21 (nI m) x3_22 x4 (nI i))))) = K N' x3' (nI (i + 1)) ∧ zKr N' x3' (v :: vs) ∧ ∀ q, q ≠ 8 → N' q = N q := by
  obtain ⟨rfl, h2⟩ := h
  refine ⟨zu N 8 vs.length v, nI (vs.length + 1), ?_, ⟨rfl, ?_, ?_⟩, fun q hq => zu_row hq⟩
  · rw [zck_t (nI_lt_i (by omega) (by omega)), nI_cl (by omega), znm_e, znm_e, b_X11_holdsLine_257, znm_e, nI_p1, nI_p1]
  · rw [zu_at, if_pos ⟨rfl, rfl⟩]
  · rw [zu_self]; exact zSk_up vs (Nat.le_refl _) h2
theorem rk_256 {x4 v a : Int32} {r : List Int32} {i : Nat} (hl : r.length < 40) (h : zSk (N 8) (a :: r)) {K : zM → Int32 → Int32 → Option (Int32 × zM)} : ∃ N' x3', b_X11_holdsLine_256 K N (nI m) (nI (r.length + 1)) x4 (nI i) v (nI (r.length + 1) - 1) = K N' x3' (nI (i + 1)) ∧ zKr N' x3' (v :: r) ∧ ∀ q, q ≠ 8 → N' q = N q := by
  refine ⟨zu N 8 r.length v, nI (r.length + 1), ?_, ⟨rfl, ?_, ?_⟩, fun q hq => zu_row hq⟩
  · rw [b_X11_holdsLine_256, nI_m1, zck_t (nI_lt_i (by omega) (by omega)), nI_cl (by omega), znm_e, b_X11_holdsLine_257, znm_e, nI_p1]
  · rw [zu_at, if_pos ⟨rfl, rfl⟩]
  · rw [zu_self]; exact zSk_up r (Nat.le_refl _) h.2
theorem rk_222 {x4 a b c t0 : Int32} {r : List Int32} {i : Nat} (hl : r.length < 40) (h : zSk (N 8) (a :: r)) (ht : c ≠ 9 → t0 = zE2 c a b) (h01 : t0 = 0 ∨ t0 = 1) {K : zM → Int32 → Int32 → Option (Int32 × zM)} : ∃ N' x3', b_X11_holdsLine_222 K N (nI m) (nI (r.length + 1)) x4 (nI i) c a b t0 = K N' x3' (nI (i + 1)) ∧ zKr N' x3' (zE2 c a b :: r) ∧ ∀ q, q ≠ 8 → N' q = N q := by
  rw [b_X11_holdsLine_222]
  by_cases q : c = 9
  · rw [if_pos q]
    have e : zE2 c a b = a + b := by unfold zE2; rw [if_pos q]
    rw [e]; exact rk_256 hl h
  · rw [if_neg q, ← ht q]
    rcases h01 with z | z <;> rw [z]
    · rw [if_pos rfl]; exact rk_256 hl h
    · rw [if_neg (by decide)]; exact rk_256 hl h
theorem rk_two {n : Nat} {x4 x3 a b c : Int32} {r : List Int32} {i : Nat} (h : zKr N x3 (b :: a :: r)) (hl : r.length < 40) {K : zM → Int32 → Int32 → Option (Int32 × zM)} : ∃ N' x3', (znm (x3 + (-1)) (fun x3_8 => zck (zin (x3_8 - 1) 400) (znm (N 8 (x3_8 - 1 : Int32).toNatClampNeg) (fun x7_9 => zck (zin x3_8 400) (znm (N 8 (x3_8 : Int32).toNatClampNeg) (fun x8_10 => if c = 10 then (if x8_10 ≤ x7_9 then (b_X11_holdsLine_222 K N (nI m) x3_8 x4 (nI i) c x7_9 x8_10 0) else (b_X11_holdsLine_222 K N (nI m) x3_8 x4 (nI i) c x7_9 x8_10 1)) else (if c = 11 then (if x7_9 ≤ x8_10 then (b_X11_holdsLine_222 K N (nI m) x3_8 x4 (nI i) c x7_9 x8_10 0) else (b_X11_holdsLine_222 K N (nI m) x3_8 x4 (nI i) c x7_9 x8_10 1)) else (if c = 13 then (if (x7_9 + x8_10) = 2 then (b_X11_holdsLine_222 K N (nI m) x3_8 x4 (nI i) c x7_9 x8_10 1) else (b_X11_holdsLine_222 K N (nI m) x3_8 x4 (nI i) c x7_9 x8_10 0)) else (if (x7_9 + x8_10) ≤ 0 then (b_X11_holdsLine_222 K N (nI m) x3_8 x4 (nI i) c x7_9 x8_10 0) else (b_X11_holdsLine_222 K N (nI m) x3_8 x4 (nI i) c x7_9 x8_10 1)))))))))) = K N' x3' (nI (i + 1)) ∧ zKr N' x3' (zE2 c a b :: r) ∧ ∀ q, q ≠ 8 → N' q = N q := by
  obtain ⟨rfl, h1, h2⟩ := h
  simp only [List.length_cons] at h1
  have e1 : nI (b :: a :: r).length + (-1) = nI (r.length + 1) := by rw [i_m1]; simp only [List.length_cons]; rw [nI_m1]
  rw [e1, znm_e, nI_m1, zck_t (nI_lt_i (by omega) (by omega)), nI_cl (by omega), znm_e, zck_t (nI_lt_i (by omega) (by omega)), nI_cl (by omega), znm_e, h2.1, h1]
  by_cases q1 : c = 10
  · rw [if_pos q1]
    have e : zE2 c a b = if a < b then 1 else 0 := by unfold zE2; rw [q1, if_neg (by decide), if_pos rfl]
    rw [lt_ite]
    by_cases q : a < b
    · rw [if_pos q]; exact rk_222 hl h2 (fun _ => by rw [e, if_pos q]) (Or.inr rfl)
    · rw [if_neg q]; exact rk_222 hl h2 (fun _ => by rw [e, if_neg q]) (Or.inl rfl)
  rw [if_neg q1]
  by_cases q2 : c = 11
  · rw [if_pos q2]
    have e : zE2 c a b = if b < a then 1 else 0 := by unfold zE2; rw [q2, if_neg (by decide), if_neg (by decide), if_pos rfl]
    rw [lt_ite]
    by_cases q : b < a
    · rw [if_pos q]; exact rk_222 hl h2 (fun _ => by rw [e, if_pos q]) (Or.inr rfl)
    · rw [if_neg q]; exact rk_222 hl h2 (fun _ => by rw [e, if_neg q]) (Or.inl rfl)
  rw [if_neg q2]
  by_cases q3 : c = 13
  · rw [if_pos q3]
    have e : zE2 c a b = if a + b = 2 then 1 else 0 := by unfold zE2; rw [q3, if_neg (by decide), if_neg (by decide), if_neg (by decide), if_pos rfl]
    by_cases q : a + b = 2
    · rw [if_pos q]; exact rk_222 hl h2 (fun _ => by rw [e, if_pos q]) (Or.inr rfl)
    · rw [if_neg q]; exact rk_222 hl h2 (fun _ => by rw [e, if_neg q]) (Or.inl rfl)
  rw [if_neg q3, lt_ite]
  by_cases q : 0 < a + b
  · rw [if_pos q]; exact rk_222 hl h2 (fun q9 => by unfold zE2; rw [if_neg q9, if_neg q1, if_neg q2, if_neg q3, if_pos q]) (Or.inr rfl)
  · rw [if_neg q]; exact rk_222 hl h2 (fun q9 => by unfold zE2; rw [if_neg q9, if_neg q1, if_neg q2, if_neg q3, if_neg q]) (Or.inl rfl)
theorem x_join {a b c s : Int32} {r : List Int32} (h : zKs M (b :: a :: r)) (hsc : (s = 43 ∧ c = 9) ∨ (s = 60 ∧ c = 10) ∨ (s = 62 ∧ c = 11) ∨ (s = 19 ∧ c = 13 ∧ (a = 0 ∨ a = 1) ∧ (b = 0 ∨ b = 1)) ∨ (s = 18 ∧ c = 14 ∧ (a = 0 ∨ a = 1) ∧ (b = 0 ∨ b = 1))) : ∃ M', f_X3_join M 21 s = some M' ∧ zKs M' (zE2 c a b :: r) ∧ zFr M M' := by
  obtain ⟨M1, a1, a2, a3⟩ := x_pop h
  obtain ⟨M2, b1, b2, b3⟩ := x_pop a2
  have hl : r.length < 40 := by have := a2.2.2; simp only [List.length_cons] at this; omega
  obtain ⟨M3, c1, c2, c3⟩ := x_push b2 hl (zE2 c a b)
  refine ⟨M3, ?_, c2, (a3.trans b3).trans c3⟩
  rw [f_X3_join, a1, zbn_s, b1, zbn_s]
  rcases hsc with ⟨rfl, rfl⟩ | ⟨rfl, rfl⟩ | ⟨rfl, rfl⟩ | ⟨rfl, rfl, h1, h2⟩ | ⟨rfl, rfl, h1, h2⟩
  · rw [if_neg (by decide), if_pos rfl]
    have e : zE2 9 a b = a + b := rfl
    rw [e] at c1
    rw [c1, zbn_s]
  · rw [if_neg (by decide), if_neg (by decide), if_pos rfl]
    have e : zE2 10 a b = if a < b then 1 else 0 := rfl
    rw [e] at c1
    show (if b ≤ a then (b_X3_join_73 21 M2 0) else (b_X3_join_73 21 M2 1)) = _
    rw [lt_ite]
    by_cases q : a < b
    · rw [if_pos q] at c1 ⊢; rw [b_X3_join_73, c1, zbn_s]
    · rw [if_neg q] at c1 ⊢; rw [b_X3_join_73, c1, zbn_s]
  · rw [if_neg (by decide), if_neg (by decide), if_neg (by decide), if_pos rfl]
    have e : zE2 11 a b = if b < a then 1 else 0 := rfl
    rw [e] at c1
    show (if a ≤ b then (b_X3_join_90 21 M2 0) else (b_X3_join_90 21 M2 1)) = _
    rw [lt_ite]
    by_cases q : b < a
    · rw [if_pos q] at c1 ⊢; rw [b_X3_join_90, c1, zbn_s]
    · rw [if_neg q] at c1 ⊢; rw [b_X3_join_90, c1, zbn_s]
  · rw [if_pos rfl]
    have e : zE2 13 a b = a &&& b := (and01 h1 h2).1.symm
    rw [e] at c1
    rw [c1, zbn_s]
  · rw [if_neg (by decide), if_neg (by decide), if_neg (by decide), if_neg (by decide)]
    have e : zE2 14 a b = a ||| b := (and01 h1 h2).2.symm
    rw [e] at c1
    rw [c1, zbn_s]
theorem zE2_01 {c a b : Int32} (h : c ≠ 9) : zE2 c a b = 0 ∨ zE2 c a b = 1 := by
  unfold zE2
  rw [if_neg h]
  repeat' split
  all_goals simp
theorem ty_9 : ∀ {ts ts' : List Bool}, zTy1 9 ts = some ts' → ∃ r, ts = false :: false :: r ∧ ts' = false :: r
  | [], _, h => absurd (show (none : Option (List Bool)) = some _ from h) (by simp)
  | [x], ts', h => absurd (show (none : Option (List Bool)) = some ts' from by cases x <;> exact h) (by simp)
  | x :: y :: r, ts', h => by
    cases x <;> cases y <;> first
      | exact ⟨r, rfl, (Option.some.inj (show some (false :: r) = some ts' from h)).symm⟩
      | exact absurd (show (none : Option (List Bool)) = some ts' from h) (by simp)
theorem ty_10 : ∀ {ts ts' : List Bool}, zTy1 10 ts = some ts' → ∃ r, ts = false :: false :: r ∧ ts' = true :: r
  | [], _, h => absurd (show (none : Option (List Bool)) = some _ from h) (by simp)
  | [x], ts', h => absurd (show (none : Option (List Bool)) = some ts' from by cases x <;> exact h) (by simp)
  | x :: y :: r, ts', h => by
    cases x <;> cases y <;> first
      | exact ⟨r, rfl, (Option.some.inj (show some (true :: r) = some ts' from h)).symm⟩
      | exact absurd (show (none : Option (List Bool)) = some ts' from h) (by simp)
theorem ty_11 : ∀ {ts ts' : List Bool}, zTy1 11 ts = some ts' → ∃ r, ts = false :: false :: r ∧ ts' = true :: r
  | [], _, h => absurd (show (none : Option (List Bool)) = some _ from h) (by simp)
  | [x], ts', h => absurd (show (none : Option (List Bool)) = some ts' from by cases x <;> exact h) (by simp)
  | x :: y :: r, ts', h => by
    cases x <;> cases y <;> first
      | exact ⟨r, rfl, (Option.some.inj (show some (true :: r) = some ts' from h)).symm⟩
      | exact absurd (show (none : Option (List Bool)) = some ts' from h) (by simp)
theorem ty_13 : ∀ {ts ts' : List Bool}, zTy1 13 ts = some ts' → ∃ r, ts = true :: true :: r ∧ ts' = true :: r
  | [], _, h => absurd (show (none : Option (List Bool)) = some _ from h) (by simp)
  | [x], ts', h => absurd (show (none : Option (List Bool)) = some ts' from by cases x <;> exact h) (by simp)
  | x :: y :: r, ts', h => by
    cases x <;> cases y <;> first
      | exact ⟨r, rfl, (Option.some.inj (show some (true :: r) = some ts' from h)).symm⟩
      | exact absurd (show (none : Option (List Bool)) = some ts' from h) (by simp)
theorem ty_14 : ∀ {ts ts' : List Bool}, zTy1 14 ts = some ts' → ∃ r, ts = true :: true :: r ∧ ts' = true :: r
  | [], _, h => absurd (show (none : Option (List Bool)) = some _ from h) (by simp)
  | [x], ts', h => absurd (show (none : Option (List Bool)) = some ts' from by cases x <;> exact h) (by simp)
  | x :: y :: r, ts', h => by
    cases x <;> cases y <;> first
      | exact ⟨r, rfl, (Option.some.inj (show some (true :: r) = some ts' from h)).symm⟩
      | exact absurd (show (none : Option (List Bool)) = some ts' from h) (by simp)
theorem s_step (h : zWr T M k (N 1)) (hx : xw k) (ok : zOk (N 1)) (hw : wt = sWater (N 1) (N 1 4) (N 1 9)) (hm : m < 6) {x2 x3 x4 : Int32} {i j n : Nat} {ts ts' : List Bool} {vs : List Int32} (hi : ¬ x2 ≤ nI i) (hi4 : i < 400) (he : zin (x4 + 3) 2030 = true) (hie : ¬ (N 1 (x4 + 3 : Int32).toNatClampNeg) ≤ nI i) (hs : zSt (M 25 i) (N 1 (381 + 2 * i)) (N 1 (382 + 2 * i))) (ht : zTy1 (N 1 (381 + 2 * i)) ts = some ts') (hv : zV ts vs) (hM : zKs M vs) (hN : zKr N x3 vs) :
    ∃ M' N' x3' vs', b_X3_holds_15 21 k x2 (nI m) wt (j + 1) M (nI i) = b_X3_holds_15 21 k x2 (nI m) wt j M' (nI (i + 1)) ∧ b_X11_holdsLine_22 (nI m) x4 (n + 1) N x3 (nI i) = b_X11_holdsLine_22 (nI m) x4 n N' x3' (nI (i + 1)) ∧ zFr M M' ∧ (∀ q, q ≠ 8 → N' q = N q) ∧ zV ts' vs' ∧ zKs M' vs' ∧ zKr N' x3' vs' := by
  have eat : f_X10_at M (21 + 4) (nI i) = some (M 25 i) := x_at (by decide +kernel) (by omega) hi4
  have ec : (381 : Int32) + 2 * nI i = nI (381 + 2 * i) := by rw [show (2 : Int32) = nI 2 from rfl, show (381 : Int32) = nI 381 from rfl, nI_mul, nI_add]
  have ec2 : nI (381 + 2 * i) + 1 = nI (382 + 2 * i) := by rw [nI_p1]; congr 1; omega
  have hlen := zV_len hv
  have hX : ∀ s : Int32, M 25 i = s → b_X3_holds_15 21 k x2 (nI m) wt (j + 1) M (nI i) = (if 0 ≤ s - 1000 then (if s - 1000 < 21 then (b_X3_holds_85 (fun M x6 => b_X3_holds_15 21 k x2 (nI m) wt j M x6) 21 k M x2 (nI m) wt (nI i) (s - 1000)) else (if 28 < s - 1000 then (b_X3_holds_85 (fun M x6 => b_X3_holds_15 21 k x2 (nI m) wt j M x6) 21 k M x2 (nI m) wt (nI i) (s - 1000)) else (zbn (f_X3_termOf M (s - 1000) k (nI m) wt) (fun u_10 => zbn (f_X3_push M 21 u_10) (fun u_11 => b_X3_holds_111 (fun M x6 => b_X3_holds_15 21 k x2 (nI m) wt j M x6) 21 k u_11 x2 (nI m) wt (nI i)))))) else (zbn (f_X3_push M 21 s) (fun u_14 => b_X3_holds_111 (fun M x6 => b_X3_holds_15 21 k x2 (nI m) wt j M x6) 21 k u_14 x2 (nI m) wt (nI i)))) := by
    intro s hs
    rw [b_X3_holds_15, if_neg hi, eat, zbn_s, znm_e, hs]
  have h111 : ∀ Z, b_X3_holds_111 (fun M x6 => b_X3_holds_15 21 k x2 (nI m) wt j M x6) 21 k Z x2 (nI m) wt (nI i) = b_X3_holds_15 21 k x2 (nI m) wt j Z (nI (i + 1)) := fun Z => by rw [b_X3_holds_111, znm_e, nI_p1]
  generalize hK : (fun M x3 x5 => b_X11_holdsLine_22 (nI m) x4 n M x3 x5) = K
  have hKe : ∀ a b c, b_X11_holdsLine_22 (nI m) x4 n a b c = K a b c := fun a b c => by rw [← hK]
  have hR : ∀ c : Int32, N 1 (381 + 2 * i) = c → b_X11_holdsLine_22 (nI m) x4 (n + 1) N x3 (nI i) = (if 8 < c then (if c = 12 then (zck (zin (x3 - 1) 400) (zck (zin (x3 - 1) 400) (znm (zu N 8 (x3 - 1 : Int32).toNatClampNeg (1 - (N 8 (x3 - 1 : Int32).toNatClampNeg))) (fun M_18 => b_X11_holdsLine_257 K M_18 (nI m) x3 x4 (nI i))))) else (znm (x3 + (-1)) (fun x3_8 => zck (zin (x3_8 - 1) 400) (znm (N 8 (x3_8 - 1 : Int32).toNatClampNeg) (fun x7_9 => zck (zin x3_8 400) (znm (N 8 (x3_8 : Int32).toNatClampNeg) (fun x8_10 => if c = 10 then (if x8_10 ≤ x7_9 then (b_X11_holdsLine_222 K N (nI m) x3_8 x4 (nI i) c x7_9 x8_10 0) else (b_X11_holdsLine_222 K N (nI m) x3_8 x4 (nI i) c x7_9 x8_10 1)) else (if c = 11 then (if x7_9 ≤ x8_10 then (b_X11_holdsLine_222 K N (nI m) x3_8 x4 (nI i) c x7_9 x8_10 0) else (b_X11_holdsLine_222 K N (nI m) x3_8 x4 (nI i) c x7_9 x8_10 1)) else (if c = 13 then (if (x7_9 + x8_10) = 2 then (b_X11_holdsLine_222 K N (nI m) x3_8 x4 (nI i) c x7_9 x8_10 1) else (b_X11_holdsLine_222 K N (nI m) x3_8 x4 (nI i) c x7_9 x8_10 0)) else (if (x7_9 + x8_10) ≤ 0 then (b_X11_holdsLine_222 K N (nI m) x3_8 x4 (nI i) c x7_9 x8_10 0) else (b_X11_holdsLine_222 K N (nI m) x3_8 x4 (nI i) c x7_9 x8_10 1))))))))))) else (zbn (f_X11_factOf N c (N 1 (382 + 2 * i)) (nI m)) (fun u_20 => zck (zin x3 400) (znm (zu N 8 (x3 : Int32).toNatClampNeg u_20) (fun M_21 => znm (x3 + 1) (fun x3_22 => b_X11_holdsLine_257 K M_21 (nI m) x3_22 x4 (nI i))))))) := by
    intro c hc
    rw [← hK, b_X11_holdsLine_22, zck_t he, if_neg hie, ec, zck_t (nI_lt_i (by omega) (by omega)), nI_cl (by omega), znm_e, hc, ec2, zck_t (nI_lt_i (by omega) (by omega)), nI_cl (by omega)]
  simp only [hKe]
  have hpush : ∀ (s c v : Int32), M 25 i = s → N 1 (381 + 2 * i) = c → c ≤ 8 → b_X3_holds_15 21 k x2 (nI m) wt (j + 1) M (nI i) = zbn (f_X3_push M 21 v) (fun u_14 => b_X3_holds_111 (fun M x6 => b_X3_holds_15 21 k x2 (nI m) wt j M x6) 21 k u_14 x2 (nI m) wt (nI i)) → f_X11_factOf N c (N 1 (382 + 2 * i)) (nI m) = some v → ((c = 6 || c = 7) = true → v = 0 ∨ v = 1) → ∃ M' N' x3' vs', b_X3_holds_15 21 k x2 (nI m) wt (j + 1) M (nI i) = b_X3_holds_15 21 k x2 (nI m) wt j M' (nI (i + 1)) ∧ b_X11_holdsLine_22 (nI m) x4 (n + 1) N x3 (nI i) = K N' x3' (nI (i + 1)) ∧ zFr M M' ∧ (∀ q, q ≠ 8 → N' q = N q) ∧ zV ts' vs' ∧ zKs M' vs' ∧ zKr N' x3' vs' := by
    intro s c v hs hc hc8 ex er h01
    rw [hc] at ht
    unfold zTy1 at ht
    rw [if_pos hc8] at ht
    by_cases hl : ts.length < 40
    · rw [if_pos hl] at ht
      obtain ⟨M', a1, a2, a3⟩ := x_push hM (by omega) v
      obtain ⟨N', x3', b1, b2, b3⟩ := rk_push (n := n) (m := m) (x4 := x4) (v := v) (i := i) hN (by omega) (K := K)
      refine ⟨M', N', x3', v :: vs, ?_, ?_, a3, b3, ?_, a2, b2⟩
      · rw [ex, a1, zbn_s, h111]
      · rw [hR c hc, if_neg (by rw [i_lt]; rw [i_le] at hc8; omega), er, zbn_s, b1]
      · have : ts' = (c = 6 || c = 7) :: ts := by simpa using ht.symm
        rw [this]; exact ⟨h01, hv⟩
    · rw [if_neg hl] at ht; exact absurd ht (by simp)
  have htwo : ∀ (s c : Int32) (bb : Bool) (ka : Bool), M 25 i = s → N 1 (381 + 2 * i) = c → 8 < c → c ≠ 12 → b_X3_holds_15 21 k x2 (nI m) wt (j + 1) M (nI i) = zbn (f_X3_join M 21 (s - 1000)) (fun u_4 => b_X3_holds_111 (fun M x6 => b_X3_holds_15 21 k x2 (nI m) wt j M x6) 21 k u_4 x2 (nI m) wt (nI i)) → (∃ r, ts = ka :: ka :: r ∧ ts' = bb :: r) → (∀ a b : Int32, (ka = true → (a = 0 ∨ a = 1) ∧ (b = 0 ∨ b = 1)) → (s - 1000 = 43 ∧ c = 9) ∨ (s - 1000 = 60 ∧ c = 10) ∨ (s - 1000 = 62 ∧ c = 11) ∨ (s - 1000 = 19 ∧ c = 13 ∧ (a = 0 ∨ a = 1) ∧ (b = 0 ∨ b = 1)) ∨ (s - 1000 = 18 ∧ c = 14 ∧ (a = 0 ∨ a = 1) ∧ (b = 0 ∨ b = 1))) → (bb = true → c ≠ 9) → ∃ M' N' x3' vs', b_X3_holds_15 21 k x2 (nI m) wt (j + 1) M (nI i) = b_X3_holds_15 21 k x2 (nI m) wt j M' (nI (i + 1)) ∧ b_X11_holdsLine_22 (nI m) x4 (n + 1) N x3 (nI i) = K N' x3' (nI (i + 1)) ∧ zFr M M' ∧ (∀ q, q ≠ 8 → N' q = N q) ∧ zV ts' vs' ∧ zKs M' vs' ∧ zKr N' x3' vs' := by
    intro s c bb ka hs hc hc8 hc12 ex hr hj hb9
    obtain ⟨r, rfl, rfl⟩ := hr
    match vs, hv, hM, hN with
    | b :: a :: rv, hv, hM, hN =>
      obtain ⟨v1, v2, v3⟩ := hv
      obtain ⟨M', a1, a2, a3⟩ := x_join (c := c) (s := s - 1000) hM (hj a b (fun hk => ⟨v2 hk, v1 hk⟩))
      have hl := hM.2.2
      simp only [List.length_cons] at hl
      obtain ⟨N', x3', b1, b2, b3⟩ := rk_two (n := n) (m := m) (x4 := x4) (c := c) (i := i) hN (by omega) (K := K)
      refine ⟨M', N', x3', zE2 c a b :: rv, ?_, ?_, a3, b3, ⟨fun hb => zE2_01 (hb9 hb), v3⟩, a2, b2⟩
      · rw [ex, a1, zbn_s, h111]
      · rw [hR c hc, if_pos hc8, if_neg hc12, b1]
    | [], hv, _, _ => exact absurd hv (by simp [zV])
    | [x], hv, _, _ => exact absurd hv (by simp [zV])
  have hbin : ∀ (s : Int32), M 25 i = s → (s - 1000 = 43 ∨ s - 1000 = 60 ∨ s - 1000 = 62 ∨ s - 1000 = 19 ∨ s - 1000 = 18) → b_X3_holds_15 21 k x2 (nI m) wt (j + 1) M (nI i) = zbn (f_X3_join M 21 (s - 1000)) (fun u_4 => b_X3_holds_111 (fun M x6 => b_X3_holds_15 21 k x2 (nI m) wt j M x6) 21 k u_4 x2 (nI m) wt (nI i)) := by
    intro s hs hh
    rw [hX s hs]
    rcases hh with e | e | e | e | e <;> rw [e]
    · rw [if_pos (by decide), if_neg (by decide), if_pos (by decide), b_X3_holds_85, if_neg (by decide)]
    · rw [if_pos (by decide), if_neg (by decide), if_pos (by decide), b_X3_holds_85, if_neg (by decide)]
    · rw [if_pos (by decide), if_neg (by decide), if_pos (by decide), b_X3_holds_85, if_neg (by decide)]
    · rw [if_pos (by decide), if_pos (by decide), b_X3_holds_85, if_neg (by decide)]
    · rw [if_pos (by decide), if_pos (by decide), b_X3_holds_85, if_neg (by decide)]
  rcases hs with ⟨s0, s1, c8, n8⟩ | ⟨q, hq, hs, hc⟩ | ⟨hs, hc⟩ | ⟨hs, hc⟩ | ⟨hs, hc⟩ | ⟨hs, hc⟩ | ⟨hs, hc⟩ | ⟨hs, hc⟩
  · have l1000 : (1000 : Int32).toInt = 1000 := rfl
    have hneg : ¬ (0 : Int32) ≤ M 25 i - 1000 := by rw [i_le, i_sub (by omega) (by omega), l1000, i_lit0]; omega
    refine hpush (M 25 i) 8 (M 25 i) rfl c8 (by decide) (by rw [hX _ rfl, if_neg hneg]) ?_ (fun hh => absurd hh (by decide))
    rw [n8]; rfl
  · obtain ⟨v, f1, f2, f3⟩ := s_fact h hx ok hw hm hq (N 1 (382 + 2 * i))
    have es : M 25 i - 1000 = nI (21 + q) := by
      have l1000 : (1000 : Int32).toInt = 1000 := rfl
      have a1 := i_nI (n := 1021 + q) (by omega)
      rw [hs, i_eq, i_sub (by omega) (by omega), a1, i_nI (by omega), l1000]; omega
    have q0 : (0 : Int32) ≤ nI (21 + q) := by rw [i_le, i_nI (by omega), i_lit0]; omega
    have q1 : ¬ nI (21 + q) < 21 := by rw [i_lt, i_nI (by omega)]; show ¬ _ < (21 : Int); omega
    have q2 : ¬ 28 < nI (21 + q) := by rw [i_lt, i_nI (by omega)]; show ¬ (28 : Int) < _; omega
    refine hpush (M 25 i) (nI q) v rfl hc (by rw [i_le, i_nI (by omega)]; show _ ≤ (8 : Int); omega) ?_ f2 (fun hh => f3 ?_)
    · rw [hX _ rfl, es, if_pos q0, if_neg q1, if_neg q2, f1, zbn_s]
    · have e6 : nI q = 6 → q = 6 := fun e => by rw [i_eq, i_nI (by omega)] at e; have : (q : Int) = 6 := e; omega
      have e7 : nI q = 7 → q = 7 := fun e => by rw [i_eq, i_nI (by omega)] at e; have : (q : Int) = 7 := e; omega
      simp only [Bool.or_eq_true, decide_eq_true_eq] at hh
      exact hh.elim (fun e => Or.inl (e6 e)) (fun e => Or.inr (e7 e))
  · -- not
    rw [hc] at ht
    match ts, vs, ht, hv, hM, hN with
    | true :: r, a :: rv, ht, hv, hM, hN =>
      have et : ts' = true :: r := by
        have : some (true :: r) = some ts' := ht
        simpa using this.symm
      obtain ⟨v1, v3⟩ := hv
      obtain ⟨M1, a1, a2, a3⟩ := x_pop hM
      have hl := hM.2.2
      simp only [List.length_cons] at hl
      obtain ⟨M2, b1, b2, b3⟩ := x_push a2 (by omega) (1 - a)
      obtain ⟨rfl, hN2, hN3⟩ := hN
      have e1 : nI (a :: rv).length - 1 = nI rv.length := by simp only [List.length_cons]; rw [nI_m1]
      refine ⟨M2, zu N 8 rv.length (1 - a), nI (rv.length + 1), (1 - a) :: rv, ?_, ?_, a3.trans b3, fun q hq => zu_row hq, ?_, b2, ⟨rfl, ?_, ?_⟩⟩
      · rw [hX 1020 hs, if_pos (by decide), if_pos (by decide), b_X3_holds_85, if_pos (by decide), a1, zbn_s, b1, zbn_s, h111]
      · rw [hR 12 hc, if_pos (by decide), if_pos rfl, e1, zck_t (nI_lt_i (by omega) (by omega)), zck_t (nI_lt_i (by omega) (by omega)), nI_cl (by omega), znm_e, b_X11_holdsLine_257, znm_e, nI_p1]
        simp only [List.length_cons]
        rw [hN2]
      · rw [et]; exact ⟨fun _ => by rcases v1 rfl with z | z <;> rw [z] <;> decide, v3⟩
      · rw [zu_at, if_pos ⟨rfl, rfl⟩]
      · rw [zu_self]; exact zSk_up rv (Nat.le_refl _) hN3
    | [], _, ht, _, _, _ => exact absurd (show (none : Option (List Bool)) = some ts' from ht) (by simp)
    | false :: r, _, ht, _, _, _ => exact absurd (show (none : Option (List Bool)) = some ts' from ht) (by simp)
    | true :: r, [], _, hv, _, _ => exact absurd hv (by simp [zV])
  · refine htwo 1043 9 false false hs hc (by decide) (by decide) (hbin _ hs (by decide)) (ty_9 (by rw [hc] at ht; exact ht)) (fun a b _ => Or.inl ⟨by decide, rfl⟩) (fun hh => absurd hh (by decide))
  · refine htwo 1060 10 true false hs hc (by decide) (by decide) (hbin _ hs (by decide)) (ty_10 (by rw [hc] at ht; exact ht)) (fun a b _ => Or.inr (Or.inl ⟨by decide, rfl⟩)) (fun _ => by decide)
  · refine htwo 1062 11 true false hs hc (by decide) (by decide) (hbin _ hs (by decide)) (ty_11 (by rw [hc] at ht; exact ht)) (fun a b _ => Or.inr (Or.inr (Or.inl ⟨by decide, rfl⟩))) (fun _ => by decide)
  · refine htwo 1019 13 true true hs hc (by decide) (by decide) (hbin _ hs (by decide)) (ty_13 (by rw [hc] at ht; exact ht)) (fun a b hh => Or.inr (Or.inr (Or.inr (Or.inl ⟨by decide, rfl, hh rfl⟩)))) (fun _ => by decide)
  · refine htwo 1018 14 true true hs hc (by decide) (by decide) (hbin _ hs (by decide)) (ty_14 (by rw [hc] at ht; exact ht)) (fun a b hh => Or.inr (Or.inr (Or.inr (Or.inr ⟨by decide, rfl, hh rfl⟩)))) (fun _ => by decide)
end
