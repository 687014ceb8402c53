section
variable {T : Int} {k m : Nat} {wt : Int32}
def zLxp (T : Int) (k : Nat) (M N : zM) : Prop := zWr T M k (N 1) ∧ zOk (N 1) ∧ zLaw M 21 (N 1)
def zFn (N N' : zM) : Prop := ∀ q, q ≠ 8 → N' q = N q
theorem zFn.refl {N : zM} : zFn N N := fun _ _ => rfl
theorem zFn.trans {N N' N'' : zM} (h : zFn N N') (h' : zFn N' N'') : zFn N N'' := fun q hq => (h' q hq).trans (h q hq)
theorem zLxp.fr {M M' N N' : zM} (hk : k + 6 ≤ 21) (h : zLxp T k M N) (f : zFr M M') (g : zFn N N') : zLxp T k M' N' := by
  obtain ⟨h1, h2, h3⟩ := h
  have e1 : N' 1 = N 1 := g 1 (by decide)
  unfold zLxp
  rw [e1]
  exact ⟨h1.eq6 (fun q _ _ => f.1 q (by omega) (by omega)), h2, h3.eq (f.2 0 (by decide)) (f.1 _ (by decide) (by decide)) (f.1 _ (by decide) (by decide)) (f.1 _ (by decide) (by decide)) (f.1 _ (by decide) (by decide))⟩
theorem holds_loop (hk : k + 6 ≤ 21) (hx : xw k) (hm : m < 6) {ln E : Nat} (hln : ln < 12) (hE : E ≤ 400) : ∀ (d i j n : Nat) (M N : zM) (ts : List Bool) (vs : List Int32) (x3 : Int32), i + d = E → d < j → d < n → zWr T M k (N 1) → zOk (N 1) → wt = sWater (N 1) (N 1 4) (N 1 9) → N 1 (336 + 4 * ln) = nI E → (∀ i' : Nat, i ≤ i' → i' < E → zSt (M 25 i') (N 1 (381 + 2 * i')) (N 1 (382 + 2 * i'))) → zTyR (N 1) d i ts = some [true] → zV ts vs → zKs M vs → zKr N x3 vs → ∃ v M' N', b_X3_holds_15 21 k (nI E) (nI m) wt j M (nI i) = some (v, M') ∧ b_X11_holdsLine_22 (nI m) (nI (333 + 4 * ln)) n N x3 (nI i) = some (v, N') ∧ (v = 0 ∨ v = 1) ∧ zFr M M' ∧ zFn N N' := by
  intro d
  have e3 : nI (333 + 4 * ln) + 3 = nI (336 + 4 * ln) := by rw [show (3 : Int32) = nI 3 from rfl, nI_add]; congr 1; omega
  have ez : zin (nI (333 + 4 * ln) + 3) 2030 = true := by rw [e3]; exact nI_lt_i (by omega) (by omega)
  induction d with
  | zero =>
    intro i j n M N ts vs x3 hi hj hn h ok hw hEn hst hty hv hM hN
    obtain ⟨j, rfl⟩ : ∃ k, j = k + 1 := ⟨j - 1, by omega⟩
    obtain ⟨n, rfl⟩ : ∃ k, n = k + 1 := ⟨n - 1, by omega⟩
    have ei : i = E := by omega
    subst ei
    have et : ts = [true] := by simpa [zTyR] using hty
    subst et
    match vs, hv, hM, hN with
    | [v], hv, hM, hN =>
      obtain ⟨M', a1, a2, a3⟩ := x_pop hM
      have h01 := hv.1 rfl
      obtain ⟨rfl, hN2, -⟩ := hN
      have y0 : N 8 (0 : Int32).toNatClampNeg = v := hN2
      refine ⟨v, M', N, ?_, ?_, h01, a3, zFn.refl⟩
      · rw [b_X3_holds_15, if_pos (by rw [i_le]; omega), b_X3_holds_117, a1, zbn_s]
        rcases h01 with z | z <;> rw [z] <;> rfl
      · rw [b_X11_holdsLine_22, zck_t ez, e3, nI_cl (by omega), hEn, if_pos (by rw [i_le]; omega), b_X11_holdsLine_263, if_neg (by exact (show ¬ nI 1 = 0 by decide)), zck_t (by decide), y0]
        rcases h01 with z | z <;> rw [z] <;> rfl
    | [], hv, _, _ => exact absurd hv (by simp [zV])
    | _ :: _ :: _, hv, _, _ => exact absurd hv (by simp [zV])
  | succ d ih =>
    intro i j n M N ts vs x3 hi hj hn h ok hw hEn hst hty hv hM hN
    obtain ⟨j, rfl⟩ : ∃ k, j = k + 1 := ⟨j - 1, by omega⟩
    obtain ⟨n, rfl⟩ : ∃ k, n = k + 1 := ⟨n - 1, by omega⟩
    obtain ⟨ts', t1, t2⟩ : ∃ ts', zTy1 (N 1 (381 + 2 * i)) ts = some ts' ∧ zTyR (N 1) d (i + 1) ts' = some [true] := by
      unfold zTyR at hty
      cases hh : zTy1 (N 1 (381 + 2 * i)) ts with
      | none => rw [hh] at hty; exact absurd hty (by simp)
      | some ts' => rw [hh] at hty; exact ⟨ts', rfl, hty⟩
    have hcond : ¬ nI E ≤ nI i := by rw [nI_leN (by omega) (by omega)]; omega
    obtain ⟨M1, N1, x3', vs', s1, s2, s3, s4, s5, s6, s7⟩ := s_step (j := j) (n := n) h hx ok hw hm (x2 := nI E) (x4 := nI (333 + 4 * ln)) hcond (by omega) ez (by rw [e3, nI_cl (by omega), hEn]; exact hcond) (hst i (by omega) (by omega)) t1 hv hM hN
    have e1 : N1 1 = N 1 := s4 1 (by decide)
    have e25 : M1 25 = M 25 := s3.1 25 (by decide) (by decide)
    obtain ⟨v, M', N', a1, a2, a3, a4, a5⟩ := ih (i + 1) j n M1 N1 ts' vs' x3' (by omega) (by omega) (by omega) (by rw [e1]; exact h.eq6 (fun q _ _ => s3.1 q (by omega) (by omega))) (by rw [e1]; exact ok) (by rw [e1]; exact hw) (by rw [e1]; exact hEn) (fun i' h1 h2 => by rw [e1, e25]; exact hst i' (by omega) h2) (by rw [e1]; exact t2) s5 s6 s7
    exact ⟨v, M', N', by rw [s1, a1], by rw [s2, a2], a3, s3.trans a4, zFn.trans s4 a5⟩
theorem s_holds {M N : zM} (hk : k + 6 ≤ 21) (hx : xw k) (h : zWr T M k (N 1)) (ok : zOk (N 1)) (hw : wt = sWater (N 1) (N 1 4) (N 1 9)) (hm : m < 6) {ln : Nat} (hln : ln < 12) (hL : zLn M 21 (N 1) ln) (hf : 0 ≤ zFrom (N 1) ln) {x1 : Int32} (h1 : x1.toInt = zFrom (N 1) ln) : ∃ v M' N', f_X3_holds M 21 x1 (N 1 (336 + 4 * ln)) k (nI m) wt = some (v, M') ∧ f_X11_holdsLine N (nI ln) (nI m) = some (v, N') ∧ (v = 0 ∨ v = 1) ∧ zFr M M' ∧ zFn N N' := by
  obtain ⟨l0, l1, l2, l3, l4, l5, l6, l7, l8, l9⟩ := hL
  obtain ⟨E, e1, e2⟩ := nI_get (x := N 1 (336 + 4 * ln)) (by omega)
  obtain ⟨F, f1, rfl⟩ := nI_get (x := x1) (by omega)
  have ec : (333 : Int32) + 4 * nI ln = nI (333 + 4 * ln) := by rw [show (4 : Int32) = nI 4 from rfl, show (333 : Int32) = nI 333 from rfl, nI_mul, nI_add]
  have ec2 : nI (333 + 4 * ln) + 2 = nI (335 + 4 * ln) := by rw [show (2 : Int32) = nI 2 from rfl, nI_add]; congr 1; omega
  have e3 : nI (333 + 4 * ln) + 3 = nI (336 + 4 * ln) := by rw [show (3 : Int32) = nI 3 from rfl, nI_add]; congr 1; omega
  have e335 : N 1 (335 + 4 * ln) = nI F := by rw [i_eq, i_nI (by omega)]; omega
  have hR0 : f_X11_holdsLine N (nI ln) (nI m) = b_X11_holdsLine_22 (nI m) (nI (333 + 4 * ln)) 6000 N 0 (nI F) := by
    rw [f_X11_holdsLine, znm_e, ec, ec2, zck_t (nI_lt_i (by omega) (by omega)), nI_cl (by omega), znm_e, e335]
  by_cases q : F < E
  · have hz : zKs (zu M 21 7 0) [] := ⟨by rw [zu_at, if_pos ⟨rfl, rfl⟩]; rfl, trivial, by simp⟩
    have hfr : zFr M (zu M 21 7 0) := ⟨fun q a b => zu_row a, fun j hj => by rw [zu_at, if_neg (by omega)]⟩
    obtain ⟨v, M', N', a1, a2, a3, a4, a5⟩ := holds_loop (T := T) (wt := wt) hk hx hm hln (show E ≤ 400 by omega) (E - F) F 6000 6000 (zu M 21 7 0) N [] [] 0 (by omega) (by omega) (by omega) (h.eq6 (fun q _ _ => zu_row (by omega))) ok hw e2 (fun i' h1 h2 => by rw [zu_row (by decide)]; exact l8 i' (by omega) (by omega)) (by have := l9 (by omega); rw [← this]; congr 1 <;> omega) trivial hz ⟨rfl, trivial⟩
    refine ⟨v, M', N', ?_, by rw [hR0, a2], a3, hfr.trans a4, a5⟩
    rw [e2, f_X3_holds, if_pos (by rw [nI_ltN (by omega) (by omega)]; exact q), znm_e, a1]
  · refine ⟨1, M, N, ?_, ?_, Or.inr rfl, zFr.refl, zFn.refl⟩
    · rw [e2, f_X3_holds, if_neg (by rw [nI_ltN (by omega) (by omega)]; exact q)]
    · have hEF : nI E ≤ nI F := by rw [nI_leN (by omega) (by omega)]; omega
      obtain ⟨n, hn⟩ : ∃ n, 6000 = n + 1 := ⟨5999, rfl⟩
      rw [hR0, hn, b_X11_holdsLine_22, e3, zck_t (nI_lt_i (by omega) (by omega)), nI_cl (by omega), e2, if_pos hEF, b_X11_holdsLine_263, if_pos rfl]
theorem sum_loop (hk : k + 6 ≤ 21) (hx : xw k) (hm : m < 6) {c : Nat} (hc : c < 3) {L : Nat} (hL : L ≤ 12) : ∀ (d i j n : Nat) (M N : zM) (v x6 : Int32), i + d = L → d < j → d < n → zLxp T k M N → N 1 3 = 1 → wt = sWater (N 1) (N 1 4) (N 1 9) → N 1 332 = nI L → (i < L → x6.toInt = zFrom (N 1) i) → 0 ≤ v.toInt ∧ v.toInt ≤ 9 * i → ∃ v' M' N', b_X3_sumOf_9 21 k (nI (14 + c)) (nI m) wt j M v x6 (nI i) = some (v', M') ∧ b_X11_sumOf_5 (nI c) (nI m) n N v (nI i) = some (v', N') ∧ (0 ≤ v'.toInt ∧ v'.toInt ≤ 108) ∧ zFr M M' ∧ zFn N N' := by
  intro d
  have y3 : ∀ N : zM, (N 1 (3 : Int32).toNatClampNeg) = N 1 3 := fun _ => rfl
  have y332 : ∀ N : zM, (N 1 (332 : Int32).toNatClampNeg) = N 1 332 := fun _ => rfl
  induction d with
  | zero =>
    intro i j n M N v x6 hi hj hn h h3 hw hLn hfr hv
    obtain ⟨j, rfl⟩ : ∃ k, j = k + 1 := ⟨j - 1, by omega⟩
    obtain ⟨n, rfl⟩ : ∃ k, n = k + 1 := ⟨n - 1, by omega⟩
    have ei : i = L := by omega
    subst ei
    have hz := (h.2.2.2 h3).1
    refine ⟨v, M, N, ?_, ?_, by omega, zFr.refl, zFn.refl⟩
    · rw [b_X3_sumOf_9, hz, hLn, if_pos (by rw [i_le]; omega)]
    · rw [b_X11_sumOf_5, zck_t (by decide), y3 N, h3, if_pos rfl, zck_t (by decide), y332 N, hLn, if_pos (by rw [i_le]; omega)]
  | succ d ih =>
    intro i j n M N v x6 hi hj hn h h3 hw hLn hfr hv
    obtain ⟨j, rfl⟩ : ∃ k, j = k + 1 := ⟨j - 1, by omega⟩
    obtain ⟨n, rfl⟩ : ∃ k, n = k + 1 := ⟨n - 1, by omega⟩
    obtain ⟨hw1, ok, hlaw⟩ := h
    obtain ⟨z1, z2, z3, z4⟩ := hlaw.2 h3
    obtain ⟨zf, zl⟩ := z4 i (by rw [hLn, i_nI (by omega)]; omega)
    have zl' := zl
    obtain ⟨l0, l1, l2, l3, l4, l5, l6, l7, l8, l9⟩ := zl'
    have hi12 : i < 12 := by omega
    have hcond : ¬ nI L ≤ nI i := by rw [nI_leN (by omega) (by omega)]; omega
    have hc12 : ¬ (12 : Int32) ≤ nI i := by rw [nI_12 (by omega)]; omega
    have ec : (333 : Int32) + 4 * nI i = nI (333 + 4 * i) := by rw [show (4 : Int32) = nI 4 from rfl, show (333 : Int32) = nI 333 from rfl, nI_mul, nI_add]
    have ec1 : nI (333 + 4 * i) + 1 = nI (334 + 4 * i) := by rw [nI_p1]; congr 1; omega
    have at3 : f_X10_at M (21 + 3) (nI i) = some (N 1 (336 + 4 * i)) := by rw [x_at (n := 12) (by decide +kernel) (by omega) hi12]; exact congrArg some l4
    have at1 : f_X10_at M (21 + 1) (nI i) = some (14 + N 1 (333 + 4 * i)) := by rw [x_at (n := 12) (by decide +kernel) (by omega) hi12]; exact congrArg some l1
    have hkind : (14 + N 1 (333 + 4 * i) = nI (14 + c)) ↔ N 1 (333 + 4 * i) = nI c := by
      have l14 : (14 : Int32).toInt = 14 := rfl
      have a1 : (14 + N 1 (333 + 4 * i)).toInt = 14 + (N 1 (333 + 4 * i)).toInt := by rw [i_add (by omega) (by omega), l14]
      rw [i_eq, i_eq, a1, i_nI (by omega), i_nI (by omega)]; omega
    have hX : b_X3_sumOf_9 21 k (nI (14 + c)) (nI m) wt (j + 1) M v x6 (nI i) = (if 14 + N 1 (333 + 4 * i) = nI (14 + c) then (zbn (f_X3_holds M 21 x6 (N 1 (336 + 4 * i)) k (nI m) wt) (fun u_4 => if u_4.1 = 0 then (b_X3_sumOf_78 (fun M x5 x6 x7 => b_X3_sumOf_9 21 k (nI (14 + c)) (nI m) wt j M x5 x6 x7) 21 k u_4.2 (nI (14 + c)) (nI m) wt v (nI i) (N 1 (336 + 4 * i))) else (zbn (f_X10_at u_4.2 (21 + 2) (nI i)) (fun u_5 => znm (v + u_5) (fun x5_6 => b_X3_sumOf_78 (fun M x5 x6 x7 => b_X3_sumOf_9 21 k (nI (14 + c)) (nI m) wt j M x5 x6 x7) 21 k u_4.2 (nI (14 + c)) (nI m) wt x5_6 (nI i) (N 1 (336 + 4 * i))))))) else (b_X3_sumOf_78 (fun M x5 x6 x7 => b_X3_sumOf_9 21 k (nI (14 + c)) (nI m) wt j M x5 x6 x7) 21 k M (nI (14 + c)) (nI m) wt v (nI i) (N 1 (336 + 4 * i)))) := by
      rw [b_X3_sumOf_9, z1, hLn, if_neg hcond, if_neg hc12, at3, zbn_s, at1, zbn_s]
    have hR : b_X11_sumOf_5 (nI c) (nI m) (n + 1) N v (nI i) = (if N 1 (333 + 4 * i) = nI c then (zbn (f_X11_holdsLine N (nI i) (nI m)) (fun u_2 => if u_2.1 = 0 then (b_X11_sumOf_73 (fun M x3 x4 => b_X11_sumOf_5 (nI c) (nI m) n M x3 x4) u_2.2 (nI c) (nI m) v (nI i)) else (znm (v + (u_2.2 1 (334 + 4 * i))) (fun x3_3 => b_X11_sumOf_73 (fun M x3 x4 => b_X11_sumOf_5 (nI c) (nI m) n M x3 x4) u_2.2 (nI c) (nI m) x3_3 (nI i))))) else (b_X11_sumOf_73 (fun M x3 x4 => b_X11_sumOf_5 (nI c) (nI m) n M x3 x4) N (nI c) (nI m) v (nI i))) := by
      rw [b_X11_sumOf_5, zck_t (by decide), y3 N, h3, if_pos rfl, zck_t (by decide), y332 N, hLn, if_neg hcond, ec, ec1, zck_t (nI_lt_i (by omega) (by omega)), nI_cl (by omega)]
      simp only [show ∀ x : Option (Int32 × zM), zck (zin (nI (334 + 4 * i)) 2030) x = x from fun x => zck_t (nI_lt_i (by omega) (by omega)), nI_cl (n := 334 + 4 * i) (by omega)]
    have next : ∀ (M1 N1 : zM) (v1 : Int32), zFr M M1 → zFn N N1 → 0 ≤ v1.toInt ∧ v1.toInt ≤ 9 * (i + 1) → ∃ v' M' N', b_X3_sumOf_9 21 k (nI (14 + c)) (nI m) wt j M1 v1 (N 1 (336 + 4 * i)) (nI (i + 1)) = some (v', M') ∧ b_X11_sumOf_5 (nI c) (nI m) n N1 v1 (nI (i + 1)) = some (v', N') ∧ (0 ≤ v'.toInt ∧ v'.toInt ≤ 108) ∧ zFr M M' ∧ zFn N N' := by
      intro M1 N1 v1 g1 g2 hv1
      have e1 : N1 1 = N 1 := g2 1 (by decide)
      obtain ⟨v', M', N', a1, a2, a3, a4, a5⟩ := ih (i + 1) j n M1 N1 v1 (N 1 (336 + 4 * i)) (by omega) (by omega) (by omega) (zLxp.fr hk ⟨hw1, ok, hlaw⟩ g1 g2) (by rw [e1]; exact h3) (by rw [e1]; exact hw) (by rw [e1]; exact hLn) (fun _ => by rw [e1]; unfold zFrom; rw [if_neg (by omega), show 332 + 4 * (i + 1) = 336 + 4 * i by omega]) (by omega)
      exact ⟨v', M', N', a1, a2, a3, g1.trans a4, g2.trans a5⟩
    by_cases q : N 1 (333 + 4 * i) = nI c
    · obtain ⟨u, M1, N1, p1, p2, p3, p4, p5⟩ := s_holds hk hx hw1 ok hw hm hi12 zl zf (x1 := x6) (hfr (by omega))
      have e1 : N1 1 = N 1 := p5 1 (by decide)
      rcases p3 with z | z
      · obtain ⟨v', M', N', a1, a2, a3, a4, a5⟩ := next M1 N1 v p4 p5 (by omega)
        refine ⟨v', M', N', ?_, ?_, a3, a4, a5⟩
        · rw [hX, if_pos (hkind.mpr q), p1, zbn_s, z, if_pos rfl, b_X3_sumOf_78, znm_e, nI_p1, a1]
        · rw [hR, if_pos q, p2, zbn_s, z, if_pos rfl, b_X11_sumOf_73, znm_e, nI_p1, a2]
      · have at2 : f_X10_at M1 (21 + 2) (nI i) = some (N 1 (334 + 4 * i)) := by rw [x_at (n := 12) (by decide +kernel) (by omega) hi12, p4.1 _ (by decide) (by decide)]; exact congrArg some l2
        have ev : (v + N 1 (334 + 4 * i)).toInt = v.toInt + (N 1 (334 + 4 * i)).toInt := i_add (by omega) (by omega)
        obtain ⟨v', M', N', a1, a2, a3, a4, a5⟩ := next M1 N1 (v + N 1 (334 + 4 * i)) p4 p5 (by omega)
        refine ⟨v', M', N', ?_, ?_, a3, a4, a5⟩
        · rw [hX, if_pos (hkind.mpr q), p1, zbn_s, z, if_neg n10, at2, zbn_s, znm_e, b_X3_sumOf_78, znm_e, nI_p1, a1]
        · rw [hR, if_pos q, p2, zbn_s, z, if_neg n10, znm_e, b_X11_sumOf_73, znm_e, nI_p1]
          dsimp only
          rw [e1, a2]
    · obtain ⟨v', M', N', a1, a2, a3, a4, a5⟩ := next M N v zFr.refl zFn.refl (by omega)
      refine ⟨v', M', N', ?_, ?_, a3, a4, a5⟩
      · rw [hX, if_neg (fun z => q (hkind.mp z)), b_X3_sumOf_78, znm_e, nI_p1, a1]
      · rw [hR, if_neg q, b_X11_sumOf_73, znm_e, nI_p1, a2]
theorem s_sum {M N : zM} (hk : k + 6 ≤ 21) (hx : xw k) (h : zLxp T k M N) (hw : wt = sWater (N 1) (N 1 4) (N 1 9)) (hm : m < 6) {c : Nat} (hc : c < 3) : ∃ v M' N', f_X3_sumOf M 21 (nI (14 + c)) k (nI m) wt = some (v, M') ∧ f_X11_sumOf N (nI c) (nI m) = some (v, N') ∧ (0 ≤ v.toInt ∧ v.toInt ≤ 108) ∧ zFr M M' ∧ zFn N N' := by
  rcases z01 h.2.1.c3 with q | q
  · have e0 := h.2.2.1 q
    obtain ⟨n, hn⟩ : ∃ n, 6000 = n + 1 := ⟨5999, rfl⟩
    refine ⟨0, M, N, ?_, ?_, by decide, zFr.refl, zFn.refl⟩
    · rw [f_X3_sumOf, hn, b_X3_sumOf_9, e0, if_pos (by decide)]
    · have y3 : (N 1 (3 : Int32).toNatClampNeg) = N 1 3 := rfl
      rw [f_X11_sumOf, hn, b_X11_sumOf_5, zck_t (by decide), y3, q, if_neg (by decide)]
  · obtain ⟨z1, z2, z3, z4⟩ := h.2.2.2 q
    obtain ⟨L, l1, l2⟩ := nI_get z2
    obtain ⟨v, M', N', a1, a2, a3, a4, a5⟩ := sum_loop (T := T) (wt := wt) hk hx hm hc (show L ≤ 12 by omega) L 0 6000 6000 M N 0 0 (by omega) (by omega) (by omega) h q hw l2 (fun _ => rfl) (by decide)
    exact ⟨v, M', N', a1, a2, a3, a4, a5⟩
theorem s_wades {M N : zM} (hk : k + 6 ≤ 21) (hx : xw k) (h : zLxp T k M N) (hw : wt = sWater (N 1) (N 1 4) (N 1 9)) (hm : m < 6) : ∃ v M' N', f_X3_wades M 21 k (nI m) wt = some (v, M') ∧ f_X11_wadesBy N (nI m) = some (v, N') ∧ (1 ≤ v.toInt ∧ v.toInt ≤ 109) ∧ zFr M M' ∧ zFn N N' := by
  obtain ⟨v, M', N', a1, a2, a3, a4, a5⟩ := s_sum hk hx h hw hm (c := 0) (by omega)
  have e : (1 + v).toInt = 1 + v.toInt := by rw [i_add (by rw [i_lit1]; omega) (by rw [i_lit1]; omega), i_lit1]
  refine ⟨1 + v, M', N', ?_, ?_, by omega, a4, a5⟩
  · rw [f_X3_wades, show (14 : Int32) = nI (14 + 0) from rfl, a1, zbn_s]
  · rw [f_X11_wadesBy, show (0 : Int32) = nI 0 from rfl, a2, zbn_s]
theorem s_waits {M N : zM} (hk : k + 6 ≤ 21) (hx : xw k) (h : zLxp T k M N) (hw : wt = sWater (N 1) (N 1 4) (N 1 9)) (hm : m < 6) : ∃ v M' N', f_X3_waits M 21 k (nI m) wt = some (v, M') ∧ f_X11_doesWait N (nI m) = some (v, N') ∧ (v = 0 ∨ v = 1) ∧ zFr M M' ∧ zFn N N' := by
  obtain ⟨v, M', N', a1, a2, a3, a4, a5⟩ := s_sum hk hx h hw hm (c := 1) (by omega)
  refine ⟨if v ≤ 0 then 0 else 1, M', N', ?_, ?_, by split <;> simp, a4, a5⟩
  · rw [f_X3_waits, show (15 : Int32) = nI (14 + 1) from rfl, a1, zbn_s]; split <;> rfl
  · rw [f_X11_doesWait, show (1 : Int32) = nI 1 from rfl, a2, zbn_s]; split <;> rfl
theorem s_tires {M N : zM} (hk : k + 6 ≤ 21) (hx : xw k) (h : zLxp T k M N) (hw : wt = sWater (N 1) (N 1 4) (N 1 9)) (hm : m < 6) : ∃ v M' N', f_X3_tires M 21 k (nI m) wt = some (v, M') ∧ f_X11_sumOf N 2 (nI m) = some (v, N') ∧ (0 ≤ v.toInt ∧ v.toInt ≤ 108) ∧ zFr M M' ∧ zFn N N' := by
  obtain ⟨v, M', N', a1, a2, a3, a4, a5⟩ := s_sum hk hx h hw hm (c := 2) (by omega)
  refine ⟨v, M', N', ?_, ?_, a3, a4, a5⟩
  · rw [f_X3_tires, show (16 : Int32) = nI (14 + 2) from rfl, a1, zbn_s]
  · rw [show (2 : Int32) = nI 2 from rfl, a2]
end
