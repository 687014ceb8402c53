section
variable {T : Int} {M N : zM}
theorem side_up (ok : zOk (N 1)) {x dp : Int32} {P p : Nat} (hP : P ≤ 4) (hp : p < 12) : ∀ (d s n : Nat) (v : Int32), s + d = P → d < n → (∀ r, p < r → r ≤ p + s → r < 12 ∧ sDepth (N 1) r x ≤ dp) → (∀ j, j < 32 → (tb v j = true ↔ p < j ∧ j ≤ p + s)) → ∃ v', b_X11_sideOf_11 N 1 (nI P) dp x n v (nI (p + 1 + s)) (nI s) = some v' ∧ (∀ j, j < 32 → (tb v' j = true ↔ p < j ∧ j ≤ p + P ∧ ∀ r, p < r → r ≤ j → r < 12 ∧ sDepth (N 1) r x ≤ dp)) := by
  intro d
  induction d with
  | zero =>
    intro s n v hs hn ho hv
    obtain ⟨n, rfl⟩ : ∃ k, n = k + 1 := ⟨n - 1, by omega⟩
    have e : s = P := by omega
    subst e
    refine ⟨v, by rw [b_X11_sideOf_11, if_pos (by rw [i_le]; omega)], fun j hj => ?_⟩
    rw [hv j hj]
    exact ⟨fun z => ⟨z.1, z.2, fun r h1 h2 => ho r h1 (by omega)⟩, fun z => ⟨z.1, z.2.1⟩⟩
  | succ d ih =>
    intro s n v hs hn ho hv
    obtain ⟨n, rfl⟩ : ∃ k, n = k + 1 := ⟨n - 1, by omega⟩
    have hle : ¬ nI P ≤ nI s := by rw [nI_leN (by omega) (by omega)]; omega
    have stop : ¬ (p + 1 + s < 12 ∧ sDepth (N 1) (p + 1 + s) x ≤ dp) → (∀ j, j < 32 → (tb v j = true ↔ p < j ∧ j ≤ p + P ∧ ∀ r, p < r → r ≤ j → r < 12 ∧ sDepth (N 1) r x ≤ dp)) := by
      intro hh j hj
      rw [hv j hj]
      constructor
      · exact fun z => ⟨z.1, by omega, fun r h1 h2 => ho r h1 (by omega)⟩
      · rintro ⟨z1, z2, z3⟩
        refine ⟨z1, ?_⟩
        by_cases e : j ≤ p + s
        · exact e
        · exact absurd (z3 (p + 1 + s) (by omega) (by omega)) hh
    by_cases q : p + 1 + s < 12
    · have hn0 : f_X11_noPlace N (nI (p + 1 + s)) = some 0 := by rw [r_noPlace, if_pos (by rw [i_nI (by omega)]; omega)]
      by_cases qd : sDepth (N 1) (p + 1 + s) x ≤ dp
      · obtain ⟨v', a1, a2⟩ := ih (s + 1) n (v ||| ((1 : Int32) <<< (nI (p + 1 + s) &&& 31))) (by omega) (by omega) (fun r h1 h2 => by
          by_cases e : r = p + 1 + s
          · rw [e]; exact ⟨q, qd⟩
          · exact ho r h1 (by omega)) (fun j hj => by
          rw [tb_set _ (by omega)]
          by_cases e : j = p + 1 + s
          · rw [if_pos e]; simp; omega
          · rw [if_neg e, hv j hj]; omega)
        refine ⟨v', ?_, a2⟩
        rw [b_X11_sideOf_11, if_neg hle, hn0, zbn_s, if_pos rfl, r_depthAt ok q, zbn_s, if_neg (by rw [i_lt]; rw [i_le] at qd; omega), znm_e, znm_e, znm_e, nI_p1, nI_p1, show p + 1 + s + 1 = p + 1 + (s + 1) by omega]
        exact a1
      · refine ⟨v, ?_, stop (fun z => qd z.2)⟩
        rw [b_X11_sideOf_11, if_neg hle, hn0, zbn_s, if_pos rfl, r_depthAt ok q, zbn_s, if_pos (by rw [i_lt]; rw [i_le] at qd; omega)]
    · have hn0 : f_X11_noPlace N (nI (p + 1 + s)) = some 1 := by rw [r_noPlace, if_neg (by rw [i_nI (by omega)]; omega)]
      exact ⟨v, by rw [b_X11_sideOf_11, if_neg hle, hn0, zbn_s, if_neg n10], stop (fun z => q z.1)⟩
theorem side_dn (ok : zOk (N 1)) {x dp : Int32} {P p : Nat} (hP : P ≤ 4) (hp : p < 12) : ∀ (d s n : Nat) (v y : Int32), s + d = P → d < n → y.toInt = (p : Int) - 1 - s → (∀ r, r < p → p ≤ r + s → sDepth (N 1) r x ≤ dp) → s ≤ p → (∀ j, j < 32 → (tb v j = true ↔ j < p ∧ p ≤ j + s)) → ∃ v', b_X11_sideOf_11 N (-1) (nI P) dp x n v y (nI s) = some v' ∧ (∀ j, j < 32 → (tb v' j = true ↔ j < p ∧ p ≤ j + P ∧ ∀ r, j ≤ r → r < p → sDepth (N 1) r x ≤ dp)) := by
  intro d
  induction d with
  | zero =>
    intro s n v y hs hn hy ho hsp hv
    obtain ⟨n, rfl⟩ : ∃ k, n = k + 1 := ⟨n - 1, by omega⟩
    have e : s = P := by omega
    subst e
    refine ⟨v, by rw [b_X11_sideOf_11, if_pos (by rw [i_le]; omega)], fun j hj => ?_⟩
    rw [hv j hj]
    exact ⟨fun z => ⟨z.1, z.2, fun r h1 h2 => ho r h2 (by omega)⟩, fun z => ⟨z.1, z.2.1⟩⟩
  | succ d ih =>
    intro s n v y hs hn hy ho hsp hv
    obtain ⟨n, rfl⟩ : ∃ k, n = k + 1 := ⟨n - 1, by omega⟩
    have hle : ¬ nI P ≤ nI s := by rw [nI_leN (by omega) (by omega)]; omega
    by_cases q : s < p
    · obtain ⟨r, hr, rfl⟩ := nI_get (x := y) (by omega)
      have hr2 : r + 1 + s = p := by omega
      have hn0 : f_X11_noPlace N (nI r) = some 0 := by rw [r_noPlace, if_pos (by omega)]
      by_cases qd : sDepth (N 1) r x ≤ dp
      · obtain ⟨v', a1, a2⟩ := ih (s + 1) n (v ||| ((1 : Int32) <<< (nI r &&& 31))) (nI r + (-1)) (by omega) (by omega) (by rw [i_m1, i_sub (by rw [i_lit1]; omega) (by rw [i_lit1]; omega), i_lit1]; omega) (fun r' h1 h2 => by
          by_cases e : r' = r
          · rw [e]; exact qd
          · exact ho r' h1 (by omega)) (by omega) (fun j hj => by
          rw [tb_set _ (by omega)]
          by_cases e : j = r
          · rw [if_pos e]; simp; omega
          · rw [if_neg e, hv j hj]; omega)
        refine ⟨v', ?_, a2⟩
        rw [b_X11_sideOf_11, if_neg hle, hn0, zbn_s, if_pos rfl, r_depthAt ok (show r < 12 by omega), zbn_s, if_neg (by rw [i_lt]; rw [i_le] at qd; omega), znm_e, znm_e, znm_e, nI_p1]
        exact a1
      · refine ⟨v, ?_, fun j hj => ?_⟩
        · rw [b_X11_sideOf_11, if_neg hle, hn0, zbn_s, if_pos rfl, r_depthAt ok (show r < 12 by omega), zbn_s, if_pos (by rw [i_lt]; rw [i_le] at qd; omega)]
        · rw [hv j hj]
          constructor
          · exact fun z => ⟨z.1, by omega, fun r' h1 h2 => ho r' h2 (by omega)⟩
          · rintro ⟨z1, z2, z3⟩
            refine ⟨z1, ?_⟩
            by_cases e : p ≤ j + s
            · exact e
            · exact absurd (z3 r (by omega) (by omega)) qd
    · have hn0 : f_X11_noPlace N y = some 1 := by rw [r_noPlace, if_neg (by omega)]
      refine ⟨v, by rw [b_X11_sideOf_11, if_neg hle, hn0, zbn_s, if_neg n10], fun j hj => ?_⟩
      rw [hv j hj]
      exact ⟨fun z => ⟨z.1, by omega, fun r' h1 h2 => ho r' h2 (by omega)⟩, fun z => ⟨z.1, by omega⟩⟩
theorem ends_in (ok : zOk (N 1)) {x dp from' : Int32} {P : Nat} (hP : P ≤ 4) (hf : ∀ j, j < 32 → tb from' j = true → j < 12) : ∀ (d i n : Nat) (v : Int32), i + d = 12 → d < n → (∀ j, j < 32 → (tb v j = true ↔ tb from' j = true ∨ ∃ p, p < i ∧ tb from' p = true ∧ ((p < j ∧ j ≤ p + P ∧ ∀ r, p < r → r ≤ j → r < 12 ∧ sDepth (N 1) r x ≤ dp) ∨ (j < p ∧ p ≤ j + P ∧ ∀ r, j ≤ r → r < p → sDepth (N 1) r x ≤ dp)))) → ∃ v', b_X11_endsOf_6 N from' (nI P) dp x n v (nI i) = b_X11_endsOf_56 N dp x v' ∧ (∀ j, j < 32 → (tb v' j = true ↔ tb from' j = true ∨ ∃ p, p < 12 ∧ tb from' p = true ∧ ((p < j ∧ j ≤ p + P ∧ ∀ r, p < r → r ≤ j → r < 12 ∧ sDepth (N 1) r x ≤ dp) ∨ (j < p ∧ p ≤ j + P ∧ ∀ r, j ≤ r → r < p → sDepth (N 1) r x ≤ dp)))) := by
  intro d
  induction d with
  | zero =>
    intro i n v hi hn hv
    obtain ⟨n, rfl⟩ : ∃ k, n = k + 1 := ⟨n - 1, by omega⟩
    have e : i = 12 := by omega
    subst e
    exact ⟨v, by rw [b_X11_endsOf_6, if_pos (by decide)], hv⟩
  | succ d ih =>
    intro i n v hi hn hv
    obtain ⟨n, rfl⟩ : ∃ k, n = k + 1 := ⟨n - 1, by omega⟩
    have h12 : ¬ (12 : Int32) ≤ nI i := by rw [nI_12 (by omega)]; omega
    have hi12 : i < 12 := by omega
    by_cases q : tb from' i = true
    · obtain ⟨a, a1, a2⟩ := side_up ok (x := x) (dp := dp) hP hi12 P 0 6000 0 (by omega) (by omega) (fun r h1 h2 => by omega) (fun j hj => by rw [tb_0]; simp <;> omega)
      obtain ⟨b, b1, b2⟩ := side_dn ok (x := x) (dp := dp) hP hi12 P 0 6000 0 (nI i + (-1)) (by omega) (by omega) (by rw [i_m1, i_sub (by rw [i_lit1, i_nI (by omega)]; omega) (by rw [i_lit1, i_nI (by omega)]; omega), i_lit1, i_nI (by omega)]; omega) (fun r h1 h2 => by omega) (by omega) (fun j hj => by rw [tb_0]; simp <;> omega)
      have ea : f_X11_sideOf N (nI i) 1 (nI P) dp x = some a := by rw [f_X11_sideOf, znm_e, nI_p1]; exact a1
      have eb : f_X11_sideOf N (nI i) (-1) (nI P) dp x = some b := by rw [f_X11_sideOf, znm_e]; exact b1
      obtain ⟨v', c1, c2⟩ := ih (i + 1) n (v ||| (a ||| b)) (by omega) (by omega) (fun j hj => by
        rw [tb_or, tb_or]
        simp only [Bool.or_eq_true, hv j hj, a2 j hj, b2 j hj]
        constructor
        · rintro ((z | ⟨p, z1, z2, z3⟩) | z | z)
          · exact Or.inl z
          · exact Or.inr ⟨p, by omega, z2, z3⟩
          · exact Or.inr ⟨i, by omega, q, Or.inl z⟩
          · exact Or.inr ⟨i, by omega, q, Or.inr z⟩
        · rintro (z | ⟨p, z1, z2, z3⟩)
          · exact Or.inl (Or.inl z)
          · by_cases e : p = i
            · subst e
              exact Or.inr z3
            · exact Or.inl (Or.inr ⟨p, by omega, z2, z3⟩))
      refine ⟨v', ?_, c2⟩
      rw [b_X11_endsOf_6, if_neg h12, r_has _ (by omega), zbn_s, q, if_neg (by decide), ea, zbn_s, eb, zbn_s, znm_e, b_X11_endsOf_50, znm_e, nI_p1]
      exact c1
    · have q' : tb from' i = false := by simpa using q
      obtain ⟨v', c1, c2⟩ := ih (i + 1) n v (by omega) (by omega) (fun j hj => by
        rw [hv j hj]
        constructor
        · rintro (z | ⟨p, z1, z2, z3⟩)
          · exact Or.inl z
          · exact Or.inr ⟨p, by omega, z2, z3⟩
        · rintro (z | ⟨p, z1, z2, z3⟩)
          · exact Or.inl z
          · by_cases e : p = i
            · subst e; exact absurd z2 q
            · exact Or.inr ⟨p, by omega, z2, z3⟩)
      refine ⟨v', ?_, c2⟩
      rw [b_X11_endsOf_6, if_neg h12, r_has _ (by omega), zbn_s, q', if_pos (by decide), b_X11_endsOf_50, znm_e, nI_p1]
      exact c1
theorem ends_mask (ok : zOk (N 1)) {x dp v0 : Int32} : ∀ (d i n : Nat) (v : Int32), i + d = 12 → d < n → (∀ j, j < 32 → (tb v j = true ↔ tb v0 j = true ∧ (j < i → sDepth (N 1) j (x + 1) ≤ dp))) → ∃ v', b_X11_endsOf_59 N dp x n v (nI i) = some v' ∧ (∀ j, j < 32 → (tb v' j = true ↔ tb v0 j = true ∧ (j < 12 → sDepth (N 1) j (x + 1) ≤ dp))) := by
  intro d
  induction d with
  | zero =>
    intro i n v hi hn hv
    obtain ⟨n, rfl⟩ : ∃ k, n = k + 1 := ⟨n - 1, by omega⟩
    have e : i = 12 := by omega
    subst e
    exact ⟨v, by rw [b_X11_endsOf_59, if_pos (by decide)], hv⟩
  | succ d ih =>
    intro i n v hi hn hv
    obtain ⟨n, rfl⟩ : ∃ k, n = k + 1 := ⟨n - 1, by omega⟩
    have h12 : ¬ (12 : Int32) ≤ nI i := by rw [nI_12 (by omega)]; omega
    have hi12 : i < 12 := by omega
    by_cases q : sDepth (N 1) i (x + 1) ≤ dp
    · obtain ⟨v', c1, c2⟩ := ih (i + 1) n v (by omega) (by omega) (fun j hj => by
        rw [hv j hj]
        constructor
        · rintro ⟨z1, z2⟩
          refine ⟨z1, fun hlt => ?_⟩
          by_cases e : j = i
          · rw [e]; exact q
          · exact z2 (by omega)
        · exact fun z => ⟨z.1, fun hlt => z.2 (by omega)⟩)
      refine ⟨v', ?_, c2⟩
      have vv : v &&& v = v := tb_ext (fun j _ => by rw [tb_and, Bool.and_self])
      rw [b_X11_endsOf_59, if_neg h12, r_depthAt ok hi12, zbn_s, if_neg (by rw [i_lt]; rw [i_le] at q; omega), b_X11_endsOf_93, znm_e, znm_e, nI_p1, vv]
      exact c1
    · obtain ⟨v', c1, c2⟩ := ih (i + 1) n (v &&& (((1 : Int32) <<< (nI i &&& 31)) ^^^ (-1))) (by omega) (by omega) (fun j hj => by
        rw [tb_clr _ (by omega) hj]
        by_cases e : j = i
        · subst e; rw [if_pos rfl]
          exact ⟨fun z => absurd z (by decide), fun z => absurd (z.2 (by omega)) q⟩
        · rw [if_neg e, hv j hj]
          exact ⟨fun z => ⟨z.1, fun hlt => z.2 (by omega)⟩, fun z => ⟨z.1, fun hlt => z.2 (by omega)⟩⟩)
      refine ⟨v', ?_, c2⟩
      rw [b_X11_endsOf_59, if_neg h12, r_depthAt ok hi12, zbn_s, if_pos (by rw [i_lt]; rw [i_le] at q; omega), b_X11_endsOf_93, znm_e, znm_e, nI_p1]
      exact c1
theorem r_ends (ok : zOk (N 1)) {x dp c : Int32} {P : Nat} (hP : P ≤ 4) (hf : ∀ j, j < 32 → tb c j = true → j < 12) : ∃ v, f_X11_endsOf N c (nI P) dp x = some v ∧ (∀ j, j < 32 → (tb v j = true ↔ (j < 12 ∧ zRch (fun p => p < 32 ∧ tb c p = true) (fun r => r < 12 ∧ sDepth (N 1) r x ≤ dp) P j) ∧ sDepth (N 1) j (x + 1) ≤ dp)) := by
  obtain ⟨a, a1, a2⟩ := ends_in ok (x := x) (dp := dp) hP hf 12 0 6000 c (by omega) (by omega) (fun j hj => ⟨Or.inl, fun z => z.elim id (fun ⟨p, z1, _⟩ => by omega)⟩)
  obtain ⟨b, b1, b2⟩ := ends_mask ok (x := x) (dp := dp) (v0 := a) 12 0 6000 a (by omega) (by omega) (fun j hj => ⟨fun z => ⟨z, fun q => by omega⟩, fun z => z.1⟩)
  have key : ∀ j, j < 32 → (tb a j = true ↔ j < 12 ∧ zRch (fun p => p < 32 ∧ tb c p = true) (fun r => r < 12 ∧ sDepth (N 1) r x ≤ dp) P j) := by
    intro j hj
    rw [a2 j hj]
    constructor
    · rintro (z | ⟨p, z1, z2, ⟨y1, y2, y3⟩ | ⟨y1, y2, y3⟩⟩)
      · exact ⟨hf j hj z, j, ⟨hj, z⟩, Or.inl ⟨by omega, by omega, fun r h1 h2 => by omega⟩⟩
      · exact ⟨(y3 j (by omega) (by omega)).1, p, ⟨by omega, z2⟩, Or.inl ⟨by omega, y2, y3⟩⟩
      · exact ⟨by omega, p, ⟨by omega, z2⟩, Or.inr ⟨by omega, y2, fun r h1 h2 => ⟨by omega, y3 r h1 h2⟩⟩⟩
    · rintro ⟨h12, p, ⟨p1, p2⟩, ⟨y1, y2, y3⟩ | ⟨y1, y2, y3⟩⟩
      · by_cases e : p = j
        · subst e; exact Or.inl p2
        · exact Or.inr ⟨p, hf p p1 p2, p2, Or.inl ⟨by omega, y2, y3⟩⟩
      · by_cases e : p = j
        · subst e; exact Or.inl p2
        · exact Or.inr ⟨p, hf p p1 p2, p2, Or.inr ⟨by omega, y2, fun r h1 h2 => (y3 r h1 h2).2⟩⟩
  refine ⟨b, ?_, fun j hj => ?_⟩
  · rw [f_X11_endsOf]
    exact a1.trans (by rw [b_X11_endsOf_56]; exact b1)
  · rw [b2 j hj, key j hj]
    exact ⟨fun z => ⟨z.1, z.2 z.1.1⟩, fun z => ⟨z.1, fun _ => z.2⟩⟩
end
