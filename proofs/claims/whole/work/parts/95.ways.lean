section
variable {T : Int} {M N : zM} {w : Nat → Int32}
def zLk (M : zM) (w : Nat → Int32) : Prop := ∀ h, h < 21 → ∀ j, j < 32 → (tb (M 44 h) j = true ↔ j < 12 ∧ (h : Int) ≤ (w (14 + j)).toInt)
theorem look_in {k : Nat} (hx : xw k) (hw : zWr T M k w) (ok : zOk w) {h : Nat} (hh : h < 21) {K : zM → Int32 → Option zM} : ∀ (d i n : Nat) (v : Int32), i + d = 12 → d < n → zGa v (fun j => decide (¬ w (14 + j) < nI h)) i → ∃ v', b_X8_look_16 K k M (nI h) n v (nI i) = K (zu M 44 h v') (nI (h + 1)) ∧ zGa v' (fun j => decide (¬ w (14 + j) < nI h)) 12 := by
  intro d
  induction d with
  | zero =>
    intro i n v hi hn hv
    obtain ⟨n, rfl⟩ : ∃ k, n = k + 1 := ⟨n - 1, by omega⟩
    have e : i = 12 := by omega
    subst e
    exact ⟨v, by rw [b_X8_look_16, if_pos (by decide), b_X8_look_49, zck_t (nI_lt_i hh (by omega)), nI_cl (by omega), znm_e, znm_e, nI_p1], hv⟩
  | succ d ih =>
    intro i n v hi hn hv
    obtain ⟨n, rfl⟩ : ∃ k, n = k + 1 := ⟨n - 1, by omega⟩
    have h12 : ¬ (12 : Int32) ≤ nI i := by rw [nI_12 (by omega)]; omega
    have ha : f_X10_at M (k + 1) (nI i) = some (w (14 + i)) := by rw [x_at hx.1 (by omega) (show i < 12 by omega), hw.g (by omega)]
    by_cases q : w (14 + i) < nI h
    · obtain ⟨v', a1, a2⟩ := ih (i + 1) n v (by omega) (by omega) (zGa_n hv (by simp [q]))
      exact ⟨v', by rw [b_X8_look_16, if_neg h12, ha, zbn_s, if_pos q, b_X8_look_43, znm_e, nI_p1]; exact a1, a2⟩
    · obtain ⟨v', a1, a2⟩ := ih (i + 1) n _ (by omega) (by omega) (zGa_y hv (by omega) (by simp [q]))
      exact ⟨v', by rw [b_X8_look_16, if_neg h12, ha, zbn_s, if_neg q, znm_e, b_X8_look_43, znm_e, nI_p1]; exact a1, a2⟩
theorem look_out {k : Nat} (hk : k + 6 ≤ 21) (hx : xw k) (ok : zOk w) : ∀ (d h n : Nat) (M : zM), h + d = 21 → d < n → zWr T M k w → (∀ h', h' < h → ∀ j, j < 32 → (tb (M 44 h') j = true ↔ j < 12 ∧ (h' : Int) ≤ (w (14 + j)).toInt)) → ∃ M', b_X8_look_2 k n M (nI h) = some M' ∧ (∀ q, q ≠ 44 → M' q = M q) ∧ zLk M' w := by
  intro d
  induction d with
  | zero =>
    intro h n M hh hn hw hz
    obtain ⟨n, rfl⟩ : ∃ k, n = k + 1 := ⟨n - 1, by omega⟩
    have e : h = 21 := by omega
    subst e
    exact ⟨M, by rw [b_X8_look_2, if_pos (by decide)], fun _ _ => rfl, hz⟩
  | succ d ih =>
    intro h n M hh hn hw hz
    obtain ⟨n, rfl⟩ : ∃ k, n = k + 1 := ⟨n - 1, by omega⟩
    have h21 : ¬ (21 : Int32) ≤ nI h := by rw [i_le, i_nI (by omega)]; show ¬ (21 : Int) ≤ _; omega
    obtain ⟨v, a1, a2⟩ := look_in (K := fun M x2 => b_X8_look_2 k n M x2) hx hw ok (show h < 21 by omega) 12 0 6000 0 (by omega) (by omega) (zGa_0 _)
    obtain ⟨M', b1, b2, b3⟩ := ih (h + 1) n (zu M 44 h v) (by omega) (by omega) (hw.eq6 (fun q _ _ => zu_row (by omega))) (fun h' hh' j hj => by
      rw [zu_at]
      by_cases e : h' = h
      · subst e
        rw [if_pos ⟨rfl, rfl⟩, a2 j hj]
        simp only [decide_eq_true_eq, i_lt, i_nI (show h' < 2147483648 by omega)]
        constructor
        · rintro ⟨z1, z2⟩; exact ⟨z1, by omega⟩
        · rintro ⟨z1, z2⟩; exact ⟨z1, by omega⟩
      · rw [if_neg (by omega)]; exact hz h' (by omega) j hj)
    refine ⟨M', ?_, fun q hq => by rw [b2 q hq, zu_row hq], b3⟩
    rw [b_X8_look_2, if_neg h21]
    exact a1.trans b1
theorem x_look {k : Nat} (hk : k + 6 ≤ 21) (hx : xw k) (ok : zOk w) (hw : zWr T M k w) : ∃ M', f_X8_look M k = some M' ∧ (∀ q, q ≠ 44 → M' q = M q) ∧ zLk M' w := by
  obtain ⟨M', a1, a2, a3⟩ := look_out (T := T) hk hx ok 21 0 6000 M (by omega) (by omega) hw (fun h' hh => by omega)
  exact ⟨M', a1, a2, a3⟩
theorem x_open {k : Nat} (hw : zWr T M k w) (ok : zOk w) (hl : zLk M w) {x dp : Int32} (hx : 0 ≤ x.toInt) (hd : 0 ≤ dp.toInt ∧ dp.toInt ≤ 9) : ∃ o, f_X8_openPlaces M k x dp = some o ∧ ∀ j, j < 32 → (tb o j = true ↔ j < 12 ∧ sDepth w j x ≤ dp) := by
  have hwi := sWater_i ok (x := x) (wind := w 9) hx ok.c9
  have e1 : (sWater w x (w 9) - dp).toInt = (sWater w x (w 9)).toInt - dp.toInt := i_sub (by omega) (by omega)
  have l20 : (20 : Int32).toInt = 20 := rfl
  obtain ⟨c, hc⟩ : ∃ c, c = (if 0 < (if sWater w x (w 9) - dp < 20 then sWater w x (w 9) - dp else 20) then (if sWater w x (w 9) - dp < 20 then sWater w x (w 9) - dp else 20) else (0 : Int32)) := ⟨_, rfl⟩
  have hci : c.toInt = max 0 (min 20 ((sWater w x (w 9)).toInt - dp.toInt)) := by
    rw [hc]
    by_cases q : sWater w x (w 9) - dp < 20
    · rw [if_pos q]
      rw [i_lt, e1, l20] at q
      by_cases q2 : (0 : Int32) < sWater w x (w 9) - dp
      · rw [if_pos q2, e1]; rw [i_lt, i_lit0, e1] at q2; omega
      · rw [if_neg q2, i_lit0]; rw [i_lt, i_lit0, e1] at q2; omega
    · rw [if_neg q, if_pos (by decide), l20]
      rw [i_lt, e1, l20] at q; omega
  obtain ⟨h, h1, h2⟩ := nI_get (x := c) (by omega)
  have h21 : h < 21 := by omega
  refine ⟨M 44 h, ?_, fun j hj => ?_⟩
  · rw [f_X8_openPlaces, hw.wind, x_waterWith hw ok hx, zbn_s, znm_e, znm_e, znm_e, ← hc, h2, x_at (n := 21) (by decide +kernel) (by omega) h21, zbn_s]
  · rw [hl h h21 j hj]
    by_cases q : j < 12
    · have hg := ok.g q
      have hs : (sWater w x (w 9) - w (14 + j)).toInt = (sWater w x (w 9)).toInt - (w (14 + j)).toInt := i_sub (by omega) (by omega)
      have hm := sMax0_i (sWater w x (w 9) - w (14 + j))
      unfold sDepth
      rw [i_le, hm, hs]
      constructor
      · rintro ⟨z1, z2⟩; refine ⟨z1, ?_⟩; split <;> omega
      · rintro ⟨z1, z2⟩
        refine ⟨z1, ?_⟩
        split at z2 <;> omega
    · exact ⟨fun z => absurd z.1 q, fun z => absurd z.1 q⟩
def zRch (S O : Nat → Prop) (i q : Nat) : Prop := ∃ p, S p ∧ ((p ≤ q ∧ q ≤ p + i ∧ ∀ r, p < r → r ≤ q → O r) ∨ (q ≤ p ∧ p ≤ q + i ∧ ∀ r, q ≤ r → r < p → O r))
theorem zRch_0 {S O : Nat → Prop} {q : Nat} : zRch S O 0 q ↔ S q := by
  constructor
  · rintro ⟨p, h1, h2 | h2⟩
    · rw [show q = p by omega]; exact h1
    · rw [show q = p by omega]; exact h1
  · exact fun h => ⟨q, h, Or.inl ⟨by omega, by omega, fun r h1 h2 => by omega⟩⟩
theorem zRch_S {S O : Nat → Prop} {i q : Nat} : zRch S O (i + 1) q ↔ zRch S O i q ∨ (O q ∧ ((1 ≤ q ∧ zRch S O i (q - 1)) ∨ zRch S O i (q + 1))) := by
  constructor
  · rintro ⟨p, h1, ⟨a, b, c⟩ | ⟨a, b, c⟩⟩
    · by_cases e : q ≤ p + i
      · exact Or.inl ⟨p, h1, Or.inl ⟨a, e, c⟩⟩
      · exact Or.inr ⟨c q (by omega) (by omega), Or.inl ⟨by omega, p, h1, Or.inl ⟨by omega, by omega, fun r h2 h3 => c r h2 (by omega)⟩⟩⟩
    · by_cases e : p ≤ q + i
      · exact Or.inl ⟨p, h1, Or.inr ⟨a, e, c⟩⟩
      · exact Or.inr ⟨c q (by omega) (by omega), Or.inr ⟨p, h1, Or.inr ⟨by omega, by omega, fun r h2 h3 => c r (by omega) h3⟩⟩⟩
  · rintro (⟨p, h1, ⟨a, b, c⟩ | ⟨a, b, c⟩⟩ | ⟨hq, ⟨hq1, p, h1, ⟨a, b, c⟩ | ⟨a, b, c⟩⟩ | ⟨p, h1, ⟨a, b, c⟩ | ⟨a, b, c⟩⟩⟩)
    · exact ⟨p, h1, Or.inl ⟨a, by omega, c⟩⟩
    · exact ⟨p, h1, Or.inr ⟨a, by omega, c⟩⟩
    · refine ⟨p, h1, Or.inl ⟨by omega, by omega, fun r h2 h3 => ?_⟩⟩
      by_cases e : r = q
      · rw [e]; exact hq
      · exact c r h2 (by omega)
    · by_cases e : p = q - 1
      · exact ⟨p, h1, Or.inl ⟨by omega, by omega, fun r h2 h3 => by rw [show r = q by omega]; exact hq⟩⟩
      · exact ⟨p, h1, Or.inr ⟨by omega, by omega, fun r h2 h3 => c r (by omega) h3⟩⟩
    · by_cases e : p = q + 1
      · exact ⟨p, h1, Or.inr ⟨by omega, by omega, fun r h2 h3 => by rw [show r = q by omega]; exact hq⟩⟩
      · exact ⟨p, h1, Or.inl ⟨by omega, by omega, fun r h2 h3 => c r h2 (by omega)⟩⟩
    · refine ⟨p, h1, Or.inr ⟨by omega, by omega, fun r h2 h3 => ?_⟩⟩
      by_cases e : r = q
      · rw [e]; exact hq
      · exact c r (by omega) h3
theorem reach_x {S O : Nat → Prop} (hS : ∀ p, S p → p < 12) (hO : ∀ p, O p → p < 12) {op : Int32} (hop : ∀ j, j < 32 → (tb op j = true ↔ j < 12 ∧ O j)) {P k : Nat} {K : Int32 → Int32 → Int32 → Option Int32} {x3 x5 x6 x9 : Int32} (hP : P ≤ 4) : ∀ (d i n : Nat) (v : Int32), i + d = P → d < n → (∀ j, j < 32 → (tb v j = true ↔ j < 12 ∧ zRch S O i j)) → ∃ v', b_X8_fewestHours_36 K k M x3 (nI P) x5 x6 op x9 n v (nI i) = b_X8_fewestHours_66 K k M x3 (nI P) x5 x6 v' x9 ∧ (∀ j, j < 32 → (tb v' j = true ↔ j < 12 ∧ zRch S O P j)) := by
  intro d
  induction d with
  | zero =>
    intro i n v hi hn hv
    obtain ⟨n, rfl⟩ : ∃ k, n = k + 1 := ⟨n - 1, by omega⟩
    have e : i = P := by omega
    subst e
    exact ⟨v, by rw [b_X8_fewestHours_36, if_pos (by rw [i_le]; omega)], hv⟩
  | succ d ih =>
    intro i n v hi hn hv
    obtain ⟨n, rfl⟩ : ∃ k, n = k + 1 := ⟨n - 1, by omega⟩
    have hle : ¬ nI P ≤ nI i := by rw [nI_leN (by omega) (by omega)]; omega
    obtain ⟨v', a1, a2⟩ := ih (i + 1) n (v ||| (((v <<< ((1 : Int32) &&& 31)) ||| (v >>> ((1 : Int32) &&& 31))) &&& op)) (by omega) (by omega) (fun j hj => by
      rw [zRch_S, tb_or, tb_and, tb_or, show (1 : Int32) = nI 1 from rfl, tb_shl _ (by decide)]
      by_cases q : j < 12
      · rw [tb_sar _ (by decide) (show 1 + j < 32 by omega)]
        simp only [Bool.or_eq_true, Bool.and_eq_true, decide_eq_true_eq, Bool.not_eq_true', decide_eq_false_iff_not, hv j hj, hop j hj, hv (1 + j) (by omega), q, true_and, hj]
        have e1 := hv (j - 1) (by omega)
        constructor
        · rintro (z | ⟨⟨z1, z2⟩ | z, zo⟩)
          · exact Or.inl z
          · exact Or.inr ⟨zo, Or.inl ⟨by omega, (e1.mp z2).2⟩⟩
          · exact Or.inr ⟨zo, Or.inr (by rw [Nat.add_comm]; exact z.2)⟩
        · rintro (z | ⟨zo, ⟨z1, z2⟩ | z⟩)
          · exact Or.inl z
          · exact Or.inr ⟨Or.inl ⟨by omega, e1.mpr ⟨by omega, z2⟩⟩, zo⟩
          · refine Or.inr ⟨Or.inr ?_, zo⟩
            by_cases e11 : j = 11
            · -- beyond the last place nobody stands; the reach is then from below
              exfalso
              subst e11
              obtain ⟨p, p1, ⟨c1, c2, c3⟩ | ⟨c1, c2, c3⟩⟩ := z
              · have := hS p p1
                have h12 := hO 12 (c3 12 (by omega) (by omega))
                omega
              · have := hS p p1; omega
            · exact ⟨by omega, by rw [Nat.add_comm]; exact z⟩
      · have : tb op j = false := by
          cases hh : tb op j with
          | true => exact absurd ((hop j hj).mp hh).1 q
          | false => rfl
        rw [this]
        have hv0 : tb v j = false := by
          cases hh : tb v j with
          | true => exact absurd ((hv j hj).mp hh).1 q
          | false => rfl
        rw [hv0]; simp [q])
    exact ⟨v', by rw [b_X8_fewestHours_36, if_neg hle, znm_e, znm_e, nI_p1]; exact a1, a2⟩
end
