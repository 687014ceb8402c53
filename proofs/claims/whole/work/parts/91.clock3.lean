section
variable {T : Int} {k : Nat}
def zPl (j : Nat) : Prop := j = 12 ∨ (92 ≤ j ∧ j < 332)
theorem s_row {M N : zM} (hk : k + 6 ≤ 21) (hx : xw k) (hT : T ≤ 2000000) (h : zWr T M k (N 1)) (ok : zOk (N 1)) {x1 x2 x3 x4 : Int32} (b1 : 0 ≤ x1.toInt ∧ x1.toInt ≤ 9999) (b2 : 0 ≤ x2.toInt ∧ x2.toInt ≤ 5) (b3 : 0 ≤ x3.toInt ∧ x3.toInt ≤ 1) (b4 : 0 ≤ x4.toInt ∧ x4.toInt ≤ 11) : ∃ M' N1, f_X9_addRow M k x1 x2 x3 x4 = some M' ∧ f_X11_tells N x2 x3 x4 = some N1 ∧ (∀ j, j < 92 → j ≠ 12 → N1 1 j = N 1 j) ∧ zWr (T + 1) M' k (zu N1 1 92 x1 1) ∧ zOk (zu N1 1 92 x1 1) ∧ zCf k zPl M M' N (zu N1 1 92 x1) := by
  obtain ⟨N1, r1, r2, r3⟩ := r_tells (N := N) (h := x1) (x1 := x2) (x2 := x3) (x3 := x4)
  have hL := h.logged
  have l60 : (60 : Int32).toInt = 60 := rfl
  obtain ⟨L, L1, L2⟩ := nI_get (x := M k 14) hL.1
  have hLb : L ≤ 2000000 := by omega
  have ei : M k 14 - M k 14 / 60 * 60 = nI (L % 60) := by
    have a1 := i_nI (n := L) (by omega)
    have a2 := i_nI (n := L % 60) (by omega)
    rw [L2, i_eq, i_rem (by omega) (by decide), a1, a2]
    exact (Int.natCast_emod _ _).symm
  have hlt := Nat.mod_lt L (show 0 < 60 by omega)
  have hw' : ∀ j, zu N1 1 92 x1 1 j = zlog (N 1) x1 x2 x3 x4 j := by
    intro j
    rw [zu_self, upd_at]
    by_cases e : j = 92
    · rw [if_pos e, e]; rfl
    · rw [if_neg e, r3 j e]
  have hlo : ∀ j, j < 92 → j ≠ 12 → zu N1 1 92 x1 1 j = N 1 j := fun j hj hn => by
    rw [hw' j]; unfold zlog
    rw [if_neg (by omega), if_neg (by omega), if_neg (by omega), if_neg (by omega), if_neg hn, if_neg (by omega)]
  have h12 : zu N1 1 92 x1 1 12 = if N 1 12 + 1 < 60 then N 1 12 + 1 else 60 := by rw [hw' 12]; rfl
  have c12 := ok.c12
  have e12 : (N 1 12 + 1).toInt = (N 1 12).toInt + 1 := by rw [i_add (by rw [i_lit1]; omega) (by rw [i_lit1]; omega), i_lit1]
  have h12i : (zu N1 1 92 x1 1 12).toInt = min ((N 1 12).toInt + 1) 60 := by
    rw [h12]
    split
    · rename_i q; rw [i_lt, e12, l60] at q; rw [e12]; omega
    · rename_i q; rw [i_lt, e12, l60] at q; rw [l60]; omega
  have hrow0 : ∀ c, c < 4 → zu N1 1 92 x1 1 (92 + c) = [x1, x2, x3, x4].getD c 0 := by
    intro c hc
    rw [hw']
    rcases (show c = 0 ∨ c = 1 ∨ c = 2 ∨ c = 3 by omega) with e | e | e | e <;> subst e <;> rfl
  have hrowS : ∀ a c, 1 ≤ a → a < 60 → c < 4 → zu N1 1 92 x1 1 (92 + 4 * a + c) = N 1 (92 + 4 * (a - 1) + c) := by
    intro a c h1 h2 hc
    rw [hw']; unfold zlog
    rw [if_neg (by omega), if_neg (by omega), if_neg (by omega), if_neg (by omega), if_neg (by omega), if_pos (by omega), show 92 + 4 * a + c - 4 = 92 + 4 * (a - 1) + c by omega]
  refine ⟨zu (zu M (k + 5) (L % 60) (zpack x1 x2 x3 x4)) k 14 (nI (L + 1)), N1, ?_, r1, ?_, ?_, ?_, ?_⟩
  · rw [f_X9_addRow, zck_t (by decide), ei, x_put hx.2.2.2.2 (by omega) hlt, zbn_s, znm_e, zu_row (by omega), L2, nI_p1]; rfl
  · intro j h1 h2
    have := hlo j h1 h2
    rw [zu_self, upd_at, if_neg (by omega)] at this
    exact this
  · obtain ⟨a, ⟨d1, d2⟩, c1, g1, g2, g3, g4, g5⟩ := h
    have hk' : ∀ i, i ≠ 14 → zu (zu M (k + 5) (L % 60) (zpack x1 x2 x3 x4)) k 14 (nI (L + 1)) k i = M k i := fun i hi => by rw [zu_at, if_neg (by omega), zu_row (by omega)]
    have hk14 : zu (zu M (k + 5) (L % 60) (zpack x1 x2 x3 x4)) k 14 (nI (L + 1)) k 14 = nI (L + 1) := by rw [zu_at, if_pos ⟨rfl, rfl⟩]
    have hr : ∀ i, i < 4 → zu (zu M (k + 5) (L % 60) (zpack x1 x2 x3 x4)) k 14 (nI (L + 1)) (k + 1 + i) = M (k + 1 + i) := fun i hi => by rw [zu_row (by omega), zu_row (by omega)]
    have hi1 := i_nI (n := L + 1) (by omega)
    refine ⟨?_, ⟨fun j hj => ?_, fun j hj => ?_⟩, ?_, fun p hp => ?_, fun p hp => ?_, fun m' hm' c' hc' => ?_, fun m' hm' c' hc' => ?_, fun a ha hl => ?_⟩
    · simp only [hlo 4 (by omega) (by omega), hlo 9 (by omega) (by omega), hlo 13 (by omega) (by omega), hlo 10 (by omega) (by omega), hlo 11 (by omega) (by omega), hlo 5 (by omega) (by omega), hlo 6 (by omega) (by omega), hlo 7 (by omega) (by omega), hlo 8 (by omega) (by omega), hlo 2 (by omega) (by omega), hlo 0 (by omega) (by omega), hlo 1 (by omega) (by omega), hk' 0 (by omega), hk' 1 (by omega), hk' 2 (by omega), hk' 3 (by omega), hk' 4 (by omega), hk' 5 (by omega), hk' 6 (by omega), hk' 7 (by omega), hk' 8 (by omega), hk' 9 (by omega), hk' 10 (by omega), hk' 11 (by omega)]; exact a
    · rw [hk' _ (by omega), d1 j hj]
      by_cases q : j < 6
      · simp only [hlo (42 + 5 * j) (by omega) (by omega)]
      · simp [q]
    · rw [hk' _ (by omega), d2 j hj]
      by_cases q : j < 6
      · simp only [hlo (71 + 4 * j) (by omega) (by omega)]
      · simp [q]
    · rw [hk14, hi1, h12i]; omega
    · rw [hr 0 (by omega), hlo _ (by omega) (by omega)]; exact g1 p hp
    · rw [hr 1 (by omega), hlo _ (by omega) (by omega)]; exact g2 p hp
    · rw [hr 2 (by omega), hlo _ (by omega) (by omega)]; exact g3 m' hm' c' hc'
    · rw [hr 3 (by omega), hlo _ (by omega) (by omega)]; exact g4 m' hm' c' hc'
    · rw [hk14, hi1] at hl ⊢
      rw [zu_row (by omega), zu_at]
      by_cases q : a = 0
      · subst q
        rw [if_pos ⟨rfl, by omega⟩]
        have f0 := hrow0 0 (by omega)
        have f1 := hrow0 1 (by omega)
        have f2 := hrow0 2 (by omega)
        have f3 := hrow0 3 (by omega)
        show zpack x1 x2 x3 x4 = zpack (zu N1 1 92 x1 1 (92 + 0)) (zu N1 1 92 x1 1 (92 + 1)) (zu N1 1 92 x1 1 (92 + 2)) (zu N1 1 92 x1 1 (92 + 3))
        rw [f0, f1, f2, f3]; rfl
      · have hne : (((L + 1 : Nat) : Int) - 1 - a) % 60 ≠ (L : Int) % 60 := by omega
        rw [if_neg (by omega)]
        have s0 := hrowS a 0 (by omega) ha (by omega)
        have s1 := hrowS a 1 (by omega) ha (by omega)
        have s2 := hrowS a 2 (by omega) ha (by omega)
        have s3 := hrowS a 3 (by omega) ha (by omega)
        simp only [Nat.add_zero] at s0
        rw [s0, s1, s2, s3]
        have := g5 (a - 1) (by omega) (by omega)
        have ix : ((L + 1 : Nat) : Int) - 1 - a = (M k 14).toInt - 1 - ((a - 1 : Nat) : Int) := by omega
        rw [← this, ix]
  · refine ⟨fun j hj => ?_, ?_, fun m hm hle => ?_, fun m hm hle => ?_⟩
    · by_cases q92 : j < 92
      · by_cases q12 : j = 12
        · subst q12; rw [h12i]; show (0 : Int) ≤ _ ∧ _ ≤ (60 : Int); omega
        · rw [hlo j q92 q12]; exact ok.1 j hj
      · obtain ⟨a, c, ha, hc, rfl⟩ : ∃ a c, a < 60 ∧ c < 4 ∧ j = 92 + 4 * a + c := ⟨(j - 92) / 4, (j - 92) % 4, by omega, by omega, by omega⟩
        rw [(zlo_l ha hc).1, (zlo_l ha hc).2]
        by_cases qa : a = 0
        · subst qa
          have f := hrow0 c hc
          rw [show 92 + 4 * 0 + c = 92 + c by omega, f]
          rcases (show c = 0 ∨ c = 1 ∨ c = 2 ∨ c = 3 by omega) with e | e | e | e <;> subst e
          · exact b1
          · exact b2
          · exact b3
          · exact b4
        · rw [hrowS a c (by omega) ha hc]; exact ok.l (show a - 1 < 60 by omega) hc
    · rw [hlo _ (by omega) (by omega), hlo _ (by omega) (by omega)]; exact ok.2.1
    · rw [hlo 0 (by omega) (by omega)] at hle
      rw [hlo _ (by omega) (by omega)]; exact ok.2.2.1 m hm hle
    · rw [hlo 1 (by omega) (by omega)] at hle
      rw [hlo _ (by omega) (by omega)]; exact ok.2.2.2 m hm hle
  · refine ⟨fun q a b c => ?_, fun j hj => ?_, fun q a b => ?_, fun j hj => ?_⟩
    · rw [zu_row (by omega), zu_row (by omega)]
    · rw [zu_row (by omega), zu_row (by omega)]
    · rw [zu_row a, r2 q a]
    · rw [hw' j]; unfold zlog; unfold zPl at hj
      rw [if_neg (by omega), if_neg (by omega), if_neg (by omega), if_neg (by omega), if_neg (by omega), if_neg (by omega)]
def zHm (w : Nat → Int32) (D p : Nat) : Prop := ∃ m, m < D ∧ w (42 + 5 * m) = 0 ∧ w (38 + 5 * m + 0) = nI p
theorem has_loop {N : zM} (ok : zOk (N 1)) {D : Nat} (hD : N 1 0 = nI D) (hD6 : D ≤ 6) {p : Nat} (hp : p < 12) : ∀ (d i n : Nat), i + d = D → d < n → ∃ v, b_X11_hasMonk_2 N (nI p) n (nI i) = some v ∧ ((v = 1 ∧ ∃ m, i ≤ m ∧ m < D ∧ N 1 (42 + 5 * m) = 0 ∧ N 1 (38 + 5 * m + 0) = nI p) ∨ (v = 0 ∧ ∀ m, i ≤ m → m < D → ¬ (N 1 (42 + 5 * m) = 0 ∧ N 1 (38 + 5 * m + 0) = nI p))) := by
  intro d
  induction d with
  | zero =>
    intro i n hi hn
    obtain ⟨n, rfl⟩ : ∃ k, n = k + 1 := ⟨n - 1, by omega⟩
    have e : i = D := by omega
    subst e
    have hle : nI i ≤ nI i := by rw [i_le]; omega
    exact ⟨0, by rw [b_X11_hasMonk_2, r_monks, zbn_s, hD, if_pos hle], Or.inr ⟨rfl, fun m h1 h2 => by omega⟩⟩
  | succ d ih =>
    intro i n hi hn
    obtain ⟨n, rfl⟩ : ∃ k, n = k + 1 := ⟨n - 1, by omega⟩
    have hi6 : i < 6 := by omega
    have hle : ¬ nI D ≤ nI i := by rw [nI_leN (by omega) (by omega)]; omega
    have r0 : f_X11_of N (nI i) 0 = some (N 1 (38 + 5 * i + 0)) := by rw [show (0 : Int32) = nI 0 from rfl, r_of hi6 (by omega)]
    obtain ⟨v, a1, a2⟩ := ih (i + 1) n (by omega) (by omega)
    have next : ¬ (N 1 (42 + 5 * i) = 0 ∧ N 1 (38 + 5 * i + 0) = nI p) → ((v = 1 ∧ ∃ m, i ≤ m ∧ m < D ∧ N 1 (42 + 5 * m) = 0 ∧ N 1 (38 + 5 * m + 0) = nI p) ∨ (v = 0 ∧ ∀ m, i ≤ m → m < D → ¬ (N 1 (42 + 5 * m) = 0 ∧ N 1 (38 + 5 * m + 0) = nI p))) := by
      intro hn
      rcases a2 with ⟨z, m, h1, h2, h3⟩ | ⟨z, hz⟩
      · exact Or.inl ⟨z, m, by omega, h2, h3⟩
      · refine Or.inr ⟨z, fun m h1 h2 => ?_⟩
        by_cases e : m = i
        · subst e; exact hn
        · exact hz m (by omega) h2
    by_cases qd : N 1 (42 + 5 * i) = 0
    · by_cases qp : N 1 (38 + 5 * i + 0) = nI p
      · exact ⟨1, by rw [b_X11_hasMonk_2, r_monks, zbn_s, hD, if_neg hle, r_isDrowned' ok hi6, zbn_s, if_pos qd, r0, zbn_s, if_pos qp], Or.inl ⟨rfl, i, by omega, by omega, qd, qp⟩⟩
      · exact ⟨v, by rw [b_X11_hasMonk_2, r_monks, zbn_s, hD, if_neg hle, r_isDrowned' ok hi6, zbn_s, if_pos qd, r0, zbn_s, if_neg qp, b_X11_hasMonk_30, znm_e, nI_p1]; exact a1, next (fun z => qp z.2)⟩
    · exact ⟨v, by rw [b_X11_hasMonk_2, r_monks, zbn_s, hD, if_neg hle, r_isDrowned' ok hi6, zbn_s, if_neg qd, b_X11_hasMonk_30, znm_e, nI_p1]; exact a1, next (fun z => qd z.1)⟩
theorem r_hasMonk {N : zM} (ok : zOk (N 1)) {D : Nat} (hD : N 1 0 = nI D) (hD6 : D ≤ 6) {p : Nat} (hp : p < 12) : ∃ v, f_X11_hasMonk N (nI p) = some v ∧ (v = 0 ↔ ¬ zHm (N 1) D p) := by
  obtain ⟨v, a1, a2⟩ := has_loop ok hD hD6 hp D 0 6000 (by omega) (by omega)
  refine ⟨v, a1, ?_⟩
  rcases a2 with ⟨z, m, h1, h2, h3⟩ | ⟨z, hz⟩
  · exact ⟨fun e => absurd (z.symm.trans e) (by decide), fun e => absurd ⟨m, h2, h3⟩ e⟩
  · exact ⟨fun _ e => by obtain ⟨m, h1, h2⟩ := e; exact hz m (by omega) h1 h2, fun _ => z⟩
theorem man_loop {M : zM} {w : Nat → Int32} (h : zWr T M k w) (ok : zOk w) {D : Nat} (hD : w 0 = nI D) (hD6 : D ≤ 6) : ∀ (d i n : Nat) (v : Int32), i + d = D → d < n → (∀ p, p < 12 → (tb v p = true ↔ zHm w i p)) → ∃ v', b_X0_keepAll_4 k M n v (nI i) = b_X0_keepAll_37 k M v' ∧ (∀ p, p < 12 → (tb v' p = true ↔ zHm w D p)) := by
  intro d
  induction d with
  | zero =>
    intro i n v hi hn hv
    obtain ⟨n, rfl⟩ : ∃ k, n = k + 1 := ⟨n - 1, by omega⟩
    have e : i = D := by omega
    subst e
    have hle : nI i ≤ nI i := by rw [i_le]; omega
    exact ⟨v, by rw [b_X0_keepAll_4, h.monks, hD, if_pos hle], hv⟩
  | succ d ih =>
    intro i n v hi hn hv
    obtain ⟨n, rfl⟩ : ∃ k, n = k + 1 := ⟨n - 1, by omega⟩
    have hi6 : i < 6 := by omega
    have hle : ¬ nI D ≤ nI i := by rw [nI_leN (by omega) (by omega)]; omega
    obtain ⟨p, hp, p2⟩ := ok.mp hi6 0 (by omega)
    have m0 : f_X9_monkCell M k (nI i) 0 = some (nI p) := by rw [show (0 : Int32) = nI 0 from rfl, x_monkCell h hi6 (by omega), p2]
    have split : ∀ q, zHm w (i + 1) q ↔ zHm w i q ∨ (w (42 + 5 * i) = 0 ∧ w (38 + 5 * i + 0) = nI q) := by
      intro q
      constructor
      · rintro ⟨m, h1, h2⟩
        by_cases e : m = i
        · subst e; exact Or.inr h2
        · exact Or.inl ⟨m, by omega, h2⟩
      · rintro (⟨m, h1, h2⟩ | h2)
        · exact ⟨m, by omega, h2⟩
        · exact ⟨i, by omega, h2⟩
    by_cases qd : w (42 + 5 * i) = 0
    · obtain ⟨v', a1, a2⟩ := ih (i + 1) n (v ||| ((1 : Int32) <<< (nI p &&& 31))) (by omega) (by omega) (fun q hq => by
        rw [split q, tb_set _ (by omega)]
        by_cases e : q = p
        · subst e; rw [if_pos rfl]; exact ⟨fun _ => Or.inr ⟨qd, p2⟩, fun _ => rfl⟩
        · rw [if_neg e, hv q hq]
          constructor
          · exact Or.inl
          · rintro (z | ⟨-, z⟩)
            · exact z
            · rw [p2] at z; exact absurd (by rw [i_eq, i_nI (by omega), i_nI (by omega)] at z; omega) e)
      exact ⟨v', by rw [b_X0_keepAll_4, h.monks, hD, if_neg hle, x_isDrowned h ok hi6, zbn_s, if_pos qd, m0, zbn_s, znm_e, b_X0_keepAll_31, znm_e, nI_p1]; exact a1, a2⟩
    · obtain ⟨v', a1, a2⟩ := ih (i + 1) n v (by omega) (by omega) (fun q hq => by
        rw [split q, hv q hq]
        exact ⟨Or.inl, fun z => z.elim id (fun z => absurd z.1 qd)⟩)
      exact ⟨v', by rw [b_X0_keepAll_4, h.monks, hD, if_neg hle, x_isDrowned h ok hi6, zbn_s, if_neg qd, b_X0_keepAll_31, znm_e, nI_p1]; exact a1, a2⟩
end
