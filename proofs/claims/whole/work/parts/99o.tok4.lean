section
variable {L : Nat} {M N : zM}
def zkd (L : Nat) (M : zM) (b : Nat) : Nat := if L ≤ b then 0 else if zir M 97 122 b then 1 else if zir M 48 57 b then 2 else 3
def zen (L : Nat) (M : zM) (b : Nat) : Nat := if L ≤ b then b else if zir M 97 122 b then zle L M b else if zir M 48 57 b then zde L M b else b + 1
def zvl (L : Nat) (M : zM) (b : Nat) (v : Int32) : Prop := (zkd L M b = 1 → (∀ i, i < 29 → (v = nI i ↔ zwm M b (zle L M b) (zwi i) = true)) ∧ (v = -1 ∨ 0 ≤ v.toInt ∧ v.toInt < 29)) ∧ (zkd L M b = 2 → v = zpn L M b) ∧ (zkd L M b = 3 → v = nI (zby M b))
def zTk (L : Nat) (M : zM) (b : Nat) : Prop := b ≤ L ∧ zsk L M b = b ∧ M 39 4 = nI b ∧ M 39 2 = nI (zkd L M b) ∧ M 39 5 = nI (zen L M b) ∧ (zkd L M b ≠ 0 → zvl L M b (M 39 3))
theorem x_kind {b : Nat} (h : zTx L M N) (hb : b < L) {Z : zM} : f_X7_kindOf Z (nI (zby M b)) = some (nI (zkd L M b)) := by
  have hL := h.1
  have h256 := (h.b (j := b) (by omega)).2
  have k0 : ¬ L ≤ b := by omega
  unfold zkd zir
  rw [if_neg k0, f_X7_kindOf, b_X7_kindOf_14]
  have l1 : ∀ c : Nat, c < 256 → (nI (zby M b) < nI c ↔ zby M b < c) := fun c hc => nI_ltN (by omega) (by omega)
  have l2 : ∀ c : Nat, c < 256 → (nI c < nI (zby M b) ↔ c < zby M b) := fun c hc => nI_ltN (by omega) (by omega)
  rw [show (97 : Int32) = nI 97 from rfl, show (122 : Int32) = nI 122 from rfl, show (48 : Int32) = nI 48 from rfl, show (57 : Int32) = nI 57 from rfl]
  simp only [l1 97 (by omega), l2 122 (by omega), l1 48 (by omega), l2 57 (by omega), decide_eq_true_eq]
  by_cases a : zby M b < 97
  · rw [if_pos a, if_neg (show ¬ (97 ≤ zby M b ∧ zby M b ≤ 122) by omega)]
    by_cases c : zby M b < 48
    · rw [if_pos c, if_neg (show ¬ (48 ≤ zby M b ∧ zby M b ≤ 57) by omega)]; rfl
    · rw [if_neg c]
      by_cases d : 57 < zby M b
      · rw [if_pos d, if_neg (show ¬ (48 ≤ zby M b ∧ zby M b ≤ 57) by omega)]; rfl
      · rw [if_neg d, if_pos (show 48 ≤ zby M b ∧ zby M b ≤ 57 by omega)]; rfl
  · rw [if_neg a]
    by_cases c : 122 < zby M b
    · rw [if_pos c, if_neg (show ¬ (97 ≤ zby M b ∧ zby M b ≤ 122) by omega), if_neg (show ¬ (48 ≤ zby M b ∧ zby M b ≤ 57) by omega), if_neg (show ¬ zby M b < 48 by omega), if_pos (show 57 < zby M b by omega)]; rfl
    · rw [if_neg c, if_pos (show 97 ≤ zby M b ∧ zby M b ≤ 122 by omega)]; rfl
def zTf (M M' : zM) : Prop := (∀ q, q ≠ 39 → M' q = M q) ∧ M' 39 6 = M 39 6
theorem zTf.refl : zTf M M := ⟨fun _ _ => rfl, rfl⟩
theorem zTf.trans {M' M'' : zM} (h : zTf M M') (h' : zTf M' M'') : zTf M M'' := ⟨fun q hq => (h'.1 q hq).trans (h.1 q hq), h'.2.trans h.2⟩
theorem zTf.zby {M' : zM} (h : zTf M M') : zby M' = Jvm.Pilot.CTideBookLaw_law_r7776_88b71c.zby M := by funext j; unfold Jvm.Pilot.CTideBookLaw_law_r7776_88b71c.zby; rw [h.1 2 (by decide)]
theorem zir_eq {M' : zM} (h : zby M' = zby M) {lo hi : Nat} : zir M' lo hi = zir M lo hi := by funext j; unfold zir; rw [h]
theorem zsk_eq {M' : zM} (h : zby M' = zby M) {p : Nat} : zsk L M' p = zsk L M p := by unfold zsk; rw [zir_eq h]
theorem zle_eq {M' : zM} (h : zby M' = zby M) {p : Nat} : zle L M' p = zle L M p := by unfold zle; rw [zir_eq h]
theorem zde_eq {M' : zM} (h : zby M' = zby M) {p : Nat} : zde L M' p = zde L M p := by unfold zde; rw [zir_eq h]
theorem zkd_eq {M' : zM} (h : zby M' = zby M) {p : Nat} : zkd L M' p = zkd L M p := by unfold zkd; rw [zir_eq h, zir_eq h]
theorem zen_eq {M' : zM} (h : zby M' = zby M) {p : Nat} : zen L M' p = zen L M p := by unfold zen; rw [zir_eq h, zir_eq h, zle_eq h, zde_eq h]
theorem zTx.tf {M' : zM} (h : zTx L M N) (f : zTf M M') : zTx L M' N := by
  refine ⟨h.1, by rw [f.1 1 (by decide)]; exact h.2.1, h.2.2.1, fun j hj => ?_⟩
  rw [f.1 2 (by decide)]; exact h.2.2.2 j hj
theorem skip_loop {L : Nat} {M0 N : zM} (h : zTx L M0 N) : ∀ (d p n : Nat) (M : zM), p + d = L → d < n → zTf M0 M → M 39 4 = nI p → ∃ M', b_X7_next_27 (nI L) n M = b_X7_next_65 M' (nI L) ∧ zTf M0 M' ∧ M' 39 4 = nI (zrn (zir M0 32 32) d p) := by
  have hL := h.1
  intro d
  induction d with
  | zero =>
    intro p n M hp hn hf h4
    obtain ⟨n, rfl⟩ : ∃ k, n = k + 1 := ⟨n - 1, by omega⟩
    exact ⟨M, by rw [b_X7_next_27, h4, if_pos (by rw [nI_leN (by omega) (by omega)]; omega)], hf, h4⟩
  | succ d ih =>
    intro p n M hp hn hf h4
    obtain ⟨n, rfl⟩ : ∃ k, n = k + 1 := ⟨n - 1, by omega⟩
    have er : zrn (zir M0 32 32) (d + 1) p = if zir M0 32 32 p then zrn (zir M0 32 32) d (p + 1) else p := rfl
    have hb := (h.b (j := p) (by omega)).1
    have e2 : M 2 p = nI (zby M0 p) := by rw [hf.1 2 (by decide)]; exact hb
    have h256 := (h.b (j := p) (by omega)).2
    have hq : (nI (zby M0 p) = 32) ↔ zir M0 32 32 p = true := by
      unfold zir
      rw [i_eq, i_nI (by omega)]
      simp only [decide_eq_true_eq]
      show (zby M0 p : Int) = 32 ↔ _
      omega
    rw [b_X7_next_27, h4, if_neg (by rw [nI_leN (by omega) (by omega)]; omega), zck_t (nI_lt_i (by omega) (by omega)), nI_cl (by omega), e2]
    cases hz : zir M0 32 32 p with
    | true =>
      rw [hz] at er
      rw [if_pos rfl] at er
      obtain ⟨M', a1, a2, a3⟩ := ih (p + 1) n (zu M 39 4 (nI (p + 1))) (by omega) (by omega) ⟨fun q hq => by rw [zu_row hq, hf.1 q hq], by rw [zu_at, if_neg (by decide)]; exact hf.2⟩ (by rw [zu_at, if_pos ⟨rfl, rfl⟩])
      refine ⟨M', ?_, a2, by rw [er]; exact a3⟩
      rw [if_pos (hq.mpr hz), znm_e, nI_p1]; exact a1
    | false =>
      rw [hz] at er
      rw [if_neg (by decide)] at er
      exact ⟨M, by rw [if_neg (fun z => by have := hq.mp z; rw [hz] at this; exact absurd this (by decide))], hf, by rw [er]; exact h4⟩
theorem ext_loop {L : Nat} {M0 N : zM} (h : zTx L M0 N) {b : Nat} (hb : b < L) {x2 : Int32} (hk : zkd L M0 b = 1 ∨ zkd L M0 b = 2) {f : Nat → Bool} (hf : ∀ j, j < L → (zkd L M0 j = zkd L M0 b ↔ f j = true)) : ∀ (d p n : Nat) (M : zM), p + d = L → d < n → zTf M0 M → M 39 2 = nI (zkd L M0 b) → M 39 4 = nI b → M 39 5 = nI p → ∃ M', b_X7_next_118 (nI L) x2 n M = b_X7_next_169 M' x2 ∧ zTf M0 M' ∧ M' 39 2 = nI (zkd L M0 b) ∧ M' 39 4 = nI b ∧ M' 39 5 = nI (zrn f d p) := by
  have hL := h.1
  have hk4 : ∀ j, zkd L M0 j < 4 := fun j => by unfold zkd; by_cases a : L ≤ j <;> by_cases b : zir M0 97 122 j = true <;> by_cases c : zir M0 48 57 j = true <;> simp [a, b, c]
  intro d
  induction d with
  | zero =>
    intro p n M hp hn hf0 h2 h4 h5
    obtain ⟨n, rfl⟩ : ∃ k, n = k + 1 := ⟨n - 1, by omega⟩
    exact ⟨M, by rw [b_X7_next_118, h5, if_pos (by rw [nI_leN (by omega) (by omega)]; omega)], hf0, h2, h4, h5⟩
  | succ d ih =>
    intro p n M hp hn hf0 h2 h4 h5
    obtain ⟨n, rfl⟩ : ∃ k, n = k + 1 := ⟨n - 1, by omega⟩
    have er : zrn f (d + 1) p = if f p then zrn f d (p + 1) else p := rfl
    have e2 : M 2 p = nI (zby M0 p) := by rw [hf0.1 2 (by decide)]; exact (h.b (j := p) (by omega)).1
    have hkp := hk4 p
    have hkb := hk4 b
    have hne3 : ¬ nI (zkd L M0 b) = 3 := fun z => by rw [i_eq, i_nI (by omega)] at z; have : (zkd L M0 b : Int) = 3 := z; omega
    rw [b_X7_next_118, h5, if_neg (by rw [nI_leN (by omega) (by omega)]; omega), h2, if_neg hne3, zck_t (nI_lt_i (by omega) (by omega)), nI_cl (by omega), e2, x_kind h (show p < L by omega), zbn_s]
    have hfp := hf p (by omega)
    cases hz : f p with
    | true =>
      rw [hz] at er
      rw [if_pos rfl] at er
      obtain ⟨M', a1, a2, a3, a4, a5⟩ := ih (p + 1) n (zu M 39 5 (nI (p + 1))) (by omega) (by omega) ⟨fun q hq => by rw [zu_row hq, hf0.1 q hq], by rw [zu_at, if_neg (by decide)]; exact hf0.2⟩ (by rw [zu_at, if_neg (by decide)]; exact h2) (by rw [zu_at, if_neg (by decide)]; exact h4) (by rw [zu_at, if_pos ⟨rfl, rfl⟩])
      refine ⟨M', ?_, a2, a3, a4, by rw [er]; exact a5⟩
      rw [if_pos (by rw [hfp.mpr hz]), znm_e, nI_p1]; exact a1
    | false =>
      rw [hz] at er
      rw [if_neg (by decide)] at er
      refine ⟨M, ?_, hf0, h2, h4, by rw [er]; exact h5⟩
      rw [if_neg (fun z => by
        have : zkd L M0 p = zkd L M0 b := by rw [i_eq, i_nI (by omega), i_nI (by omega)] at z; omega
        have := hfp.mp this
        rw [hz] at this; exact absurd this (by decide))]
end
