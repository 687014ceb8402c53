section
variable {L : Nat} {M N : zM}
def zwiL : List Nat := [1, 2, 3, 4, 9, 11, 12, 15, 7, 8, 10, 5, 14, 13, 16, 17, 18, 19, 29, 28, 20, 6, 23, 24, 25, 26, 27, 21, 22]
def zwi (i : Nat) : Nat := zwiL.getD i 0
def zofL : List Nat := [0, 7, 14, 20, 26, 31, 37, 45, 51, 56, 61, 66, 69, 74, 79, 84, 89, 94, 97, 100, 104, 108, 113, 119, 125, 130, 136, 141, 148, 154]
def zof (i : Nat) : Nat := zofL.getD i 0
theorem zof_e : ∀ i, i < 29 → zof (i + 1) = zof i + zLen.getD (zwi i) 0 + 1 ∧ zof (i + 1) ≤ 154 ∧ zwi i < 30 ∧ zWds.getD (zof i + zLen.getD (zwi i) 0) 0 = 32 := by decide +kernel
theorem zof_c : ∀ i, i < 29 → ∀ j, j < zLen.getD (zwi i) 0 → zWds.getD (zof i + j) 0 = zwb (zwi i) j ∧ ¬ zwb (zwi i) j = 32 := by decide +kernel
theorem zwi_d : ∀ i, i < 29 → ∀ k, k < 29 → zLen.getD (zwi i) 0 = zLen.getD (zwi k) 0 → (∀ j, j < zLen.getD (zwi i) 0 → zwb (zwi i) j = zwb (zwi k) j) → i = k := by decide +kernel
theorem wn_in (h : zTx L M N) (hw : ∀ j, j < 154 → M 40 j = zWds.getD j 0) {b e i : Nat} (hi : i < 29) (hb : M 39 4 = nI b) (he : M 39 5 = nI e) (hbe : b ≤ e) (heL : e ≤ L) : ∀ (d j n : Nat), j + d = zLen.getD (zwi i) 0 → d < n → b_X7_wordNumber_12 M (n + 1) (nI i) (nI (b + j)) (if b + j ≤ e ∧ zeq M b (zwi i) j = true then 1 else 0) (nI (zof i + j)) = if zwm M b e (zwi i) then some (nI i) else b_X7_wordNumber_12 M (n - d) (nI (i + 1)) (nI b) 1 (nI (zof (i + 1))) := by
  have hL := h.1
  obtain ⟨o1, o2, o3, o4⟩ := zof_e i hi
  intro d
  induction d with
  | zero =>
    intro j n hj hn
    have ej : j = zLen.getD (zwi i) 0 := by omega
    have h154 : ¬ (154 : Int32) ≤ nI (zof i + j) := by rw [i_le, i_nI (by omega)]; show ¬ (154 : Int) ≤ _; omega
    have e32 : M 40 (zof i + j) = 32 := by rw [hw _ (by omega), ej, o4]
    have e48 : b_X7_wordNumber_48 (fun x1 x2 x3 x4 => b_X7_wordNumber_12 M n x1 x2 x3 x4) M (nI i) (nI (zof i + j)) = b_X7_wordNumber_12 M n (nI (i + 1)) (nI b) 1 (nI (zof (i + 1))) := by
      rw [b_X7_wordNumber_48, znm_e, znm_e, b_X7_wordNumber_113, znm_e, hb, nI_p1, nI_p1, show zof i + j + 1 = zof (i + 1) by omega]
    rw [b_X7_wordNumber_12, if_neg h154, zck_t (nI_lt_i (by omega) (by omega)), nI_cl (by omega), e32, if_pos rfl, he, e48, Nat.sub_zero]
    by_cases q : b + j ≤ e ∧ zeq M b (zwi i) j = true
    · rw [if_pos q, if_neg n10]
      by_cases q2 : b + j = e
      · have ez : zwm M b e (zwi i) = true := by unfold zwm; rw [← ej, q.2, decide_eq_true (by omega)]; rfl
        rw [if_pos (by rw [q2]), ez]; rfl
      · have ez : zwm M b e (zwi i) = false := by unfold zwm; rw [← ej, decide_eq_false (by omega)]; rfl
        rw [if_neg (fun z => q2 (by rw [i_eq, i_nI (by omega), i_nI (by omega)] at z; omega)), ez]; rfl
    · have ez : zwm M b e (zwi i) = false := by
        unfold zwm
        rw [← ej]
        by_cases q3 : e = b + j
        · cases hz : zeq M b (zwi i) j with
          | true => exact absurd ⟨by omega, hz⟩ q
          | false => simp
        · rw [decide_eq_false q3]; rfl
      rw [if_neg q, if_pos rfl, ez]; rfl
  | succ d ih =>
    intro j n hj hn
    obtain ⟨n, rfl⟩ : ∃ k, n = k + 1 := ⟨n - 1, by omega⟩
    obtain ⟨c1, c2⟩ := zof_c i hi j (by omega)
    have h154 : ¬ (154 : Int32) ≤ nI (zof i + j) := by rw [i_le, i_nI (by omega)]; show ¬ (154 : Int) ≤ _; omega
    have e32 : M 40 (zof i + j) = zwb (zwi i) j := by rw [hw _ (by omega), c1]
    have hn2 := ih (j + 1) n (by omega) (by omega)
    have ez : zeq M b (zwi i) (j + 1) = (zeq M b (zwi i) j && decide (nI (zby M (b + j)) = zwb (zwi i) j)) := rfl
    have e109 : ∀ t0 : Int32, b_X7_wordNumber_109 (fun x1 x2 x3 x4 => b_X7_wordNumber_12 M (n + 1) x1 x2 x3 x4) M (nI i) (nI (b + j)) (nI (zof i + j)) t0 = b_X7_wordNumber_12 M (n + 1) (nI i) (nI (b + (j + 1))) t0 (nI (zof i + (j + 1))) := fun t0 => by
      rw [b_X7_wordNumber_109, znm_e, b_X7_wordNumber_113, znm_e, nI_p1, nI_p1]; rfl
    have e108 : b_X7_wordNumber_108 (fun x1 x2 x3 x4 => b_X7_wordNumber_12 M (n + 1) x1 x2 x3 x4) M (nI i) (nI (b + j)) (nI (zof i + j)) = b_X7_wordNumber_12 M (n + 1) (nI i) (nI (b + (j + 1))) 0 (nI (zof i + (j + 1))) := by rw [b_X7_wordNumber_108, e109]
    rw [show n + 1 - (d + 1) = n - d by omega, ← hn2]
    rw [b_X7_wordNumber_12, if_neg h154, zck_t (nI_lt_i (by omega) (by omega)), nI_cl (by omega), e32, if_neg c2, e108]
    by_cases q : b + j ≤ e ∧ zeq M b (zwi i) j = true
    · rw [if_pos q, if_neg n10, he]
      by_cases q2 : b + j < e
      · have hbb := (h.b (j := b + j) (by omega)).1
        rw [if_neg (by rw [nI_leN (by omega) (by omega)]; omega), if_neg (by rw [i_le, i_nI (by omega)]; show ¬ (400 : Int) ≤ _; omega), zck_t (nI_lt_i (by omega) (by omega)), zck_t (nI_lt_i (by omega) (by omega)), nI_cl (by omega), hbb, e109]
        by_cases q3 : nI (zby M (b + j)) = zwb (zwi i) j
        · rw [if_pos q3, if_pos ⟨by omega, by rw [ez, q.2, decide_eq_true q3]; rfl⟩]
        · rw [if_neg q3, if_neg (fun z => by have := z.2; rw [ez, decide_eq_false q3] at this; simp at this)]
      · rw [if_pos (by rw [nI_leN (by omega) (by omega)]; omega), if_neg (fun z => by omega)]
    · rw [if_neg q, if_pos rfl, if_neg (fun z => q ⟨by omega, by have := z.2; rw [ez] at this; simp at this; exact this.1⟩)]
theorem wn_out (h : zTx L M N) (hw : ∀ j, j < 154 → M 40 j = zWds.getD j 0) {b e : Nat} (hb : M 39 4 = nI b) (he : M 39 5 = nI e) (hbe : b ≤ e) (heL : e ≤ L) : ∀ (r i n : Nat), i + r = 29 → 200 * r < n → ∃ v, b_X7_wordNumber_12 M n (nI i) (nI b) 1 (nI (zof i)) = some v ∧ ((∃ k, i ≤ k ∧ k < 29 ∧ zwm M b e (zwi k) = true ∧ v = nI k) ∨ (v = -1 ∧ ∀ k, i ≤ k → k < 29 → zwm M b e (zwi k) = false)) := by
  intro r
  induction r with
  | zero =>
    intro i n hi hn
    obtain ⟨n, rfl⟩ : ∃ k, n = k + 1 := ⟨n - 1, by omega⟩
    have e : i = 29 := by omega
    subst e
    exact ⟨-1, by rw [b_X7_wordNumber_12, if_pos (by decide)], Or.inr ⟨rfl, fun k h1 h2 => by omega⟩⟩
  | succ r ih =>
    intro i n hi hn
    obtain ⟨n, rfl⟩ : ∃ k, n = k + 1 := ⟨n - 1, by omega⟩
    have hlen : zLen.getD (zwi i) 0 < 150 := by
      have : ∀ i, i < 29 → zLen.getD (zwi i) 0 < 150 := by decide
      exact this i (by omega)
    have hin := wn_in h hw (show i < 29 by omega) hb he hbe heL (zLen.getD (zwi i) 0) 0 n (by omega) (by omega)
    rw [if_pos ⟨by omega, rfl⟩] at hin
    simp only [Nat.add_zero] at hin
    rw [hin]
    cases hz : zwm M b e (zwi i) with
    | true => exact ⟨nI i, by rw [if_pos rfl], Or.inl ⟨i, by omega, by omega, hz, rfl⟩⟩
    | false =>
      rw [if_neg (by decide)]
      obtain ⟨v, v1, v2⟩ := ih (i + 1) (n - zLen.getD (zwi i) 0) (by omega) (by omega)
      refine ⟨v, v1, ?_⟩
      rcases v2 with ⟨k, k1, k2, k3, k4⟩ | ⟨k1, k2⟩
      · exact Or.inl ⟨k, by omega, k2, k3, k4⟩
      · refine Or.inr ⟨k1, fun k h1 h2 => ?_⟩
        by_cases e : k = i
        · rw [e]; exact hz
        · exact k2 k (by omega) h2
theorem zeq_at {b o : Nat} : ∀ n, zeq M b o n = true → ∀ j, j < n → nI (zby M (b + j)) = zwb o j
  | 0, _, j, hj => by omega
  | n + 1, h, j, hj => by
    have h' : (zeq M b o n && decide (nI (zby M (b + n)) = zwb o n)) = true := h
    simp at h'
    by_cases e : j = n
    · rw [e]; exact h'.2
    · exact zeq_at n h'.1 j (by omega)
theorem x_wordNumber (h : zTx L M N) (hw : ∀ j, j < 154 → M 40 j = zWds.getD j 0) {b e : Nat} (hb : M 39 4 = nI b) (he : M 39 5 = nI e) (hbe : b ≤ e) (heL : e ≤ L) : ∃ v, f_X7_wordNumber M = some v ∧ (∀ i, i < 29 → (v = nI i ↔ zwm M b e (zwi i) = true)) ∧ (v = -1 ∨ 0 ≤ v.toInt ∧ v.toInt < 29) := by
  obtain ⟨v, v1, v2⟩ := wn_out h hw hb he hbe heL 29 0 6000 (by omega) (by omega)
  refine ⟨v, by rw [f_X7_wordNumber, znm_e, hb]; exact v1, fun i hi => ?_, ?_⟩
  · rcases v2 with ⟨k, k1, k2, k3, k4⟩ | ⟨k1, k2⟩
    · rw [k4]
      constructor
      · intro z
        have : k = i := by rw [i_eq, i_nI (by omega), i_nI (by omega)] at z; omega
        rw [← this]; exact k3
      · intro z
        unfold zwm at z k3
        simp at z k3
        have hl : zLen.getD (zwi i) 0 = zLen.getD (zwi k) 0 := by
          have a1 := z.1
          have a2 := k3.1
          simp only [List.getD_eq_getElem?_getD]
          omega
        have := zwi_d i hi k k2 hl (fun j hj => by
          have a := zeq_at _ z.2 j (by simp only [List.getD_eq_getElem?_getD] at hj; exact hj)
          have b' := zeq_at _ k3.2 j (by rw [hl] at hj; simp only [List.getD_eq_getElem?_getD] at hj; exact hj)
          rw [← a, ← b'])
        rw [this]
    · constructor
      · intro z; rw [k1, i_eq, i_nI (by omega)] at z; exact absurd z (by show ¬ (-1 : Int) = _; omega)
      · intro z; rw [k2 i (by omega) hi] at z; exact absurd z (by decide)
  · rcases v2 with ⟨k, k1, k2, k3, k4⟩ | ⟨k1, k2⟩
    · rw [k4, i_nI (by omega)]; omega
    · exact Or.inl k1
end
