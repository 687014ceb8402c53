section
variable {T : Int} {M M' N : zM}
def zcpy (M : zM) (A a0 B b0 K : Nat) : zM := fun q j => if q = A ∧ a0 ≤ j ∧ j < a0 + K then M B (b0 + (j - a0)) else M q j
theorem zcpy_0 {A a0 B b0 : Nat} : zcpy M A a0 B b0 0 = M := by
  funext q j; unfold zcpy; rw [if_neg (by omega)]
theorem zcpy_in {A a0 B b0 K i : Nat} (h : i < K) : zcpy M A a0 B b0 K A (a0 + i) = M B (b0 + i) := by
  unfold zcpy; rw [if_pos (by omega)]; congr 1; omega
theorem zcpy_row {A a0 B b0 K q : Nat} (h : q ≠ A) : zcpy M A a0 B b0 K q = M q := by
  funext j; unfold zcpy; rw [if_neg (by omega)]
theorem zcpy_out {A a0 B b0 K q j : Nat} (h : j < a0 ∨ a0 + K ≤ j) : zcpy M A a0 B b0 K q j = M q j := by
  unfold zcpy; rw [if_neg (by omega)]
theorem zcpy_S {A a0 B b0 i : Nat} (hab : A ≠ B ∨ a0 < b0) : zu (zcpy M A a0 B b0 i) A (a0 + i) (zcpy M A a0 B b0 i B (b0 + i)) = zcpy M A a0 B b0 (i + 1) := by
  have e : zcpy M A a0 B b0 i B (b0 + i) = M B (b0 + i) := by unfold zcpy; rw [if_neg (by omega)]
  funext q j
  rw [zu_at, e]
  unfold zcpy
  by_cases h1 : q = A ∧ j = a0 + i
  · rw [if_pos h1, if_pos (by omega), show b0 + (j - a0) = b0 + i by omega]
  · rw [if_neg h1]
    by_cases h2 : q = A ∧ a0 ≤ j ∧ j < a0 + i
    · rw [if_pos h2, if_pos (by omega)]
    · rw [if_neg h2, if_neg (by omega)]
theorem cp_loop {α : Type} {L : Nat → zM → Int32 → Option α} {C : zM → Option α} {A a0 B b0 K : Nat} (hab : A ≠ B ∨ a0 < b0)
    (hs : ∀ n i, i < K → L (n + 1) (zcpy M A a0 B b0 i) (nI i) = L n (zu (zcpy M A a0 B b0 i) A (a0 + i) (zcpy M A a0 B b0 i B (b0 + i))) (nI (i + 1)))
    (he : ∀ n, L (n + 1) (zcpy M A a0 B b0 K) (nI K) = C (zcpy M A a0 B b0 K)) {n : Nat} (hn : K < n) : L n M (nI 0) = C (zcpy M A a0 B b0 K) := by
  have key : ∀ d i n, i + d = K → d < n → L n (zcpy M A a0 B b0 i) (nI i) = C (zcpy M A a0 B b0 K) := by
    intro d
    induction d with
    | zero =>
      intro i n hi hn
      obtain ⟨n, rfl⟩ : ∃ k, n = k + 1 := ⟨n - 1, by omega⟩
      rw [show i = K by omega]; exact he n
    | succ d ih =>
      intro i n hi hn
      obtain ⟨n, rfl⟩ : ∃ k, n = k + 1 := ⟨n - 1, by omega⟩
      rw [hs n i (by omega), zcpy_S hab]
      exact ih (i + 1) n (by omega) (by omega)
  have := key K 0 n (by omega) hn
  rw [zcpy_0] at this
  exact this
theorem x_copyRow {o0 o1 n : Nat} (h0 : xl o0 = n) (h1 : xl o1 = n) (hn : n < 1000000) : ∃ M', f_X10_copyRow M o0 o1 = some M' ∧ (∀ q, q ≠ o1 → M' q = M q) ∧ (∀ j, j < n → M' o1 j = M o0 j) := by
  have e : (if (Int32.ofNat (xl o1)) < (Int32.ofNat (xl o0)) then (Int32.ofNat (xl o1)) else (Int32.ofNat (xl o0))) = nI n := by rw [h0, h1]; split <;> rfl
  have hi := i_nI (n := n) (by omega)
  have hz : zcp 0 0 (nI n) (xl o0) (xl o1) = true := by
    rw [h0, h1]; unfold zcp; simp [i_le, i_clamp, hi, i_lit0]
  refine ⟨_, by rw [f_X10_copyRow, znm_e, e, zck_t hz, znm_e], fun q hq => ?_, fun j hj => ?_⟩
  · unfold va_up; rw [if_neg hq]
  · unfold va_up
    rw [if_pos rfl]
    unfold va_cpy
    rw [nI_cl (by omega)]
    simp [hj]
def xw (k : Nat) : Prop := xl (k + 1) = 12 ∧ xl (k + 2) = 12 ∧ xl (k + 3) = 24 ∧ xl (k + 4) = 18 ∧ xl (k + 5) = 60
theorem x_copyFrom {k o : Nat} (hk : xw k) (ho : xw o) (hd : k + 6 ≤ o ∨ o + 6 ≤ k) : ∃ M', f_X9_copyFrom M k o = some M' ∧ (∀ q, ¬ (k ≤ q ∧ q < k + 6) → M' q = M q) ∧ (∀ j, j < 15 → M' k j = M o j) ∧ (∀ j, j < 12 → M' (k + 1) j = M (o + 1) j) ∧ (∀ j, j < 12 → M' (k + 2) j = M (o + 2) j) ∧ (∀ j, j < 24 → M' (k + 3) j = M (o + 3) j) ∧ (∀ j, j < 18 → M' (k + 4) j = M (o + 4) j) ∧ (∀ j, j < 60 → M' (k + 5) j = M (o + 5) j) := by
  have step : ∀ (Z : zM) (i : Nat), (∀ q, q ≠ k → Z q = M q) → (∀ j, j < i → Z k j = M o j) → (∀ q, q ≠ k → zu Z k i (Z o i) q = M q) ∧ (∀ j, j < i + 1 → zu Z k i (Z o i) k j = M o j) := by
    intro Z i h1 h2
    refine ⟨fun q hq => by rw [zu_row hq, h1 q hq], fun j hj => ?_⟩
    rw [zu_at]
    by_cases e : j = i
    · rw [if_pos ⟨rfl, e⟩, h1 o (by omega), e]
    · rw [if_neg (fun z => e z.2), h2 j (by omega)]
  obtain ⟨s1, t1⟩ := step M 0 (fun _ _ => rfl) (fun j hj => by omega)
  obtain ⟨s2, t2⟩ := step _ 1 s1 t1
  obtain ⟨s3, t3⟩ := step _ 2 s2 t2
  obtain ⟨s4, t4⟩ := step _ 3 s3 t3
  obtain ⟨s5, t5⟩ := step _ 4 s4 t4
  obtain ⟨s6, t6⟩ := step _ 5 s5 t5
  obtain ⟨s7, t7⟩ := step _ 6 s6 t6
  obtain ⟨s8, t8⟩ := step _ 7 s7 t7
  obtain ⟨s9, t9⟩ := step _ 8 s8 t8
  obtain ⟨s10, t10⟩ := step _ 9 s9 t9
  obtain ⟨s11, t11⟩ := step _ 10 s10 t10
  obtain ⟨s12, t12⟩ := step _ 11 s11 t11
  obtain ⟨s13, t13⟩ := step _ 12 s12 t12
  obtain ⟨s14, t14⟩ := step _ 13 s13 t13
  obtain ⟨s15, t15⟩ := step _ 14 s14 t14
  unfold f_X9_copyFrom
  simp only [znm_e]
  clear s1 s2 s3 s4 s5 s6 s7 s8 s9 s10 s11 s12 s13 s14 t1 t2 t3 t4 t5 t6 t7 t8 t9 t10 t11 t12 t13 t14 step
  generalize zu _ k 14 _ = Z at s15 t15 ⊢
  obtain ⟨Z1, e1, u1, v1⟩ := x_copyRow (M := Z) ho.1 hk.1 (by omega)
  obtain ⟨Z2, e2, u2, v2⟩ := x_copyRow (M := Z1) ho.2.1 hk.2.1 (by omega)
  obtain ⟨Z3, e3, u3, v3⟩ := x_copyRow (M := Z2) ho.2.2.1 hk.2.2.1 (by omega)
  obtain ⟨Z4, e4, u4, v4⟩ := x_copyRow (M := Z3) ho.2.2.2.1 hk.2.2.2.1 (by omega)
  obtain ⟨Z5, e5, u5, v5⟩ := x_copyRow (M := Z4) ho.2.2.2.2 hk.2.2.2.2 (by omega)
  refine ⟨Z5, by rw [e1, zbn_s, e2, zbn_s, e3, zbn_s, e4, zbn_s, e5, zbn_s], fun q hq => ?_, fun j hj => ?_, fun j hj => ?_, fun j hj => ?_, fun j hj => ?_, fun j hj => ?_, fun j hj => ?_⟩
  · rw [u5 q (by omega), u4 q (by omega), u3 q (by omega), u2 q (by omega), u1 q (by omega), s15 q (by omega)]
  · rw [u5 k (by omega), u4 k (by omega), u3 k (by omega), u2 k (by omega), u1 k (by omega), t15 j (by omega)]
  · rw [u5 _ (by omega), u4 _ (by omega), u3 _ (by omega), u2 _ (by omega), v1 j hj, s15 _ (by omega)]
  · rw [u5 _ (by omega), u4 _ (by omega), u3 _ (by omega), v2 j hj, u1 _ (by omega), s15 _ (by omega)]
  · rw [u5 _ (by omega), u4 _ (by omega), v3 j hj, u2 _ (by omega), u1 _ (by omega), s15 _ (by omega)]
  · rw [u5 _ (by omega), v4 j hj, u3 _ (by omega), u2 _ (by omega), u1 _ (by omega), s15 _ (by omega)]
  · rw [v5 j hj, u4 _ (by omega), u3 _ (by omega), u2 _ (by omega), u1 _ (by omega), s15 _ (by omega)]
theorem zWr.copy {k o : Nat} {w : Nat → Int32} (h : zWr T M o w) (h0 : ∀ j, j < 15 → M' k j = M o j) (h1 : ∀ j, j < 12 → M' (k + 1) j = M (o + 1) j) (h2 : ∀ j, j < 12 → M' (k + 2) j = M (o + 2) j) (h3 : ∀ j, j < 24 → M' (k + 3) j = M (o + 3) j) (h4 : ∀ j, j < 18 → M' (k + 4) j = M (o + 4) j) (h5 : ∀ j, j < 60 → M' (k + 5) j = M (o + 5) j) : zWr T M' k w := by
  obtain ⟨a, b, c, d1, d2, d3, d4, d5⟩ := h
  refine ⟨?_, ?_, ?_, ?_, ?_, ?_, ?_, ?_⟩
  · simp only [h0 0 (by decide), h0 1 (by decide), h0 2 (by decide), h0 3 (by decide), h0 4 (by decide), h0 5 (by decide), h0 6 (by decide), h0 7 (by decide), h0 8 (by decide), h0 9 (by decide), h0 10 (by decide), h0 11 (by decide)]; exact a
  · simp only [h0 12 (by decide), h0 13 (by decide)]; exact b
  · simp only [h0 14 (by decide)]; exact c
  · intro p hp; rw [h1 p hp]; exact d1 p hp
  · intro p hp; rw [h2 p hp]; exact d2 p hp
  · intro m hm c hc; rw [h3 _ (by omega)]; exact d3 m hm c hc
  · intro m hm c hc; rw [h4 _ (by omega)]; exact d4 m hm c hc
  · intro a ha hl
    rw [h0 14 (by decide)] at hl ⊢
    have e4 : 0 ≤ ((M o 14).toInt - 1 - a) % 60 ∧ ((M o 14).toInt - 1 - a) % 60 < 60 := ⟨Int.emod_nonneg _ (by decide), Int.emod_lt_of_pos _ (by decide)⟩
    rw [h5 _ (by omega)]; exact d5 a ha hl
theorem zWr.cp {k o : Nat} {w : Nat → Int32} (h : zWr T M o w) (hk : xw k) (ho : xw o) (hd : k + 6 ≤ o ∨ o + 6 ≤ k) : ∃ M', f_X9_copyFrom M k o = some M' ∧ (∀ q, ¬ (k ≤ q ∧ q < k + 6) → M' q = M q) ∧ zWr T M' k w := by
  obtain ⟨M', e, u, a0, a1, a2, a3, a4, a5⟩ := x_copyFrom (M := M) hk ho hd
  exact ⟨M', e, u, h.copy a0 a1 a2 a3 a4 a5⟩
theorem zLaw.copy {k o : Nat} {w : Nat → Int32} (h : zLaw M o w) (h0 : M' k 0 = M o 0) (h1 : ∀ j, j < 12 → M' (k + 1) j = M (o + 1) j) (h2 : ∀ j, j < 12 → M' (k + 2) j = M (o + 2) j) (h3 : ∀ j, j < 12 → M' (k + 3) j = M (o + 3) j) (h4 : ∀ j, j < 400 → M' (k + 4) j = M (o + 4) j) : zLaw M' k w := by
  refine ⟨fun q => by rw [h0]; exact h.1 q, fun q => ?_⟩
  obtain ⟨a1, a2, a3, a4⟩ := h.2 q
  refine ⟨by rw [h0]; exact a1, a2, a3, fun n hn => ?_⟩
  obtain ⟨c0, b0, b1, b2, b3, b4, b5, b6, b7, b8, b9⟩ := a4 n hn
  have hn12 : n < 12 := by omega
  unfold zLn
  rw [h1 n hn12, h2 n hn12, h3 n hn12]
  exact ⟨c0, b0, b1, b2, b3, b4, b5, b6, b7, fun i hi1 hi2 => by rw [h4 i (by omega)]; exact b8 i hi1 hi2, b9⟩
def xlw (k : Nat) : Prop := xl (k + 1) = 12 ∧ xl (k + 2) = 12 ∧ xl (k + 3) = 12 ∧ xl (k + 4) = 400
theorem x_lawCopy {k o : Nat} {w : Nat → Int32} (h : zLaw M o w) (hk : xlw k) (ho : xlw o) (hd : k + 6 ≤ o ∨ o + 6 ≤ k) : ∃ M', f_X3_copyFrom M k o = some M' ∧ (∀ q, ¬ (k ≤ q ∧ q < k + 5) → M' q = M q) ∧ zLaw M' k w ∧ M' k 0 = M o 0 := by
  unfold f_X3_copyFrom
  simp only [znm_e]
  have s2 : ∀ q, q ≠ k → zu (zu M k 0 (M o 0)) k 5 (zu M k 0 (M o 0) o 5) q = M q := fun q hq => by rw [zu_row hq, zu_row hq]
  have t2 : zu (zu M k 0 (M o 0)) k 5 (zu M k 0 (M o 0) o 5) k 0 = M o 0 := by rw [zu_at, if_neg (by omega), zu_at, if_pos ⟨rfl, rfl⟩]
  generalize zu _ k 5 _ = Z at s2 t2 ⊢
  obtain ⟨Z1, e1, u1, v1⟩ := x_copyRow (M := Z) ho.1 hk.1 (by omega)
  obtain ⟨Z2, e2, u2, v2⟩ := x_copyRow (M := Z1) ho.2.1 hk.2.1 (by omega)
  obtain ⟨Z3, e3, u3, v3⟩ := x_copyRow (M := Z2) ho.2.2.1 hk.2.2.1 (by omega)
  obtain ⟨Z4, e4, u4, v4⟩ := x_copyRow (M := Z3) ho.2.2.2 hk.2.2.2 (by omega)
  have h00 : Z4 k 0 = M o 0 := by rw [u4 _ (by omega), u3 _ (by omega), u2 _ (by omega), u1 _ (by omega), t2]
  refine ⟨Z4, by rw [e1, zbn_s, e2, zbn_s, e3, zbn_s, e4, zbn_s], fun q hq => ?_, h.copy h00 (fun j hj => ?_) (fun j hj => ?_) (fun j hj => ?_) (fun j hj => ?_), h00⟩
  · rw [u4 q (by omega), u3 q (by omega), u2 q (by omega), u1 q (by omega), s2 q (by omega)]
  · rw [u4 _ (by omega), u3 _ (by omega), u2 _ (by omega), v1 j hj, s2 _ (by omega)]
  · rw [u4 _ (by omega), u3 _ (by omega), v2 j hj, u1 _ (by omega), s2 _ (by omega)]
  · rw [u4 _ (by omega), v3 j hj, u2 _ (by omega), u1 _ (by omega), s2 _ (by omega)]
  · rw [v4 j hj, u3 _ (by omega), u2 _ (by omega), u1 _ (by omega), s2 _ (by omega)]
theorem nI_cond {i K : Nat} (hi : i < K) (hK : K < 2147483648) : ¬ nI K ≤ nI i := by rw [nI_leN hK (by omega)]; omega
theorem r_image_cp {n : Nat} (hn : 1181 < n) : b_X11_image_7 n M 0 = b_X11_image_32 (zcpy M 2 0 1 0 1181) := by
  refine cp_loop (L := b_X11_image_7) (A := 2) (a0 := 0) (B := 1) (b0 := 0) (K := 1181) (Or.inl (by decide)) (fun n i hi => ?_) (fun n => ?_) hn
  · rw [b_X11_image_7, if_neg (by exact nI_cond (K := 1181) hi (by omega)), zck_t (nI_lt_i (by omega) (by omega)), zck_t (nI_lt_i (by omega) (by omega)), znm_e, znm_e, nI_cl (by omega), nI_p1, Nat.zero_add]
  · rw [b_X11_image_7, if_pos (show (1181 : Int32) ≤ nI 1181 by decide)]
theorem r_back_cp {n : Nat} (hn : 1181 < n) : b_X11_back_16 n M 0 = b_X11_back_41 (zcpy M 1 0 2 0 1181) := by
  refine cp_loop (L := b_X11_back_16) (A := 1) (a0 := 0) (B := 2) (b0 := 0) (K := 1181) (Or.inl (by decide)) (fun n i hi => ?_) (fun n => ?_) hn
  · rw [b_X11_back_16, if_neg (by exact nI_cond (K := 1181) hi (by omega)), zck_t (nI_lt_i (by omega) (by omega)), zck_t (nI_lt_i (by omega) (by omega)), znm_e, znm_e, nI_cl (by omega), nI_p1, Nat.zero_add]
  · rw [b_X11_back_16, if_pos (show (1181 : Int32) ≤ nI 1181 by decide)]
theorem r_rem_cp {n r : Nat} (hr : M 0 7 = nI (r + 1)) (hr12 : r < 12) (hn : 332 < n) : b_X11_remembers_55 n M 0 = some (zcpy M 5 (332 * r) 1 0 332) := by
  refine cp_loop (L := b_X11_remembers_55) (C := fun Z => some Z) (A := 5) (a0 := 332 * r) (B := 1) (b0 := 0) (K := 332) (Or.inl (by decide)) (fun n i hi => ?_) (fun n => ?_) hn
  · have e : 332 * (zcpy M 5 (332 * r) 1 0 i 0 7 - 1) + nI i = nI (332 * r + i) := by rw [zcpy_row (by decide), hr, nI_m1, show (332 : Int32) = nI 332 from rfl, nI_mul, nI_add]
    rw [b_X11_remembers_55, if_neg (by exact nI_cond (K := 332) hi (by omega)), zck_t (nI_lt_i (by omega) (by omega)), e, zck_t (nI_lt_i (by omega) (by omega)), znm_e, znm_e, nI_cl (by omega), nI_cl (by omega), nI_p1, Nat.zero_add]
  · rw [b_X11_remembers_55, if_pos (show (332 : Int32) ≤ nI 332 by decide)]
theorem r_shift_cp {n : Nat} (hn : 3652 < n) : b_X11_remembers_11 n M 0 = b_X11_remembers_40 (zcpy M 5 0 5 332 3652) := by
  refine cp_loop (L := b_X11_remembers_11) (A := 5) (a0 := 0) (B := 5) (b0 := 332) (K := 3652) (Or.inr (by decide)) (fun n i hi => ?_) (fun n => ?_) hn
  · have e : nI i + 332 = nI (332 + i) := by rw [show (332 : Int32) = nI 332 from rfl, nI_add, Nat.add_comm]
    rw [b_X11_remembers_11, if_neg (by exact nI_cond (K := 3652) hi (by omega)), e, zck_t (nI_lt_i (by omega) (by omega)), zck_t (nI_lt_i (by omega) (by omega)), znm_e, znm_e, nI_cl (by omega), nI_cl (by omega), nI_p1, Nat.zero_add]
  · rw [b_X11_remembers_11, if_pos (show (3652 : Int32) ≤ nI 3652 by decide)]
theorem r_undo_cp {n r : Nat} (hr : M 0 7 = nI r) (hr12 : r < 12) (hn : 332 < n) : b_X11_undo_26 n M 0 = some (1, zcpy M 1 0 5 (332 * r) 332) := by
  refine cp_loop (L := b_X11_undo_26) (C := fun Z => some (1, Z)) (A := 1) (a0 := 0) (B := 5) (b0 := 332 * r) (K := 332) (Or.inl (by decide)) (fun n i hi => ?_) (fun n => ?_) hn
  · have e : 332 * (zcpy M 1 0 5 (332 * r) i 0 7) + nI i = nI (332 * r + i) := by rw [zcpy_row (by decide), hr, show (332 : Int32) = nI 332 from rfl, nI_mul, nI_add]
    rw [b_X11_undo_26, if_neg (by exact nI_cond (K := 332) hi (by omega)), e, zck_t (nI_lt_i (by omega) (by omega)), zck_t (nI_lt_i (by omega) (by omega)), znm_e, znm_e, nI_cl (by omega), nI_cl (by omega), nI_p1, Nat.zero_add]
  · rw [b_X11_undo_26, if_pos (show (332 : Int32) ≤ nI 332 by decide)]
end
