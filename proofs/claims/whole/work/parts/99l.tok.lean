section
def zrn (f : Nat → Bool) : Nat → Nat → Nat
  | 0, p => p
  | d + 1, p => if f p then zrn f d (p + 1) else p
theorem zrn_le (f : Nat → Bool) : ∀ d p, p ≤ zrn f d p ∧ zrn f d p ≤ p + d
  | 0, p => ⟨Nat.le_refl _, Nat.le_refl _⟩
  | d + 1, p => by
    have h := zrn_le f d (p + 1)
    show p ≤ (if f p then zrn f d (p + 1) else p) ∧ (if f p then zrn f d (p + 1) else p) ≤ p + (d + 1)
    split <;> omega
theorem zrn_in (f : Nat → Bool) : ∀ d p r, p ≤ r → r < zrn f d p → f r = true
  | 0, p, r, h1, h2 => by have : r < p := h2; omega
  | d + 1, p, r, h1, h2 => by
    have h3 : r < (if f p then zrn f d (p + 1) else p) := h2
    cases hf : f p with
    | false => rw [hf] at h3; simp at h3; omega
    | true =>
      rw [hf] at h3
      simp at h3
      by_cases e : r = p
      · rw [e]; exact hf
      · exact zrn_in f d (p + 1) r (by omega) h3
theorem zrn_at (f : Nat → Bool) : ∀ d p, zrn f d p < p + d → f (zrn f d p) = false
  | 0, p, h => by have : p < p + 0 := h; omega
  | d + 1, p, h => by
    have h3 : (if f p then zrn f d (p + 1) else p) < p + (d + 1) := h
    show f (if f p then zrn f d (p + 1) else p) = false
    cases hf : f p with
    | false => simp [hf]
    | true =>
      rw [hf] at h3
      simp at h3
      simp
      exact zrn_at f d (p + 1) (by omega)
variable {L : Nat} {M M' N N' : zM}
def zby (M : zM) (j : Nat) : Nat := (M 2 j).toInt.toNat
def zTx (L : Nat) (M N : zM) : Prop := L ≤ 400 ∧ M 1 1 = nI L ∧ N 0 11 = nI L ∧ ∀ j, j < 400 → 0 ≤ (M 2 j).toInt ∧ (M 2 j).toInt ≤ 255 ∧ N 6 j = (M 2 j).toInt8.toInt32
theorem zTx.b (h : zTx L M N) {j : Nat} (hj : j < 400) : M 2 j = nI (zby M j) ∧ zby M j < 256 := by
  obtain ⟨h1, h2, h3⟩ := h.2.2.2 j hj
  unfold zby
  refine ⟨?_, by omega⟩
  rw [i_eq, i_nI (by omega)]; omega
theorem zTx.r (h : zTx L M N) {j lo hi : Nat} (hj : j < 400) (hlo : lo < 128) (hhi : hi < 128) : (¬ (N 6 j) < nI lo ∧ ¬ nI hi < N 6 j) ↔ lo ≤ zby M j ∧ zby M j ≤ hi := by
  obtain ⟨e1, e2⟩ := h.b hj
  have e3 := (h.2.2.2 j hj).2.2
  have hb := byte_e (zby M j) e2
  rw [e1] at e3
  rw [← e3] at hb
  rw [i_lt, i_lt, i_nI (by omega), i_nI (by omega), hb]
  split <;> omega
theorem zTx.v (h : zTx L M N) {j : Nat} (hj : j < 400) (hs : zby M j < 128) : N 6 j = nI (zby M j) := by
  obtain ⟨e1, e2⟩ := h.b hj
  have e3 := (h.2.2.2 j hj).2.2
  have hb := byte_e (zby M j) e2
  rw [e1] at e3
  rw [← e3, if_pos hs] at hb
  rw [i_eq, hb, i_nI (by omega)]
def zir (M : zM) (lo hi : Nat) (j : Nat) : Bool := decide (lo ≤ zby M j ∧ zby M j ≤ hi)
def zsk (L : Nat) (M : zM) (p : Nat) : Nat := zrn (zir M 32 32) (L - p) p
theorem r_isAt (h : zTx L M N) {q lo hi : Nat} (hq : N 0 10 = nI q) (hqL : q ≤ L) (hlo : lo < 128) (hhi : hi < 128) : f_X11_isAt N (nI lo) (nI hi) = some (if q < L ∧ zir M lo hi q = true then 1 else 0) := by
  have hL := h.1
  rw [f_X11_isAt, h.2.2.1, hq]
  by_cases q1 : q < L
  · have hr := h.r (j := q) (lo := lo) (hi := hi) (by omega) hlo hhi
    rw [if_neg (by rw [nI_leN (by omega) (by omega)]; omega), zck_t (nI_lt_i (by omega) (by omega)), zck_t (nI_lt_i (by omega) (by omega)), nI_cl (by omega)]
    by_cases a : N 6 q < nI lo
    · rw [if_pos a, if_neg (fun z => (hr.mpr (by have := z.2; unfold zir at this; simpa using this)).1 a)]
    · rw [if_neg a]
      by_cases b : nI hi < N 6 q
      · rw [if_pos b, if_neg (fun z => (hr.mpr (by have := z.2; unfold zir at this; simpa using this)).2 b)]
      · rw [if_neg b, if_pos ⟨q1, by unfold zir; simpa using hr.mp ⟨a, b⟩⟩]
  · rw [if_pos (by rw [nI_leN (by omega) (by omega)]; omega), if_neg (fun z => q1 z.1)]
theorem zTx.n0 (h : zTx L M N) {j : Nat} {v : Int32} (hj : j ≠ 11) : zTx L M (zu N 0 j v) := by
  refine ⟨h.1, h.2.1, by rw [zu_at, if_neg (by omega)]; exact h.2.2.1, fun i hi => ?_⟩
  rw [zu_row (by decide)]; exact h.2.2.2 i hi
theorem blanks_loop : ∀ (d q n : Nat) (N : zM), zTx L M N → q + d = L → d < n → N 0 10 = nI q → b_X11_blanks_0 n N = some (zu (zu N 0 10 (nI (zrn (zir M 32 32) d q))) 0 12 (nI (zrn (zir M 32 32) d q))) := by
  intro d
  induction d with
  | zero =>
    intro q n N h hq hn h10
    obtain ⟨n, rfl⟩ : ∃ k, n = k + 1 := ⟨n - 1, by omega⟩
    have e := r_isAt h (lo := 32) (hi := 32) h10 (by omega) (by omega) (by omega)
    rw [if_neg (by omega)] at e
    rw [b_X11_blanks_0, show (32 : Int32) = nI 32 from rfl, e, zbn_s, if_pos rfl, b_X11_blanks_24, znm_e, h10]
    show some (zu N 0 12 (nI q)) = some (zu (zu N 0 10 (nI q)) 0 12 (nI q))
    rw [zu_id h10]
  | succ d ih =>
    intro q n N h hq hn h10
    obtain ⟨n, rfl⟩ : ∃ k, n = k + 1 := ⟨n - 1, by omega⟩
    have e := r_isAt h (lo := 32) (hi := 32) h10 (by omega) (by omega) (by omega)
    have er : zrn (zir M 32 32) (d + 1) q = if zir M 32 32 q then zrn (zir M 32 32) d (q + 1) else q := rfl
    cases hf : zir M 32 32 q with
    | false =>
      rw [hf] at er e
      simp only [if_neg (show ¬ (false = true) by decide)] at er
      rw [if_neg (fun z => absurd z.2 (by decide))] at e
      rw [er, b_X11_blanks_0, show (32 : Int32) = nI 32 from rfl, e, zbn_s, if_pos rfl, b_X11_blanks_24, znm_e, h10, zu_id h10]
    | true =>
      rw [hf] at er e
      simp only [if_true] at er
      rw [if_pos ⟨by omega, rfl⟩] at e
      have := ih (q + 1) n (zu N 0 10 (nI (q + 1))) (h.n0 (by decide)) (by omega) (by omega) (by rw [zu_at, if_pos ⟨rfl, rfl⟩])
      rw [er, b_X11_blanks_0, show (32 : Int32) = nI 32 from rfl, e, zbn_s, if_neg n10, znm_e, h10, nI_p1, this, zu_zu]
def zNb (N : zM) (b p : Nat) : zM := zu (zu N 0 10 (nI p)) 0 12 (nI b)
theorem r_blanks (h : zTx L M N) {q : Nat} (hq : N 0 10 = nI q) (hqL : q ≤ L) : f_X11_blanks N = some (zNb N (zsk L M q) (zsk L M q)) := by
  have hL := h.1
  rw [f_X11_blanks, blanks_loop (L - q) q 6000 N h (by omega) (by omega) hq]; rfl
theorem zNb_tx (h : zTx L M N) {b p : Nat} : zTx L M (zNb N b p) := (h.n0 (by decide)).n0 (by decide)
theorem zNb_10 {b p : Nat} : zNb N b p 0 10 = nI p := by unfold zNb; rw [zu_at, if_neg (by decide), zu_at, if_pos ⟨rfl, rfl⟩]
theorem zNb_12 {b p : Nat} : zNb N b p 0 12 = nI b := by unfold zNb; rw [zu_at, if_pos ⟨rfl, rfl⟩]
theorem zNb_set {b p p' : Nat} : zu (zNb N b p) 0 10 (nI p') = zNb N b p' := by
  unfold zNb
  funext a c
  simp only [zu_at]
  by_cases h1 : a = 0 ∧ c = 10
  · simp [h1]
  · by_cases h2 : a = 0 ∧ c = 12
    · simp [h2]
    · simp [h1, h2]
theorem zNb_zNb {b p b' p' : Nat} : zNb (zNb N b p) b' p' = zNb N b' p' := by
  unfold zNb
  funext a c
  simp only [zu_at]
  by_cases h1 : a = 0 ∧ c = 10
  · simp [h1]
  · by_cases h2 : a = 0 ∧ c = 12
    · simp [h2]
    · simp [h1, h2]
theorem letters_loop {b : Nat} : ∀ (d q n : Nat), zTx L M N → q + d = L → d < n → b_X11_letters_4 n (zNb N b q) = some (zNb N b (zrn (zir M 97 122) d q)) := by
  intro d
  induction d with
  | zero =>
    intro q n h hq hn
    obtain ⟨n, rfl⟩ : ∃ k, n = k + 1 := ⟨n - 1, by omega⟩
    have e := r_isAt (zNb_tx h (b := b) (p := q)) (lo := 97) (hi := 122) zNb_10 (by omega) (by omega) (by omega)
    rw [if_neg (by omega)] at e
    rw [b_X11_letters_4, show (97 : Int32) = nI 97 from rfl, show (122 : Int32) = nI 122 from rfl, e, zbn_s, if_pos rfl]; rfl
  | succ d ih =>
    intro q n h hq hn
    obtain ⟨n, rfl⟩ : ∃ k, n = k + 1 := ⟨n - 1, by omega⟩
    have e := r_isAt (zNb_tx h (b := b) (p := q)) (lo := 97) (hi := 122) zNb_10 (by omega) (by omega) (by omega)
    have er : zrn (zir M 97 122) (d + 1) q = if zir M 97 122 q then zrn (zir M 97 122) d (q + 1) else q := rfl
    cases hf : zir M 97 122 q with
    | false =>
      rw [hf] at er e
      rw [if_neg (show ¬ (false = true) by decide)] at er
      rw [if_neg (fun z => absurd z.2 (by decide))] at e
      rw [er, b_X11_letters_4, show (97 : Int32) = nI 97 from rfl, show (122 : Int32) = nI 122 from rfl, e, zbn_s, if_pos rfl]
    | true =>
      rw [hf] at er e
      rw [if_pos rfl] at er
      rw [if_pos ⟨by omega, rfl⟩] at e
      rw [er, b_X11_letters_4, show (97 : Int32) = nI 97 from rfl, show (122 : Int32) = nI 122 from rfl, e, zbn_s, if_neg n10, znm_e, zNb_10, nI_p1, zNb_set]
      exact ih (q + 1) n h (by omega) (by omega)
def zle (L : Nat) (M : zM) (b : Nat) : Nat := zrn (zir M 97 122) (L - b) b
def zde (L : Nat) (M : zM) (b : Nat) : Nat := zrn (zir M 48 57) (L - b) b
theorem zsk_le {p : Nat} (h : p ≤ L) : p ≤ zsk L M p ∧ zsk L M p ≤ L := by have := zrn_le (zir M 32 32) (L - p) p; unfold zsk; omega
theorem zle_le {p : Nat} (h : p ≤ L) : p ≤ zle L M p ∧ zle L M p ≤ L := by have := zrn_le (zir M 97 122) (L - p) p; unfold zle; omega
theorem zde_le {p : Nat} (h : p ≤ L) : p ≤ zde L M p ∧ zde L M p ≤ L := by have := zrn_le (zir M 48 57) (L - p) p; unfold zde; omega
theorem r_letters (h : zTx L M N) {q : Nat} (hq : N 0 10 = nI q) (hqL : q ≤ L) : f_X11_letters N = some (zNb N (zsk L M q) (zle L M (zsk L M q))) := by
  have hs := zsk_le (M := M) hqL
  have hL := h.1
  rw [f_X11_letters, r_blanks h hq hqL, zbn_s]
  exact letters_loop (L - zsk L M q) (zsk L M q) 6000 h (by omega) (by omega)
def znv (M : zM) (b : Nat) : Nat → Nat
  | 0 => 0
  | i + 1 => 10 * znv M b i + (zby M (b + i) - 48)
theorem znv_lt {M : zM} {b : Nat} : ∀ i, (∀ r, r < i → zir M 48 57 (b + r) = true) → i ≤ 3 → znv M b i < 10 ^ i
  | 0, _, _ => by show 0 < 1; omega
  | i + 1, h, h3 => by
    have h1 := znv_lt (M := M) (b := b) i (fun r hr => h r (by omega)) (by omega)
    have h2 := h i (by omega)
    unfold zir at h2
    simp at h2
    show 10 * znv M b i + (zby M (b + i) - 48) < 10 ^ (i + 1)
    rw [Nat.pow_succ]
    omega
theorem num_loop {b : Nat} {lo hi : Int32} : ∀ (d i n : Nat) (v : Nat), zTx L M N → b + i + d = L → d < n → (∀ r, r < i → zir M 48 57 (b + r) = true) → v = znv M b (if i ≤ 3 then i else 3) → ∃ e, e = zrn (zir M 48 57) d (b + i) ∧ b_X11_number_6 lo hi n (zNb N b (b + i)) (nI v) = b_X11_number_65 (zNb N b e) lo hi (nI (znv M b (if e - b ≤ 3 then e - b else 3))) := by
  intro d
  induction d with
  | zero =>
    intro i n v h hq hn hr hv
    obtain ⟨n, rfl⟩ : ∃ k, n = k + 1 := ⟨n - 1, by omega⟩
    have hL := h.1
    have e := r_isAt (zNb_tx h (b := b) (p := b + i)) (lo := 48) (hi := 57) zNb_10 (by omega) (by omega) (by omega)
    rw [if_neg (by omega)] at e
    refine ⟨b + i, rfl, ?_⟩
    rw [b_X11_number_6, show (48 : Int32) = nI 48 from rfl, show (57 : Int32) = nI 57 from rfl, e, zbn_s, if_pos rfl, hv, show b + i - b = i by omega]
  | succ d ih =>
    intro i n v h hq hn hr hv
    obtain ⟨n, rfl⟩ : ∃ k, n = k + 1 := ⟨n - 1, by omega⟩
    have hL := h.1
    have e := r_isAt (zNb_tx h (b := b) (p := b + i)) (lo := 48) (hi := 57) zNb_10 (by omega) (by omega) (by omega)
    have er : zrn (zir M 48 57) (d + 1) (b + i) = if zir M 48 57 (b + i) then zrn (zir M 48 57) d (b + i + 1) else b + i := rfl
    cases hf : zir M 48 57 (b + i) with
    | false =>
      rw [hf] at er e
      rw [if_neg (show ¬ (false = true) by decide)] at er
      rw [if_neg (fun z => absurd z.2 (by decide))] at e
      refine ⟨b + i, er.symm, ?_⟩
      rw [b_X11_number_6, show (48 : Int32) = nI 48 from rfl, show (57 : Int32) = nI 57 from rfl, e, zbn_s, if_pos rfl, hv, show b + i - b = i by omega]
    | true =>
      rw [hf] at er e
      rw [if_pos rfl] at er
      rw [if_pos ⟨by omega, rfl⟩] at e
      have hdig : 48 ≤ zby M (b + i) ∧ zby M (b + i) ≤ 57 := by unfold zir at hf; simpa using hf
      have hsub : nI (b + i) - nI b = nI i := by
        have a1 := i_nI (n := b + i) (by omega)
        have a2 := i_nI (n := b) (by omega)
        have a3 := i_nI (n := i) (by omega)
        rw [i_eq, i_sub (by omega) (by omega), a1, a2, a3]; omega
      have hr' : ∀ r, r < i + 1 → zir M 48 57 (b + r) = true := fun r hr2 => by
        by_cases e : r = i
        · rw [e]; exact hf
        · exact hr r (by omega)
      have base : b_X11_number_6 lo hi (n + 1) (zNb N b (b + i)) (nI v) = (if 3 ≤ nI i then b_X11_number_6 lo hi n (zNb N b (b + i + 1)) (nI v) else b_X11_number_6 lo hi n (zNb N b (b + i + 1)) (10 * nI v + N 6 (b + i) - 48)) := by
        rw [b_X11_number_6, show (48 : Int32) = nI 48 from rfl, show (57 : Int32) = nI 57 from rfl, e, zbn_s, if_neg n10, zNb_10, zNb_12, hsub, zck_t (nI_lt_i (by omega) (by omega)), nI_cl (by omega), b_X11_number_51, b_X11_number_51, znm_e, znm_e, zNb_10, nI_p1, zNb_set]
        unfold zNb; rw [zu_row (by decide), zu_row (by decide)]
      by_cases q3 : i < 3
      · have e6 : N 6 (b + i) = nI (zby M (b + i)) := h.v (by omega) (by omega)
        have hvv : v = znv M b i := by rw [hv, if_pos (by omega)]
        have hlt := znv_lt (M := M) (b := b) i hr (by omega)
        have h1000 : 10 ^ i ≤ 1000 := by
          have : 10 ^ i ≤ 10 ^ 3 := Nat.pow_le_pow_right (by omega) (by omega)
          omega
        have ev : 10 * nI v + N 6 (b + i) - 48 = nI (znv M b (i + 1)) := by
          have a1 : 10 * nI v = nI (10 * v) := by rw [show (10 : Int32) = nI 10 from rfl, nI_mul]
          have l48 : (48 : Int32).toInt = 48 := rfl
          rw [a1, e6, nI_add, i_eq, i_sub (by rw [i_nI (by omega), l48]; omega) (by rw [i_nI (by omega), l48]; omega), i_nI (by omega), l48, i_nI (by show 10 * znv M b i + (zby M (b + i) - 48) < _; omega)]
          show (((10 * v + zby M (b + i) : Nat)) : Int) - 48 = ((10 * znv M b i + (zby M (b + i) - 48) : Nat) : Int)
          omega
        obtain ⟨e', g1, g2⟩ := ih (i + 1) n (znv M b (i + 1)) h (by omega) (by omega) hr' (by rw [if_pos (by omega)])
        refine ⟨e', by rw [er]; exact g1, ?_⟩
        rw [base, if_neg (by rw [i_le, i_nI (by omega)]; show ¬ (3 : Int) ≤ _; omega), ev]
        exact g2
      · obtain ⟨e', g1, g2⟩ := ih (i + 1) n v h (by omega) (by omega) hr' (by
          rw [hv]
          by_cases q4 : i = 3
          · rw [if_pos (by omega), if_neg (by omega), q4]
          · rw [if_neg (by omega), if_neg (by omega)])
        refine ⟨e', by rw [er]; exact g1, ?_⟩
        rw [base, if_pos (by rw [i_le, i_nI (by omega)]; show (3 : Int) ≤ _; omega)]
        exact g2
end
