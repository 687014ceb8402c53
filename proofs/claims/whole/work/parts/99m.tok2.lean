section
variable {L : Nat} {M N : zM}
def zpn (L : Nat) (M : zM) (b : Nat) : Int32 := if b < zde L M b ∧ zde L M b - b ≤ 3 then nI (znv M b (zde L M b - b)) else -1
theorem zpn_i {b : Nat} : zpn L M b = -1 ∨ 0 ≤ (zpn L M b).toInt ∧ (zpn L M b).toInt < 1000 := by
  unfold zpn
  split
  · rename_i h
    right
    have h1 := znv_lt (M := M) (b := b) (zde L M b - b) (fun r hr => by
      have := zrn_in (zir M 48 57) (L - b) b (b + r) (by omega) (by unfold zde at hr; omega)
      exact this) h.2
    have h2 : 10 ^ (zde L M b - b) ≤ 1000 := by
      have : 10 ^ (zde L M b - b) ≤ 10 ^ 3 := Nat.pow_le_pow_right (by omega) h.2
      omega
    rw [i_nI (by omega)]; omega
  · exact Or.inl rfl
theorem r_number (h : zTx L M N) {q : Nat} (hq : N 0 10 = nI q) (hqL : q ≤ L) {lo hi : Int32} (hlo : 0 ≤ lo.toInt) : f_X11_number N lo hi = some (if lo.toInt ≤ (zpn L M (zsk L M q)).toInt ∧ (zpn L M (zsk L M q)).toInt ≤ hi.toInt then zpn L M (zsk L M q) else -1, zNb N (zsk L M q) (zde L M (zsk L M q))) := by
  have hL := h.1
  have hs := zsk_le (M := M) hqL
  generalize hb : zsk L M q = b at hs
  obtain ⟨e, e1, e2⟩ := num_loop (N := N) (lo := lo) (hi := hi) (L - b) 0 6000 0 h (b := b) (by omega) (by omega) (fun r hr => by omega) rfl
  have ee : e = zde L M b := e1
  have hd := zde_le (M := M) hs.2
  rw [f_X11_number, r_blanks h hq hqL, zbn_s, hb]
  refine e2.trans ?_
  rw [b_X11_number_65, zNb_10, zNb_12, ee]
  have lm : (-1 : Int32).toInt = -1 := rfl
  have hsub : nI (zde L M b) - nI b = nI (zde L M b - b) := by
    have a1 := i_nI (n := zde L M b) (by omega)
    have a2 := i_nI (n := b) (by omega)
    have a3 := i_nI (n := zde L M b - b) (by omega)
    rw [i_eq, i_sub (by omega) (by omega), a1, a2, a3]; omega
  by_cases q1 : zde L M b = b
  · have ez : zpn L M b = -1 := by unfold zpn; rw [if_neg (by omega)]
    rw [if_pos (by rw [q1]), ez, if_neg (by rw [lm]; omega)]
  · rw [if_neg (fun z => q1 (by rw [i_eq, i_nI (by omega), i_nI (by omega)] at z; omega)), hsub]
    by_cases q2 : zde L M b - b ≤ 3
    · have ez : zpn L M b = nI (znv M b (zde L M b - b)) := by unfold zpn; rw [if_pos ⟨by omega, q2⟩]
      rw [if_neg (by rw [i_lt, i_nI (by omega)]; show ¬ (3 : Int) < _; omega), if_pos q2, ← ez]
      by_cases q3 : zpn L M b < lo
      · rw [if_pos q3, if_neg (by rw [i_lt] at q3; omega)]
      · rw [if_neg q3]
        by_cases q4 : zpn L M b ≤ hi
        · rw [if_pos q4, if_pos (by rw [i_lt] at q3; rw [i_le] at q4; omega)]
        · rw [if_neg q4, if_neg (by rw [i_le] at q4; omega)]
    · have ez : zpn L M b = -1 := by unfold zpn; rw [if_neg (by omega)]
      rw [if_pos (by rw [i_lt, i_nI (by omega)]; show (3 : Int) < _; omega), ez, if_neg (by rw [lm]; omega)]
def zwb (o j : Nat) : Int32 := (zByt.getD o []).getD j 0
def zeq (M : zM) (b o : Nat) : Nat → Bool
  | 0 => true
  | i + 1 => zeq M b o i && decide (nI (zby M (b + i)) = zwb o i)
def zwm (M : zM) (b e o : Nat) : Bool := decide (e = b + zLen.getD o 0) && zeq M b o (zLen.getD o 0)
theorem zwb_a : ∀ o, o < 30 → ∀ j, j < zLen.getD o 0 → ∃ a : Nat, a < 128 ∧ zwb o j = nI a := by
  have : ∀ o, o < 30 → ∀ j, j < zLen.getD o 0 → (zwb o j).toInt.toNat < 128 ∧ zwb o j = nI (zwb o j).toInt.toNat := by decide +kernel
  exact fun o ho j hj => ⟨_, (this o ho j hj).1, (this o ho j hj).2⟩
theorem zTx.eq (h : zTx L M N) {j : Nat} (hj : j < 400) {a : Nat} (ha : a < 128) : N 6 j = nI a ↔ nI (zby M j) = nI a := by
  obtain ⟨e1, e2⟩ := h.b hj
  have e3 := (h.2.2.2 j hj).2.2
  have hb := byte_e (zby M j) e2
  rw [e1] at e3
  rw [← e3] at hb
  rw [i_eq, i_eq, hb, i_nI (by omega), i_nI (by omega)]
  split <;> omega
theorem isw_loop (h : zTx L M N) {b o : Nat} (ho : o < 30) (hb : b + zLen.getD o 0 ≤ L) : ∀ (d i n : Nat), i + d = zLen.getD o 0 → d + 1 < n → b_X11_isWord_24 o (zNb N b (b + zLen.getD o 0)) n (if zeq M b o i then 1 else 0) (nI i) = some (if zeq M b o (zLen.getD o 0) then 1 else 0) := by
  have hL := h.1
  have stop : ∀ d i, i + d = zLen.getD o 0 → zeq M b o i = false → zeq M b o (zLen.getD o 0) = false := by
    intro d
    induction d with
    | zero => intro i hi hz; rw [← show i = zLen.getD o 0 by omega]; exact hz
    | succ d ih => intro i hi hz; exact ih (i + 1) (by omega) (by show (zeq M b o i && _) = false; rw [hz]; rfl)
  intro d
  induction d with
  | zero =>
    intro i n hi hn
    obtain ⟨n, rfl⟩ : ∃ k, n = k + 1 := ⟨n - 1, by omega⟩
    have e : i = zLen.getD o 0 := by omega
    rw [← e, b_X11_isWord_24, ← e]
    cases zeq M b o i
    · rw [if_pos (by decide), zck_t (by decide)]
    · rw [if_neg (by decide), if_pos (by rw [i_le]; omega), zck_t (by decide)]
  | succ d ih =>
    intro i n hi hn
    obtain ⟨n, rfl⟩ : ∃ k, n = k + 1 := ⟨n - 1, by omega⟩
    rw [b_X11_isWord_24]
    cases hz : zeq M b o i with
    | false =>
      rw [stop (d + 1) i hi hz, if_pos (by decide), zck_t (by decide)]
    | true =>
      obtain ⟨a, a1, a2⟩ := zwb_a o ho i (by omega)
      have hq := h.eq (j := b + i) (by omega) a1
      have e6 : zNb N b (b + zLen.getD o 0) 6 = N 6 := by unfold zNb; rw [zu_row (by decide), zu_row (by decide)]
      have hn2 := ih (i + 1) n (by omega) (by omega)
      have ez : zeq M b o (i + 1) = decide (nI (zby M (b + i)) = zwb o i) := by show (zeq M b o i && _) = _; rw [hz]; rfl
      rw [if_neg (by decide), if_neg (by rw [nI_leN (by omega) (by omega)]; omega), zNb_12, nI_add, zck_t (nI_lt_i (by omega) (by omega)), zck_t (nI_lt_i (by omega) (by omega)), nI_cl (by omega), nI_cl (by omega), e6]
      show (if N 6 (b + i) = zwb o i then _ else _) = _
      by_cases q : nI (zby M (b + i)) = zwb o i
      · rw [if_pos (by rw [a2]; exact hq.mpr (by rw [← a2]; exact q)), b_X11_isWord_60, znm_e, nI_p1]
        rw [ez, decide_eq_true q] at hn2
        exact hn2
      · rw [if_neg (fun z => q (by rw [a2]; exact hq.mp (by rw [← a2]; exact z))), b_X11_isWord_60, znm_e, nI_p1]
        rw [ez, decide_eq_false q] at hn2
        exact hn2
theorem r_isWord (h : zTx L M N) {b e o : Nat} (ho : o < 30) (hbe : b ≤ e) (he : e ≤ L) : f_X11_isWord (zNb N b e) o = some (if zwm M b e o then 1 else 0) := by
  have hL := h.1
  have hl : zLen.getD o 0 < 1000 := by
    have : ∀ o, o < 30 → zLen.getD o 0 < 1000 := by decide
    exact this o ho
  have hsub : nI e - nI b = nI (e - b) := by
    have a1 := i_nI (n := e) (by omega)
    have a2 := i_nI (n := b) (by omega)
    have a3 := i_nI (n := e - b) (by omega)
    rw [i_eq, i_sub (by omega) (by omega), a1, a2, a3]; omega
  rw [f_X11_isWord, zNb_10, zNb_12, hsub]
  by_cases q : e = b + zLen.getD o 0
  · rw [if_pos (by congr 1; omega), b_X11_isWord_21, q]
    have := isw_loop h (b := b) ho (by omega) (zLen.getD o 0) 0 6000 (by omega) (by omega)
    refine this.trans ?_
    unfold zwm; simp
  · rw [if_neg (fun z => q (by rw [i_eq, i_nI (by omega), i_nI (by omega)] at z; omega)), b_X11_isWord_21]
    obtain ⟨f, hf⟩ : ∃ f, 6000 = f + 1 := ⟨5999, rfl⟩
    have ez : zwm M b e o = false := by unfold zwm; rw [decide_eq_false q]; rfl
    rw [hf, b_X11_isWord_24, if_pos rfl, zck_t (by decide), ez]; rfl
end
