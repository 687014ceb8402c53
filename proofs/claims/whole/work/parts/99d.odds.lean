section
variable {t : Nat} {M N : zM}
def lI (n : Nat) : Int64 := Int64.ofNat n
def dot (c : Nat → Nat) (T : Nat → Int64) : Int64 := lI (c 0) * T 0 + lI (c 1) * T 1 + lI (c 2) * T 2 + lI (c 3) * T 3 + lI (c 4) * T 4 + lI (c 5) * T 5 + lI (c 6) * T 6
theorem lI_add (a b : Nat) : lI (a + b) = lI a + lI b := Int64.ofNat_add a b
theorem dot_inc {c : Nat → Nat} {T : Nat → Int64} {b : Nat} (hb : b ≤ 6) (C : Nat) : dot (fun j => if j = b then c j + C else c j) T = dot c T + lI C * T b := by
  rcases (show b = 0 ∨ b = 1 ∨ b = 2 ∨ b = 3 ∨ b = 4 ∨ b = 5 ∨ b = 6 by omega) with e | e | e | e | e | e | e <;> subst e <;> simp only [dot] <;> simp <;> rw [lI_add] <;> grind
def zpw (p : Int64) : Nat → Int64
  | 0 => 1
  | n + 1 => zpw p n * p
def lob (s : Nat) : Nat → Nat
  | 0 => 0
  | n + 1 => lob s n + (if s.testBit n then 1 else 0)
theorem lob_le (s : Nat) : ∀ n, lob s n ≤ n
  | 0 => Nat.le_refl _
  | n + 1 => by unfold lob; have := lob_le s n; split <;> omega
theorem power_loop {x0 : Int32} {e : Nat} (he : e ≤ 6) : ∀ (d i n : Nat), i + d = e → d < n → b_X10_power_5 M x0 (nI e) n (zpw x0.toInt64 i) (nI i) = some (zpw x0.toInt64 e) := by
  intro d
  induction d with
  | zero =>
    intro i n hi hn
    obtain ⟨n, rfl⟩ : ∃ k, n = k + 1 := ⟨n - 1, by omega⟩
    have e : i = e := by omega
    subst e
    rw [b_X10_power_5, if_pos (by rw [i_le]; omega)]
  | succ d ih =>
    intro i n hi hn
    obtain ⟨n, rfl⟩ : ∃ k, n = k + 1 := ⟨n - 1, by omega⟩
    rw [b_X10_power_5, if_neg (by rw [nI_leN (by omega) (by omega)]; omega), znm_e, znm_e, nI_p1]
    exact ih (i + 1) n (by omega) (by omega)
theorem x_power {x0 : Int32} {e : Nat} (he : e ≤ 6) : f_X10_power M x0 (nI e) = some (zpw x0.toInt64 e) := by
  rw [f_X10_power]; exact power_loop he e 0 6000 (by omega) (by omega)
def zchp (n k : Nat) : Nat := [[1,0,0,0,0,0,0],[1,1,0,0,0,0,0],[1,2,1,0,0,0,0],[1,3,3,1,0,0,0],[1,4,6,4,1,0,0],[1,5,10,10,5,1,0],[1,6,15,20,15,6,1]].getD n [] |>.getD k 0
def zchs (n k : Nat) : Nat → Int64
  | 0 => 1
  | i + 1 => zchs n k i * (nI n - nI k + nI (i + 1)).toInt64 / (nI (i + 1)).toInt64
theorem ch_loop {a k : Nat} (hk : k ≤ 6) : ∀ (d i n : Nat), i + d = k → d < n → b_X10_choices_5 M (nI a) (nI k) n (zchs a k i) (nI (i + 1)) = some (zchs a k k) := by
  intro d
  have hz : ∀ i, i < 6 → ¬ (nI (i + 1)).toInt64 = 0 := by decide +kernel
  induction d with
  | zero =>
    intro i n hi hn
    obtain ⟨n, rfl⟩ : ∃ k, n = k + 1 := ⟨n - 1, by omega⟩
    have e : i = k := by omega
    subst e
    rw [b_X10_choices_5, if_pos (by rw [nI_ltN (by omega) (by omega)]; omega)]
  | succ d ih =>
    intro i n hi hn
    obtain ⟨n, rfl⟩ : ∃ k, n = k + 1 := ⟨n - 1, by omega⟩
    rw [b_X10_choices_5, if_neg (by rw [nI_ltN (by omega) (by omega)]; omega), zck_t (by simp [hz i (by omega)]), znm_e, znm_e, nI_p1]
    exact ih (i + 1) n (by omega) (by omega)
theorem zchs_e : ∀ a, a < 7 → ∀ k, k ≤ a → zchs a k k = lI (zchp a k) := by decide +kernel
theorem x_choices {a k : Nat} (ha : a ≤ 6) (hk : k ≤ a) : f_X10_choices M (nI a) (nI k) = some (lI (zchp a k)) := by
  rw [f_X10_choices, ← zchs_e a (by omega) k hk]
  exact ch_loop (show k ≤ 6 by omega) k 0 6000 (by omega) (by omega)
def cC (a k : Nat) : Nat → Nat → Nat
  | 0 => fun _ => 0
  | d + 1 => fun j => if j = k + d then cC a k d j + zchp a (k + d) else cC a k d j
theorem odds_x {a k : Nat} (ha : a ≤ 6) {s : Int32} (hs : M 3 4 = s) : ∀ (d i n : Nat), k + i + d = a + 1 → d < n → b_X10_odds_21 M (nI a) n (dot (cC a k i) (fun j => zpw s.toInt64 j * zpw (100 - s).toInt64 (a - j))) (nI (k + i)) = b_X10_odds_73 M (nI a) (dot (cC a k (i + d)) (fun j => zpw s.toInt64 j * zpw (100 - s).toInt64 (a - j))) := by
  intro d
  induction d with
  | zero =>
    intro i n hi hn
    obtain ⟨n, rfl⟩ : ∃ k, n = k + 1 := ⟨n - 1, by omega⟩
    rw [b_X10_odds_21, if_pos (by rw [nI_ltN (by omega) (by omega)]; omega)]; rfl
  | succ d ih =>
    intro i n hi hn
    obtain ⟨n, rfl⟩ : ∃ k, n = k + 1 := ⟨n - 1, by omega⟩
    have e1 : nI a - nI (k + i) = nI (a - (k + i)) := by
      have a1 := i_nI (n := a) (by omega)
      have a2 := i_nI (n := k + i) (by omega)
      have a3 := i_nI (n := a - (k + i)) (by omega)
      rw [i_eq, i_sub (by omega) (by omega), a1, a2, a3]; omega
    have hd := dot_inc (c := cC a k i) (T := fun j => zpw s.toInt64 j * zpw (100 - s).toInt64 (a - j)) (b := k + i) (by omega) (zchp a (k + i))
    rw [b_X10_odds_21, if_neg (by rw [nI_ltN (by omega) (by omega)]; omega), x_choices ha (by omega), zbn_s, hs, x_power (by omega), zbn_s, e1, x_power (by omega), zbn_s, znm_e, znm_e, nI_p1, Int64.mul_assoc]
    have := ih (i + 1) n (by omega) (by omega)
    rw [show k + (i + 1) = k + i + 1 by omega] at this
    have e2 : dot (cC a k (i + 1)) (fun j => zpw s.toInt64 j * zpw (100 - s).toInt64 (a - j)) = dot (cC a k i) (fun j => zpw s.toInt64 j * zpw (100 - s).toInt64 (a - j)) + lI (zchp a (k + i)) * (zpw s.toInt64 (k + i) * zpw (100 - s).toInt64 (a - (k + i))) := hd
    rw [e2, show i + 1 + d = i + (d + 1) by omega] at this
    exact this
theorem set_loop {a m : Nat} (ha : a ≤ 6) (hm : m < 64) {s : Int32} (hs : N 1 11 = s) {K : Int64 → Int32 → Option (Int32 × zM)} {x2 : Int32} {x3 x5 : Int64} : ∀ (d i n : Nat), i + d = a → d < n → b_X11_odds_97 K N (nI a) x2 x3 x5 (nI m) n (zpw s.toInt64 (lob m i) * zpw (100 - s).toInt64 (i - lob m i)) (nI i) = K (x3 + zpw s.toInt64 (lob m a) * zpw (100 - s).toInt64 (a - lob m a)) (nI (m + 1)) := by
  intro d
  have y11 : (N 1 (11 : Int32).toNatClampNeg) = s := hs
  induction d with
  | zero =>
    intro i n hi hn
    obtain ⟨n, rfl⟩ : ∃ k, n = k + 1 := ⟨n - 1, by omega⟩
    have e : i = a := by omega
    subst e
    rw [b_X11_odds_97, if_pos (by rw [i_le]; omega), b_X11_odds_146, znm_e, b_X11_odds_151, znm_e, nI_p1]
  | succ d ih =>
    intro i n hi hn
    obtain ⟨n, rfl⟩ : ∃ k, n = k + 1 := ⟨n - 1, by omega⟩
    have hl := lob_le m i
    rw [b_X11_odds_97, if_neg (by rw [nI_leN (by omega) (by omega)]; omega), r_has _ (by omega), zbn_s, tb_nI (by omega), y11]
    have hn := ih (i + 1) n (by omega) (by omega)
    cases hb : m.testBit i with
    | true =>
      have e1 : lob m (i + 1) = lob m i + 1 := by show lob m i + _ = _; rw [hb]; rfl
      rw [e1, show i + 1 - (lob m i + 1) = i - lob m i by omega] at hn
      rw [if_neg (by decide), zck_t (by decide), b_X11_odds_137, znm_e, znm_e, nI_p1]
      have e2 : zpw s.toInt64 (lob m i) * zpw (100 - s).toInt64 (i - lob m i) * s.toInt64 = zpw s.toInt64 (lob m i + 1) * zpw (100 - s).toInt64 (i - lob m i) := by
        show _ = zpw s.toInt64 (lob m i) * s.toInt64 * _
        rw [Int64.mul_assoc, Int64.mul_comm (zpw (100 - s).toInt64 _), ← Int64.mul_assoc]
      rw [e2]; exact hn
    | false =>
      have e1 : lob m (i + 1) = lob m i := by show lob m i + _ = _; rw [hb]; rfl
      rw [e1, show i + 1 - lob m i = i - lob m i + 1 by omega] at hn
      rw [if_pos (by decide), zck_t (by decide), b_X11_odds_137, znm_e, znm_e, nI_p1]
      have e2 : zpw s.toInt64 (lob m i) * zpw (100 - s).toInt64 (i - lob m i) * (100 - s).toInt64 = zpw s.toInt64 (lob m i) * zpw (100 - s).toInt64 (i - lob m i + 1) := by
        show _ = _ * (zpw (100 - s).toInt64 (i - lob m i) * (100 - s).toInt64)
        rw [Int64.mul_assoc]
      rw [e2]; exact hn
def cS (a k : Nat) : Nat → Nat → Nat
  | 0 => fun _ => 0
  | m + 1 => if k ≤ lob m a then fun j => if j = lob m a then cS a k m j + 1 else cS a k m j else cS a k m
theorem bc_lob : ∀ a, a < 7 → ∀ m, m < 2 ^ a → bcv (nI m) = nI (lob m a) := by decide +kernel
theorem pow_e : ∀ a, a < 7 → (1 : Int32) <<< (nI a &&& 31) = nI (2 ^ a) := by decide +kernel
theorem odds_r {a k : Nat} (ha : a ≤ 6) (hk : k ≤ 6) {s : Int32} (hs : N 1 11 = s) {x5 : Int64} : ∀ (d m n : Nat), m + d = 2 ^ a → d < n → b_X11_odds_71 N (nI a) (nI k) x5 n (dot (cS a k m) (fun j => zpw s.toInt64 j * zpw (100 - s).toInt64 (a - j))) (nI m) = b_X11_odds_157 N (dot (cS a k (m + d)) (fun j => zpw s.toInt64 j * zpw (100 - s).toInt64 (a - j))) x5 := by
  intro d
  have h64 : 2 ^ a ≤ 64 := by
    have : 2 ^ a ≤ 2 ^ 6 := Nat.pow_le_pow_right (by omega) ha
    omega
  induction d with
  | zero =>
    intro m n hi hn
    obtain ⟨n, rfl⟩ : ∃ k, n = k + 1 := ⟨n - 1, by omega⟩
    rw [b_X11_odds_71, pow_e a (by omega), if_pos (by rw [nI_leN (by omega) (by omega)]; omega)]; rfl
  | succ d ih =>
    intro m n hi hn
    obtain ⟨n, rfl⟩ : ∃ k, n = k + 1 := ⟨n - 1, by omega⟩
    have hl := lob_le m a
    have hn2 := ih (m + 1) n (by omega) (by omega)
    rw [show m + 1 + d = m + (d + 1) by omega] at hn2
    rw [b_X11_odds_71, pow_e a (by omega), if_neg (by rw [nI_leN (by omega) (by omega)]; omega), bc_e, zbn_s, bc_lob a (by omega) m (by omega)]
    by_cases q : k ≤ lob m a
    · rw [if_pos (by rw [nI_leN (by omega) (by omega)]; exact q)]
      have := set_loop (N := N) (a := a) (m := m) ha (by omega) hs (K := fun x3 x7 => b_X11_odds_71 N (nI a) (nI k) x5 n x3 x7) (x2 := nI k) (x3 := dot (cS a k m) (fun j => zpw s.toInt64 j * zpw (100 - s).toInt64 (a - j))) (x5 := x5) a 0 6000 (by omega) (by omega)
      refine this.trans ?_
      have hd := dot_inc (c := cS a k m) (T := fun j => zpw s.toInt64 j * zpw (100 - s).toInt64 (a - j)) (b := lob m a) (by omega) 1
      have e1 : lI 1 = 1 := rfl
      rw [e1, Int64.one_mul] at hd
      have e2 : cS a k (m + 1) = fun j => if j = lob m a then cS a k m j + 1 else cS a k m j := by show (if k ≤ lob m a then _ else _) = _; rw [if_pos q]
      rw [e2, hd] at hn2
      exact hn2
    · rw [if_neg (by rw [nI_leN (by omega) (by omega)]; exact q), b_X11_odds_151, znm_e, nI_p1]
      have e2 : cS a k (m + 1) = cS a k m := by show (if k ≤ lob m a then _ else _) = _; rw [if_neg q]
      rw [e2] at hn2
      exact hn2
theorem all_loop {a : Nat} (ha : a ≤ 6) {x2 : Int32} : ∀ (d i n : Nat), i + d = a → d < n → b_X11_odds_48 N (nI a) x2 0 n (zpw 100 i) (nI i) = b_X11_odds_68 N (nI a) x2 0 (zpw 100 a) := by
  intro d
  induction d with
  | zero =>
    intro i n hi hn
    obtain ⟨n, rfl⟩ : ∃ k, n = k + 1 := ⟨n - 1, by omega⟩
    have e : i = a := by omega
    subst e
    rw [b_X11_odds_48, if_pos (by rw [i_le]; omega)]
  | succ d ih =>
    intro i n hi hn
    obtain ⟨n, rfl⟩ : ∃ k, n = k + 1 := ⟨n - 1, by omega⟩
    rw [b_X11_odds_48, if_neg (by rw [nI_leN (by omega) (by omega)]; omega), znm_e, znm_e, nI_p1]
    exact ih (i + 1) n (by omega) (by omega)
theorem coef : ∀ a, a < 7 → ∀ k, k < 7 → ∀ j, j < 7 → cS a k (2 ^ a) j = cC a k (a + 1 - k) j := by decide +kernel
theorem hund : ∀ a, a < 7 → f_J9_max_f86c9 1 (zpw 100 a) = some (zpw 100 a) ∧ ¬ zpw 100 a = 0 := by decide +kernel
theorem s_odds (t : Nat) : zs_odds (zRel t) (zRel (t + 1)) := by
  intro M N h x1 x2
  by_cases h1 : 0 ≤ x1.toInt ∧ x1.toInt ≤ 6
  · by_cases h2 : 0 ≤ x2.toInt ∧ x2.toInt ≤ 6
    · obtain ⟨a, a1, rfl⟩ := nI_get h1.1
      obtain ⟨k, k1, rfl⟩ := nI_get h2.1
      have ha : a ≤ 6 := by omega
      obtain ⟨G, hG⟩ : ∃ G, G = dot (cS a k (2 ^ a)) (fun j => zpw (N 1 11).toInt64 j * zpw (100 - N 1 11).toInt64 (a - j)) := ⟨_, rfl⟩
      have hc : dot (cC a k (a + 1 - k)) (fun j => zpw (N 1 11).toInt64 j * zpw (100 - N 1 11).toInt64 (a - j)) = G := by
        rw [hG]
        unfold dot
        rw [coef a (by omega) k (by omega) 0 (by omega), coef a (by omega) k (by omega) 1 (by omega), coef a (by omega) k (by omega) 2 (by omega), coef a (by omega) k (by omega) 3 (by omega), coef a (by omega) k (by omega) 4 (by omega), coef a (by omega) k (by omega) 5 (by omega), coef a (by omega) k (by omega) 6 (by omega)]
      have hx : b_X10_odds_21 M (nI a) 6000 0 (nI k) = b_X10_odds_73 M (nI a) G := by
        by_cases q : k ≤ a
        · have := odds_x (M := M) (k := k) ha h.w.storm (a + 1 - k) 0 6000 (by omega) (by omega)
          have e0 : dot (cC a k 0) (fun j => zpw (N 1 11).toInt64 j * zpw (100 - N 1 11).toInt64 (a - j)) = 0 := by unfold dot; simp only [cC, lI]; simp
          rw [Nat.zero_add, Nat.add_zero, hc, e0] at this
          exact this
        · obtain ⟨n, hn⟩ : ∃ n, 6000 = n + 1 := ⟨5999, rfl⟩
          rw [show a + 1 - k = 0 by omega] at hc
          have e0 : (0 : Int64) = G := by rw [← hc]; unfold dot; simp only [cC, lI]; simp
          rw [← e0, hn, b_X10_odds_21, if_pos (by rw [nI_ltN (by omega) (by omega)]; omega)]
      obtain ⟨hu1, hu2⟩ := hund a (by omega)
      have e100 : zpw (100 : Int32).toInt64 a = zpw 100 a := by rw [show (100 : Int32).toInt64 = 100 from by decide]
      refine zsT_ok (M1 := M) (b := ((G * 10000) / zpw 100 a).toInt32) (N1 := zu N 0 0 0) ?_ ?_ zu00_c (h.thr 0).more
      · rw [f_X10_odds, g_in (by exact h1), zbt_i, g_in (by exact h2), zbt_i, hx, b_X10_odds_73, x_power ha, zbn_s, e100, hu1, zbn_s, zck_t (by simp [hu2])]
      · rw [f_X11_odds, znm_e, r_in, if_pos (by exact h1), zbn_s, if_neg n10, r_in, if_pos (by exact h2), zbn_s, if_neg n10, b_X11_odds_31, r_thr0, zbn_s, if_pos rfl]
        refine (all_loop (N := zu N 0 0 0) ha a 0 6000 (by omega) (by omega)).trans ?_
        rw [b_X11_odds_68]
        have h64 : 2 ^ a ≤ 64 := by
          have : 2 ^ a ≤ 2 ^ 6 := Nat.pow_le_pow_right (by omega) ha
          omega
        have := odds_r (N := zu N 0 0 0) (k := k) (x5 := zpw 100 a) ha (by omega) (by rw [zw0]) (2 ^ a) 0 6000 (by omega) (by omega)
        rw [Nat.zero_add, ← hG] at this
        have e0 : dot (cS a k 0) (fun j => zpw (N 1 11).toInt64 j * zpw (100 - N 1 11).toInt64 (a - j)) = 0 := by unfold dot; simp only [cS, lI]; simp
        rw [e0] at this
        refine this.trans ?_
        rw [b_X11_odds_157, zck_t (by simp [hu2]), Int64.mul_comm]
    · refine zsT_ex (M1 := M) (k := 1) (b := 0) (N1 := zu N 0 0 1) ?_ ?_ rfl zu00_c (h.thr 1).more
      · rw [f_X10_odds, g_in (by exact h1), zbt_i, g_out (by exact h2), zbt_x]
      · rw [f_X11_odds, znm_e, r_in, if_pos (by exact h1), zbn_s, if_neg n10, r_in, if_neg (by exact h2), zbn_s, if_pos rfl, b_X11_odds_26, b_X11_odds_31, r_thr1, zbn_s, if_neg n10, zu00_00]
  · refine zsT_ex (M1 := M) (k := 1) (b := 0) (N1 := zu N 0 0 1) ?_ ?_ rfl zu00_c (h.thr 1).more
    · rw [f_X10_odds, g_out (by exact h1), zbt_x]
    · rw [f_X11_odds, znm_e, r_in, if_neg (by exact h1), zbn_s, if_pos rfl, b_X11_odds_26, b_X11_odds_31, r_thr1, zbn_s, if_neg n10, zu00_00]
end
