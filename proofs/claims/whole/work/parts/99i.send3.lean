section
variable {T : Int} {M0 N0 : zM} {K Mn : Nat} {tp : Nat → Nat}
def zhr (N0 : zM) (tp : Nat → Nat) (m k : Nat) : Int32 := if zdr N0 m then 1000000 else zhb N0 tp m k
theorem rm_in (h : zSd T M0 N0 K Mn tp) {m : Nat} (hm : m < 6) {K2 : zM → Int32 → Option zM} : ∀ (d i n : Nat) (N : zM), i + d = K → d < n → (∀ q, q ≠ 9 → N q = N0 q) → ∃ N', b_X11_laysLeast_12 K2 (nI K) (nI m) n N (nI i) = K2 N' (nI (m + 1)) ∧ (∀ q, q ≠ 9 → N' q = N0 q) ∧ (∀ j, N' 9 j = if 6 * m + i ≤ j ∧ j < 6 * m + K then zhr N0 tp m (j - 6 * m) else N 9 j) := by
  intro d
  have hK := h.2.2.2.2.2.1
  induction d with
  | zero =>
    intro i n N hi hn hN
    obtain ⟨n, rfl⟩ : ∃ k, n = k + 1 := ⟨n - 1, by omega⟩
    have e : i = K := by omega
    subst e
    exact ⟨N, by rw [b_X11_laysLeast_12, if_pos (by rw [i_le]; omega), b_X11_laysLeast_59, znm_e, nI_p1], hN, fun j => by rw [if_neg (by omega)]⟩
  | succ d ih =>
    intro i n N hi hn hN
    obtain ⟨n, rfl⟩ : ∃ k, n = k + 1 := ⟨n - 1, by omega⟩
    have hle : ¬ nI K ≤ nI i := by rw [nI_leN (by omega) (by omega)]; omega
    have hb := h.2.2.2.2.2.2 i (by omega)
    have hcm := h.comeR (N := N) (hN 1 (by decide)) hm (show i < K by omega)
    have eidx : 6 * nI m + nI i = nI (6 * m + i) := by rw [show (6 : Int32) = nI 6 from rfl, nI_mul, nI_add]
    obtain ⟨N', a1, a2, a3⟩ := ih (i + 1) n (zu N 9 (6 * m + i) (zhr N0 tp m i)) (by omega) (by omega) (fun q hq => by rw [zu_row hq, hN q hq])
    refine ⟨N', ?_, a2, fun j => ?_⟩
    · rw [b_X11_laysLeast_12, if_neg hle, h.drR (hN 1 (by decide)) hm, zbn_s, zck_t (nI_lt_i (by omega) (by omega)), nI_cl (by omega), hN 6 (by decide), hb.2.2, hcm, zbn_s, b_X11_laysLeast_52, b_X11_laysLeast_52, eidx, zck_t (nI_lt_i (by omega) (by omega)), zck_t (nI_lt_i (by omega) (by omega)), nI_cl (by omega), znm_e, znm_e, znm_e, znm_e, nI_p1]
      unfold zhr at a1
      cases hd : zdr N0 m with
      | true => rw [hd] at a1; rw [if_neg (by decide)]; exact a1
      | false => rw [hd] at a1; rw [if_pos (by decide)]; exact a1
    · rw [a3 j, zu_at]
      by_cases q : 6 * m + i ≤ j ∧ j < 6 * m + K
      · rw [if_pos q]
        by_cases q2 : j = 6 * m + i
        · subst q2; rw [if_neg (by omega), if_pos ⟨rfl, rfl⟩, show 6 * m + i - 6 * m = i by omega]
        · rw [if_pos (by omega)]
      · rw [if_neg q, if_neg (by omega), if_neg (by omega)]
theorem rm_out (h : zSd T M0 N0 K Mn tp) : ∀ (d m n : Nat) (N : zM), m + d = Mn → d < n → (∀ q, q ≠ 9 → N q = N0 q) → ∃ N', b_X11_laysLeast_2 (nI K) n N (nI m) = b_X11_laysLeast_65 N' (nI K) ∧ (∀ q, q ≠ 9 → N' q = N0 q) ∧ (∀ j, j < 6 * m → N' 9 j = N 9 j) ∧ (∀ m', m ≤ m' → m' < Mn → ∀ k, k < K → N' 9 (6 * m' + k) = zhr N0 tp m' k) := by
  intro d
  have hMn := h.2.2.2.2.1
  have hK := h.2.2.2.2.2.1
  induction d with
  | zero =>
    intro m n N hi hn hN
    obtain ⟨n, rfl⟩ : ∃ k, n = k + 1 := ⟨n - 1, by omega⟩
    have e : m = Mn := by omega
    subst e
    have hmo : f_X11_monks N = some (nI m) := by rw [r_monks, hN 1 (by decide), h.2.2.2.1]
    exact ⟨N, by rw [b_X11_laysLeast_2, hmo, zbn_s, if_pos (by rw [i_le]; omega)], hN, fun _ _ => rfl, fun m' h1 h2 => by omega⟩
  | succ d ih =>
    intro m n N hi hn hN
    obtain ⟨n, rfl⟩ : ∃ k, n = k + 1 := ⟨n - 1, by omega⟩
    have hmo : f_X11_monks N = some (nI Mn) := by rw [r_monks, hN 1 (by decide), h.2.2.2.1]
    have hle : ¬ nI Mn ≤ nI m := by rw [nI_leN (by omega) (by omega)]; omega
    obtain ⟨N1, b1, b2, b3⟩ := rm_in h (show m < 6 by omega) (K2 := fun M x2 => b_X11_laysLeast_2 (nI K) n M x2) K 0 6000 N (by omega) (by omega) hN
    obtain ⟨N', a1, a2, a3, a4⟩ := ih (m + 1) n N1 (by omega) (by omega) b2
    refine ⟨N', ?_, a2, fun j hj => ?_, fun m' h1 h2 k hk => ?_⟩
    · rw [b_X11_laysLeast_2, hmo, zbn_s, if_neg hle]
      exact b1.trans a1
    · rw [a3 j (by omega), b3 j, if_neg (by omega)]
    · by_cases e : m' = m
      · subst e
        rw [a3 _ (by omega), b3 _, if_pos (by omega)]
        congr 1; omega
      · exact a4 m' (by omega) h2 k hk
theorem shl6 : ∀ m, m < 7 → nI m <<< ((6 : Int32) &&& 31) = nI (64 * m) := by decide +kernel
theorem r_leastOf {N : zM} {m u : Nat} (hm : m ≤ 6) (hu : u < 64) : f_X11_leastOf N (nI m) (nI u) = some (N 10 (64 * m + u)) := by
  rw [f_X11_leastOf, shl6 m (by omega), nI_add, zck_t (nI_lt_i (by omega) (by omega)), nI_cl (by omega)]
theorem r_leastBy {N : zM} {m u k : Nat} (hm : m < 6) (hu : u < 64) (hk : k < 6) (ho : u ||| 2 ^ k < 64) : f_X11_leastBy N (nI m) (nI u) (nI k) = some (zlb (N 9 (6 * m + k)) (N 10 (64 * (m + 1) + (u ||| 2 ^ k)))) := by
  have eidx : 6 * nI m + nI k = nI (6 * m + k) := by rw [show (6 : Int32) = nI 6 from rfl, nI_mul, nI_add]
  rw [f_X11_leastBy, eidx, zck_t (nI_lt_i (by omega) (by omega)), nI_cl (by omega), nI_p1, or_bit u hu k hk, r_leastOf (by omega) ho, zbn_s, znm_e]; rfl
theorem zero_loop {Mn K : Nat} (hMn : Mn ≤ 6) : ∀ (d u n : Nat) (N : zM), u + d = 64 → d < n → N 1 0 = nI Mn → ∃ N', b_X11_laysLeast_67 (nI K) n N (nI u) = b_X11_laysLeast_94 N' (nI K) ∧ (∀ q, q ≠ 10 → N' q = N q) ∧ (∀ j, N' 10 j = if 64 * Mn + u ≤ j ∧ j < 64 * Mn + 64 then 0 else N 10 j) := by
  intro d
  induction d with
  | zero =>
    intro u n N hi hn h0
    obtain ⟨n, rfl⟩ : ∃ k, n = k + 1 := ⟨n - 1, by omega⟩
    have e : u = 64 := by omega
    subst e
    exact ⟨N, by rw [b_X11_laysLeast_67, if_pos (by decide)], fun _ _ => rfl, fun j => by rw [if_neg (by omega)]⟩
  | succ d ih =>
    intro u n N hi hn h0
    obtain ⟨n, rfl⟩ : ∃ k, n = k + 1 := ⟨n - 1, by omega⟩
    obtain ⟨N', a1, a2, a3⟩ := ih (u + 1) n (zu N 10 (64 * Mn + u) 0) (by omega) (by omega) (by rw [zu_row (by decide)]; exact h0)
    refine ⟨N', ?_, fun q hq => by rw [a2 q hq, zu_row hq], fun j => ?_⟩
    · rw [b_X11_laysLeast_67, if_neg (by rw [i_le, i_nI (by omega)]; show ¬ (64 : Int) ≤ _; omega), r_monks, zbn_s, h0, shl6 Mn (by omega), nI_add, zck_t (nI_lt_i (by omega) (by omega)), nI_cl (by omega), znm_e, znm_e, nI_p1]; exact a1
    · rw [a3 j, zu_at]
      by_cases q : 64 * Mn + u ≤ j ∧ j < 64 * Mn + 64
      · rw [if_pos q]
        by_cases q2 : j = 64 * Mn + u
        · rw [if_neg (by omega), if_pos ⟨rfl, q2⟩]
        · rw [if_pos (by omega)]
      · rw [if_neg q, if_neg (by omega), if_neg (by omega)]
theorem rk_in {N : zM} (hK : K ≤ 6) {m u : Nat} (hm : m < 6) (hu : u < 64) (hd : f_X11_isDrowned N (nI m) = some 0) {K107 : zM → Int32 → Option zM} : ∀ (d i n : Nat), i + d = K → d < n → b_X11_laysLeast_140 K107 N (nI K) (nI m) (nI u) n (zmn 1000000 (fun k => zlb (N 9 (6 * m + k)) (N 10 (64 * (m + 1) + (u ||| 2 ^ k)))) u i) (nI i) = K107 (zu N 10 (64 * m + u) (zmn 1000000 (fun k => zlb (N 9 (6 * m + k)) (N 10 (64 * (m + 1) + (u ||| 2 ^ k)))) u K)) (nI (u + 1)) := by
  intro d
  induction d with
  | zero =>
    intro i n hi hn
    obtain ⟨n, rfl⟩ : ∃ k, n = k + 1 := ⟨n - 1, by omega⟩
    have e : i = K := by omega
    subst e
    rw [b_X11_laysLeast_140, if_pos (by rw [i_le]; omega), b_X11_laysLeast_184, shl6 m (by omega), nI_add, zck_t (nI_lt_i (by omega) (by omega)), nI_cl (by omega), znm_e, znm_e, nI_p1]
  | succ d ih =>
    intro i n hi hn
    obtain ⟨n, rfl⟩ : ∃ k, n = k + 1 := ⟨n - 1, by omega⟩
    have hle : ¬ nI K ≤ nI i := by rw [nI_leN (by omega) (by omega)]; omega
    have hn2 := ih (i + 1) n (by omega) (by omega)
    have ho : u ||| 2 ^ i < 64 := by
      have := or_lt (K := 6) (u := u) (k := i) (by omega) (by omega)
      omega
    have ez : zmn 1000000 (fun k => zlb (N 9 (6 * m + k)) (N 10 (64 * (m + 1) + (u ||| 2 ^ k)))) u (i + 1) = if u.testBit i then zmn 1000000 (fun k => zlb (N 9 (6 * m + k)) (N 10 (64 * (m + 1) + (u ||| 2 ^ k)))) u i else (if zlb (N 9 (6 * m + i)) (N 10 (64 * (m + 1) + (u ||| 2 ^ i))) < zmn 1000000 (fun k => zlb (N 9 (6 * m + k)) (N 10 (64 * (m + 1) + (u ||| 2 ^ k)))) u i then zlb (N 9 (6 * m + i)) (N 10 (64 * (m + 1) + (u ||| 2 ^ i))) else zmn 1000000 (fun k => zlb (N 9 (6 * m + k)) (N 10 (64 * (m + 1) + (u ||| 2 ^ k)))) u i) := rfl
    rw [ez] at hn2
    rw [b_X11_laysLeast_140, if_neg hle, hd, zbn_s, if_pos rfl, r_has _ (by omega), zbn_s, tb_nI (by omega)]
    cases hb : u.testBit i with
    | true =>
      rw [hb, if_pos rfl] at hn2
      rw [if_neg (by decide), b_X11_laysLeast_178, znm_e, nI_p1]; exact hn2
    | false =>
      rw [hb, if_neg (by decide)] at hn2
      rw [if_pos (by decide), r_leastBy hm hu (by omega) ho, zbn_s, znm_e, b_X11_laysLeast_178, znm_e, nI_p1]; exact hn2
theorem rt_in (h : zSd T M0 N0 K Mn tp) {m : Nat} (hm : m < Mn) {K101 : zM → Int32 → Option zM} : ∀ (d u n : Nat) (N : zM), u + d = 64 → d < n → N 1 = N0 1 → (∀ k, k < K → N 9 (6 * m + k) = zhr N0 tp m k) → (∀ v, v < 64 → N 10 (64 * (m + 1) + v) = zLv Mn K (zdr N0) (zhr N0 tp) (Mn - (m + 1)) v) → ∃ N', b_X11_laysLeast_107 K101 (nI K) (nI m) n N (nI u) = K101 N' (nI m - 1) ∧ (∀ q, q ≠ 10 → N' q = N q) ∧ (∀ j, N' 10 j = if 64 * m + u ≤ j ∧ j < 64 * m + 64 then zLv Mn K (zdr N0) (zhr N0 tp) (Mn - m) (j - 64 * m) else N 10 j) := by
  intro d
  have hMn := h.2.2.2.2.1
  have hK := h.2.2.2.2.2.1
  induction d with
  | zero =>
    intro u n N hi hn h1 h9 h10
    obtain ⟨n, rfl⟩ : ∃ k, n = k + 1 := ⟨n - 1, by omega⟩
    have e : u = 64 := by omega
    subst e
    exact ⟨N, by rw [b_X11_laysLeast_107, if_pos (by decide), b_X11_laysLeast_203, znm_e, i_m1], fun _ _ => rfl, fun j => by rw [if_neg (by omega)]⟩
  | succ d ih =>
    intro u n N hi hn h1 h9 h10
    obtain ⟨n, rfl⟩ : ∃ k, n = k + 1 := ⟨n - 1, by omega⟩
    have h64 : ¬ (64 : Int32) ≤ nI u := by rw [i_le, i_nI (by omega)]; show ¬ (64 : Int) ≤ _; omega
    have hu : u < 64 := by omega
    have er : Mn - m = (Mn - (m + 1)) + 1 := by omega
    have em : Mn - ((Mn - (m + 1)) + 1) = m := by omega
    obtain ⟨N', a1, a2, a3⟩ := ih (u + 1) n (zu N 10 (64 * m + u) (zLv Mn K (zdr N0) (zhr N0 tp) (Mn - m) u)) (by omega) (by omega) (by rw [zu_row (by decide)]; exact h1) (fun k hk => by rw [zu_row (by decide)]; exact h9 k hk) (fun v hv => by rw [zu_at, if_neg (by omega)]; exact h10 v hv)
    refine ⟨N', ?_, fun q hq => by rw [a2 q hq, zu_row hq], fun j => ?_⟩
    · have hdr := h.drR (N := N) h1 (show m < 6 by omega)
      cases hd : zdr N0 m with
      | true =>
        rw [hd] at hdr
        have eL : zLv Mn K (zdr N0) (zhr N0 tp) (Mn - m) u = N 10 (64 * (m + 1) + u) := by rw [er, zLv_S, em, hd, if_pos rfl, h10 u hu]
        rw [eL] at a1
        obtain ⟨f, hf⟩ : ∃ f, 6000 = f + 1 := ⟨5999, rfl⟩
        have e140 : ∀ K', b_X11_laysLeast_140 K' N (nI K) (nI m) (nI u) 6000 (N 10 (64 * (m + 1) + u)) 0 = K' (zu N 10 (64 * m + u) (N 10 (64 * (m + 1) + u))) (nI (u + 1)) := by
          intro K'
          have e184 : b_X11_laysLeast_184 K' N (nI K) (nI m) (nI u) (N 10 (64 * (m + 1) + u)) = K' (zu N 10 (64 * m + u) (N 10 (64 * (m + 1) + u))) (nI (u + 1)) := by rw [b_X11_laysLeast_184, shl6 m (by omega), nI_add, zck_t (nI_lt_i (by omega) (by omega)), nI_cl (by omega), znm_e, znm_e, nI_p1]
          rw [hf, b_X11_laysLeast_140, hdr, zbn_s, if_neg (show ¬ (if true = true then (1 : Int32) else 0) = 0 by decide), e184]
          split <;> rfl
        rw [b_X11_laysLeast_107, if_neg h64, hdr, zbn_s, if_neg (show ¬ (if true = true then (1 : Int32) else 0) = 0 by decide), nI_p1, r_leastOf (by omega) hu, zbn_s, b_X11_laysLeast_135, e140]
        exact a1
      | false =>
        rw [hd] at hdr
        have eL : zLv Mn K (zdr N0) (zhr N0 tp) (Mn - m) u = zmn 1000000 (fun k => zlb (N 9 (6 * m + k)) (N 10 (64 * (m + 1) + (u ||| 2 ^ k)))) u K := by
          rw [er, zLv_S, em, hd, if_neg (by decide)]
          refine zmn_congr (fun k hk hb => ?_) K (Nat.le_refl _)
          have ho : u ||| 2 ^ k < 64 := by
            have := or_lt (K := 6) (u := u) (k := k) (by omega) (by omega)
            omega
          rw [← h9 k hk, ← h10 _ ho]
        rw [eL] at a1
        have hin := rk_in (N := N) (K := K) hK (show m < 6 by omega) hu hdr (K107 := fun M x3 => b_X11_laysLeast_107 K101 (nI K) (nI m) n M x3) K 0 6000 (by omega) (by omega)
        have ez0 : zmn 1000000 (fun k => zlb (N 9 (6 * m + k)) (N 10 (64 * (m + 1) + (u ||| 2 ^ k)))) u 0 = 1000000 := rfl
        rw [ez0, show nI 0 = 0 from rfl] at hin
        rw [b_X11_laysLeast_107, if_neg h64, hdr, zbn_s, if_pos (show (if false = true then (1 : Int32) else 0) = 0 by decide), b_X11_laysLeast_135, hin]
        exact a1
    · rw [a3 j, zu_at]
      by_cases q : 64 * m + u ≤ j ∧ j < 64 * m + 64
      · rw [if_pos q]
        by_cases q2 : j = 64 * m + u
        · subst q2; rw [if_neg (by omega), if_pos ⟨rfl, rfl⟩, show 64 * m + u - 64 * m = u by omega]
        · rw [if_pos (by omega)]
      · rw [if_neg q, if_neg (by omega), if_neg (by omega)]
theorem rt_out (h : zSd T M0 N0 K Mn tp) : ∀ (m n : Nat) (N : zM), m ≤ Mn → m < n → N 1 = N0 1 → (∀ m', m' < Mn → ∀ k, k < K → N 9 (6 * m' + k) = zhr N0 tp m' k) → (∀ m', m ≤ m' → m' ≤ Mn → ∀ v, v < 64 → N 10 (64 * m' + v) = zLv Mn K (zdr N0) (zhr N0 tp) (Mn - m') v) → ∃ N', b_X11_laysLeast_101 (nI K) n N (nI m - 1) = some N' ∧ (∀ q, q ≠ 10 → N' q = N q) ∧ (∀ m', m' ≤ Mn → ∀ v, v < 64 → N' 10 (64 * m' + v) = zLv Mn K (zdr N0) (zhr N0 tp) (Mn - m') v) := by
  intro m
  have hMn := h.2.2.2.2.1
  induction m with
  | zero =>
    intro n N hm hn h1 h9 h10
    obtain ⟨n, rfl⟩ : ∃ k, n = k + 1 := ⟨n - 1, by omega⟩
    exact ⟨N, by rw [b_X11_laysLeast_101, if_pos (by decide)], fun _ _ => rfl, fun m' h2 => h10 m' (by omega) h2⟩
  | succ m ih =>
    intro n N hm hn h1 h9 h10
    obtain ⟨n, rfl⟩ : ∃ k, n = k + 1 := ⟨n - 1, by omega⟩
    obtain ⟨N1, b1, b2, b3⟩ := rt_in h (show m < Mn by omega) (K101 := fun M x2 => b_X11_laysLeast_101 (nI K) n M x2) 64 0 6000 N (by omega) (by omega) h1 (h9 m (by omega)) (fun v hv => by have := h10 (m + 1) (by omega) hm v hv; exact this)
    obtain ⟨N', a1, a2, a3⟩ := ih n N1 (by omega) (by omega) (by rw [b2 1 (by decide)]; exact h1) (fun m' hm' k hk => by rw [b2 9 (by decide)]; exact h9 m' hm' k hk) (fun m' h2 h3 v hv => by
      rw [b3]
      by_cases e : m' = m
      · subst e; rw [if_pos (by omega), show 64 * m' + v - 64 * m' = v by omega]
      · rw [if_neg (by omega)]; exact h10 m' (by omega) h3 v hv)
    refine ⟨N', ?_, fun q hq => by rw [a2 q hq, b2 q hq], a3⟩
    rw [nI_m1, b_X11_laysLeast_101, if_neg (by rw [i_lt, i_nI (by omega), i_lit0]; omega)]
    exact b1.trans a1
theorem r_laysLeast (h : zSd T M0 N0 K Mn tp) : ∃ N', f_X11_laysLeast N0 (nI K) = some N' ∧ (∀ q, q ≠ 9 → q ≠ 10 → N' q = N0 q) ∧ (∀ m, m < Mn → ∀ k, k < K → N' 9 (6 * m + k) = zhr N0 tp m k) ∧ (∀ m, m ≤ Mn → ∀ v, v < 64 → N' 10 (64 * m + v) = zLv Mn K (zdr N0) (zhr N0 tp) (Mn - m) v) := by
  have hMn := h.2.2.2.2.1
  have h0 := h.2.2.2.1
  obtain ⟨N1, a1, a2, -, a4⟩ := rm_out h Mn 0 6000 N0 (by omega) (by omega) (fun _ _ => rfl)
  obtain ⟨N2, b1, b2, b3⟩ := zero_loop (Mn := Mn) (K := K) hMn 64 0 6000 N1 (by omega) (by omega) (by rw [a2 1 (by decide)]; exact h0)
  obtain ⟨N3, c1, c2, c3⟩ := rt_out h Mn 6000 N2 (Nat.le_refl _) (by omega) (by rw [b2 1 (by decide), a2 1 (by decide)]) (fun m' hm' k hk => by rw [b2 9 (by decide)]; exact a4 m' (by omega) hm' k hk) (fun m' h1 h2 v hv => by
    have e : m' = Mn := by omega
    subst e
    rw [b3, if_pos (by omega), Nat.sub_self]; rfl)
  refine ⟨N3, ?_, fun q h9 h10 => by rw [c2 q h10, b2 q h10, a2 q h9], fun m hm k hk => by rw [c2 9 (by decide), b2 9 (by decide)]; exact a4 m (by omega) hm k hk, c3⟩
  have e94 : b_X11_laysLeast_94 N2 (nI K) = some N3 := by rw [b_X11_laysLeast_94, r_monks, b2 1 (by decide), a2 1 (by decide), h0, zbn_s, znm_e]; exact c1
  rw [f_X11_laysLeast]
  exact a1.trans (by rw [b_X11_laysLeast_65]; exact b1.trans e94)
end
