section
def zTr : Nat → Nat
  | 0 => 8
  | r + 1 => 8 + (r + 1) * zTr r
def zfr (tk : Int32) : Nat → Nat → Nat
  | 0, _ => 0
  | d + 1, i => (if tb tk i then 0 else 1) + zfr tk d (i + 1)
theorem zfr_sub (tk : Int32) : ∀ a d i, zfr tk d (i + a) ≤ zfr tk (a + d) i
  | 0, d, i => by rw [Nat.zero_add]; exact Nat.le_refl _
  | a + 1, d, i => by
    have h := zfr_sub tk a d (i + 1)
    rw [show i + 1 + a = i + (a + 1) by omega] at h
    rw [show a + 1 + d = (a + d) + 1 by omega]
    show _ ≤ (if tb tk i then 0 else 1) + zfr tk (a + d) (i + 1)
    omega
theorem zfr_set (tk : Int32) {b : Nat} (hb : b < 32) (hf : tb tk b = false) : ∀ d i, zfr (tk ||| ((1 : Int32) <<< (nI b &&& 31))) d i + (if i ≤ b ∧ b < i + d then 1 else 0) = zfr tk d i
  | 0, i => by rw [if_neg (by omega)]; rfl
  | d + 1, i => by
    have h := zfr_set tk hb hf d (i + 1)
    show (if tb (tk ||| ((1 : Int32) <<< (nI b &&& 31))) i then 0 else 1) + zfr _ d (i + 1) + _ = (if tb tk i then 0 else 1) + zfr tk d (i + 1)
    rw [tb_set _ hb]
    by_cases e : i = b
    · subst e
      have c : i ≤ i ∧ i < i + (d + 1) := by omega
      have c2 : ¬ (i + 1 ≤ i ∧ i < i + 1 + d) := by omega
      rw [if_neg c2] at h
      rw [if_pos c, if_pos rfl, hf]
      simp
      omega
    · rw [if_neg e]
      by_cases q : i ≤ b ∧ b < i + (d + 1)
      · rw [if_pos q]; rw [if_pos (by omega)] at h; omega
      · rw [if_neg q]; rw [if_neg (by omega)] at h; omega
theorem zfr_0 {tk : Int32} : ∀ d i, zfr tk d i = 0 → ∀ j, i ≤ j → j < i + d → tb tk j = true
  | 0, i, _, j, h1, h2 => by omega
  | d + 1, i, h, j, h1, h2 => by
    have h' : (if tb tk i then 0 else 1) + zfr tk d (i + 1) = 0 := h
    by_cases e : j = i
    · subst e
      cases hh : tb tk j with
      | true => rfl
      | false => rw [hh] at h'; simp at h'
    · exact zfr_0 d (i + 1) (by omega) j (by omega) (by omega)
def zMo (M0 N0 : zM) (D L : Nat) (tk us : Int32) (M N : zM) : Prop :=
  (∀ q, q ≠ 45 → q ≠ 49 → q ≠ 50 → M q = M0 q) ∧ (∀ q, q ≠ 0 → q ≠ 11 → q ≠ 12 → q ≠ 13 → q ≠ 14 → N q = N0 q) ∧ (∀ j, j ≠ 24 → N 0 j = N0 0 j) ∧ (∃ b, b ≤ 6 ∧ M 45 6 = nI b ∧ N 0 24 = nI b ∧ ∀ i, i < b → M 50 i = N 14 i) ∧ (∀ i, i < L → M 49 i = N 11 i) ∧ (∀ j, j < 32 → (tb us j = true ↔ tb tk j = true ∨ (j < 6 ∧ N0 1 (71 + 4 * j) = 1))) ∧ zfr tk D 0 ≤ D - L
variable {T : Int} {M0 N0 : zM} {D P m : Nat}
theorem best_loop {K : zM → Int32 → Int32 → Option zM} {L b : Nat} {tk : Int32} (hL : L ≤ 6) (hb : b < L) : ∀ (d i n : Nat) (N : zM), i + d = L → d < n → N 0 24 = nI b → ∃ N', b_X11_laysMost_134 K (nI m) (nI L) tk n N (nI i) = b_X11_laysMost_168 K N' (nI m) (nI L) tk ∧ (∀ q, q ≠ 14 → N' q = N q) ∧ (∀ j, N' 14 j = if i ≤ j ∧ j < L then N 11 j else N 14 j) := by
  intro d
  induction d with
  | zero =>
    intro i n N hi hn h24
    obtain ⟨n, rfl⟩ : ∃ k, n = k + 1 := ⟨n - 1, by omega⟩
    have e : i = L := by omega
    subst e
    exact ⟨N, by rw [b_X11_laysMost_134, if_pos (by rw [i_le]; omega)], fun _ _ => rfl, fun j => by rw [if_neg (by omega)]⟩
  | succ d ih =>
    intro i n N hi hn h24
    obtain ⟨n, rfl⟩ : ∃ k, n = k + 1 := ⟨n - 1, by omega⟩
    obtain ⟨N', a1, a2, a3⟩ := ih (i + 1) n (zu N 14 i (N 11 i)) (by omega) (by omega) (by rw [zu_row (by decide)]; exact h24)
    refine ⟨N', ?_, fun q hq => by rw [a2 q hq, zu_row hq], fun j => ?_⟩
    · rw [b_X11_laysMost_134, if_neg (by rw [nI_leN (by omega) (by omega)]; omega), h24, if_neg (by rw [nI_leN (by omega) (by omega)]; omega), zck_t (nI_lt_i (by omega) (by omega)), zck_t (nI_lt_i (by omega) (by omega)), nI_cl (by omega), znm_e, znm_e, nI_p1]
      exact a1
    · rw [a3 j, zu_row (by decide), zu_at]
      by_cases q : i + 1 ≤ j ∧ j < L
      · rw [if_pos q, if_pos (by omega)]
      · rw [if_neg q]
        by_cases q2 : j = i
        · subst q2; rw [if_pos ⟨rfl, rfl⟩, if_pos (by omega)]
        · rw [if_neg (by omega), if_neg (by omega)]
theorem s_push {L : Nat} {tk us : Int32} {M N : zM} (hL : L ≤ 6) (h : zMo M0 N0 D L tk us M N) {R : zM → Nat → Int32 → Int32 → Int32 → Int32 → Int32 → Option zM} {K : zM → Int32 → Int32 → Option zM} {x2 x3 x4 : Int32} : ∃ M' N', g_X2_tryRows R M 3 x2 x3 x4 us (nI L) = b_X2_tryRows_26 R 3 M' x2 x3 x4 us (nI L) ∧ b_X11_laysMost_134 K (nI m) (nI L) tk 20000 N 0 = K N' (nI L) tk ∧ zMo M0 N0 D L tk us M' N' ∧ N' 11 = N 11 ∧ N' 12 = N 12 ∧ N' 13 = N 13 := by
  obtain ⟨h1, h2, h3, ⟨b, b6, b1, b2, b3⟩, h5, h6, h7⟩ := h
  by_cases q : b < L
  · obtain ⟨N1, a1, a2, a3⟩ := best_loop (m := m) (K := K) (tk := tk) hL q L 0 20000 N (by omega) (by omega) b2
    obtain ⟨M1, c1, c2, c3⟩ := x_copyRow (M := zu M 45 6 (nI L)) (o0 := 49) (o1 := 50) (n := 6) (by decide +kernel) (by decide +kernel) (by omega)
    refine ⟨M1, zu N1 0 24 (nI L), ?_, ?_, ⟨fun q h45 h49 h50 => by rw [c2 q h50, zu_row h45, h1 q h45 h49 h50], fun q g0 g11 g12 g13 g14 => by rw [zu_row g0, a2 q g14, h2 q g0 g11 g12 g13 g14], fun j hj => by rw [zu_at, if_neg (by omega), a2 0 (by decide), h3 j hj], ⟨L, hL, ?_, ?_, fun i hi => ?_⟩, fun i hi => ?_, h6, h7⟩, ?_, ?_, ?_⟩
    · rw [g_X2_tryRows, b1, if_neg (by rw [nI_leN (by omega) (by omega)]; omega), znm_e, c1, zbn_s]
    · refine a1.trans ?_
      rw [b_X11_laysMost_168, a2 0 (by decide), b2, if_pos (by rw [nI_ltN (by omega) (by omega)]; omega), znm_e, znm_e, b_X11_laysMost_193]
    · rw [c2 45 (by decide), zu_at, if_pos ⟨rfl, rfl⟩]
    · rw [zu_at, if_pos ⟨rfl, rfl⟩]
    · rw [c3 i (by omega), zu_row (by decide), zu_row (by decide), a3 i, if_pos (by omega)]; exact h5 i hi
    · rw [c2 49 (by decide), zu_row (by decide), zu_row (by decide), a2 11 (by decide)]; exact h5 i hi
    · rw [zu_row (by decide), a2 11 (by decide)]
    · rw [zu_row (by decide), a2 12 (by decide)]
    · rw [zu_row (by decide), a2 13 (by decide)]
  · obtain ⟨n, hn⟩ : ∃ n, 20000 = n + 1 := ⟨19999, rfl⟩
    have e24 : zu N 0 24 (nI b) = N := zu_id b2
    refine ⟨M, N, ?_, ?_, ⟨h1, h2, h3, ⟨b, b6, b1, b2, b3⟩, h5, h6, h7⟩, rfl, rfl, rfl⟩
    · rw [g_X2_tryRows, b1, if_pos (by rw [nI_leN (by omega) (by omega)]; omega)]
    · have e168 : b_X11_laysMost_168 K N (nI m) (nI L) tk = K N (nI L) tk := by
        rw [b_X11_laysMost_168, b2, if_neg (by rw [nI_ltN (by omega) (by omega)]; omega), znm_e, znm_e, e24, b_X11_laysMost_193]
      rw [hn, b_X11_laysMost_134]
      by_cases q0 : nI L ≤ 0
      · rw [if_pos q0, e168]
      · rw [if_neg q0, b2, if_pos (by rw [nI_leN (by omega) (by omega)]; omega), e168]
theorem most_skip {us : Int32} {M : zM} {L : Nat} (hw : zWr T M 3 (N0 1)) (ok : zOk (N0 1)) (hD : N0 1 1 = nI D) (hD6 : D ≤ 6) (hus : ∀ j, j < D → tb us j = true) {R : zM → Nat → Int32 → Int32 → Int32 → Int32 → Int32 → Option zM} {x2 x3 x4 : Int32} : ∀ (d i j : Nat), i + d = D → d < j → b_X2_tryRows_37 R 3 x2 x3 x4 us (nI L) j M (nI i) = some M := by
  intro d
  induction d with
  | zero =>
    intro i j hi hj
    obtain ⟨j, rfl⟩ : ∃ k, j = k + 1 := ⟨j - 1, by omega⟩
    have e : i = D := by omega
    subst e
    rw [b_X2_tryRows_37, hw.duties, hD, if_pos (by rw [i_le]; omega)]
  | succ d ih =>
    intro i j hi hj
    obtain ⟨j, rfl⟩ : ∃ k, j = k + 1 := ⟨j - 1, by omega⟩
    rw [b_X2_tryRows_37, hw.duties, hD, if_neg (by rw [nI_leN (by omega) (by omega)]; omega), x_has _ (by omega), zbn_s, hus i (by omega), if_neg (by decide), b_X2_tryRows_149, znm_e, nI_p1]
    exact ih (i + 1) j (by omega) (by omega)
theorem most_Q (h0 : zWr T M0 3 (N0 1)) (ok : zOk (N0 1)) (hl : zLk M0 (N0 1)) (hD : N0 1 1 = nI D) (hD6 : D ≤ 6) (hm : m < 6) (hP : N0 1 (38 + 5 * m + 2) = nI P) (hP4 : P ≤ 4) : ∀ r L, L + r + 1 = 6 → L ≤ D → ∀ d i, i + d = D → ∀ (M N : zM) (tk us : Int32) (p X n j : Nat), zMo M0 N0 D L tk us M N → N 12 L = nI p → p < 12 → N 13 L = nI X → X ≤ 9999 → (L < D → N 11 L = nI i) → d + zfr tk d i * zTr r < n → d < j → ∃ M' N' n', b_X2_tryRows_37 (fr_X2 (8 - L)) 3 (nI P) (nI p) (nI X) us (nI L) j M (nI i) = some M' ∧ b_X11_laysMost_40 (nI m) n N (nI L) tk = b_X11_laysMost_40 (nI m) n' N' (nI L) tk ∧ n ≤ n' + d + zfr tk d i * zTr r ∧ (L = D ∨ N' 11 L = nI D) ∧ zMo M0 N0 D L tk us M' N' ∧ (∀ i, i < L → N' 11 i = N 11 i) ∧ (∀ i, i ≤ L → N' 12 i = N 12 i ∧ N' 13 i = N 13 i) := by
  intro r
  induction r using Nat.strongRecOn with
  | ind r ihr =>
  intro L hLr hLD d
  induction d with
  | zero =>
    intro i hi M N tk us p X n j h h12 hp h13 hX h11 hn hj
    obtain ⟨j, rfl⟩ : ∃ k, j = k + 1 := ⟨j - 1, by omega⟩
    have e : i = D := by omega
    subst e
    have hw : zWr T M 3 (N0 1) := h0.eq6 (fun q _ _ => h.1 q (by omega) (by omega) (by omega))
    refine ⟨M, N, n, by rw [b_X2_tryRows_37, hw.duties, hD, if_pos (by rw [i_le]; omega)], rfl, by omega, ?_, h, fun _ _ => rfl, fun _ _ => ⟨rfl, rfl⟩⟩
    by_cases q : L = i
    · exact Or.inl q
    · exact Or.inr (h11 (by omega))
  | succ d ih =>
    intro i hi M N tk us p X n j h h12 hp h13 hX h11 hn hj
    have hh := h
    obtain ⟨g1, g2, g3, ⟨b, b6, b1, b2, b3⟩, g5, g6, g7⟩ := hh
    have hw : zWr T M 3 (N0 1) := h0.eq6 (fun q _ _ => g1 q (by omega) (by omega) (by omega))
    have hN1 : N 1 = N0 1 := g2 1 (by decide) (by decide) (by decide) (by decide) (by decide)
    have okN : zOk (N 1) := by rw [hN1]; exact ok
    have hlM : zLk M (N 1) := by rw [hN1]; unfold zLk; rw [g1 44 (by decide) (by decide) (by decide)]; exact hl
    have hwN : zWr T M 3 (N 1) := by rw [hN1]; exact hw
    by_cases qL : L = D
    · -- all duties are taken
      have hz : zfr tk D 0 = 0 := by omega
      refine ⟨M, N, n, ?_, rfl, by omega, Or.inl qL, h, fun _ _ => rfl, fun _ _ => ⟨rfl, rfl⟩⟩
      exact most_skip (T := T) hw ok hD hD6 (fun j hj => (g6 j (by omega)).mpr (Or.inl (zfr_0 D 0 hz j (by omega) (by omega)))) (d + 1) i j hi hj
    · have hLD' : L < D := by omega
      have h11' := h11 hLD'
      obtain ⟨n, rfl⟩ : ∃ k, n = k + 1 := ⟨n - 1, by omega⟩
      obtain ⟨j, rfl⟩ : ∃ k, j = k + 1 := ⟨j - 1, by omega⟩
      have hi6 : i < 6 := by omega
      have hle : ¬ nI D ≤ nI i := by rw [nI_leN (by omega) (by omega)]; omega
      have hzf : zfr tk (d + 1) i = (if tb tk i then 0 else 1) + zfr tk d (i + 1) := rfl
      have nel : ∀ a, a < 100 → a ≠ D → ¬ nI a = nI D := fun a ha hn z => hn (by rw [i_eq, i_nI (by omega), i_nI (by omega)] at z; omega)
      have hduN : f_X11_duties N = some (nI D) := by rw [r_duties, hN1, hD]
      have hR : b_X11_laysMost_40 (nI m) (n + 1) N (nI L) tk = zbn (f_X11_canBe N (nI m) (nI L) (nI i) tk) (fun u_14 => if u_14.1 = 0 then (znm (zu u_14.2 11 L (u_14.2 11 L + 1)) (fun M_15 => b_X11_laysMost_40 (nI m) n M_15 (nI L) tk)) else (b_X11_laysMost_134 (fun M x2 x3 => b_X11_laysMost_40 (nI m) n M x2 x3) (nI m) (nI (L + 1)) (tk ||| ((1 : Int32) <<< (nI i &&& 31))) 20000 (zu u_14.2 11 (L + 1) 0) 0)) := by
        rw [b_X11_laysMost_40, if_neg (by rw [i_lt, i_nI (by omega), i_lit0]; omega), zck_t (nI_lt_i (by omega) (by omega)), nI_cl (by omega), znm_e, h11', hduN, zbn_s, if_neg (nel L (by omega) qL), zbn_s, if_neg (nel i (by omega) (by omega))]
        congr 1
        funext u
        rw [znm_e, znm_e, nI_p1]
        simp only [b_X11_laysMost_193, show ∀ x : Option zM, zck (zin (nI L) 7) x = x from fun x => zck_t (nI_lt_i (by omega) (by omega)), show ∀ x : Option zM, zck (zin (nI (L + 1)) 7) x = x from fun x => zck_t (nI_lt_i (by omega) (by omega)), znm_e, nI_cl (show L + 1 < 2147483648 by omega)]
      have skipR : f_X11_canBe N (nI m) (nI L) (nI i) tk = some (0, N) → b_X11_laysMost_40 (nI m) (n + 1) N (nI L) tk = b_X11_laysMost_40 (nI m) n (zu N 11 L (nI (i + 1))) (nI L) tk := by
        intro e
        rw [hR, e, zbn_s]
        dsimp only
        rw [if_pos rfl, znm_e, h11', nI_p1]
      have goOn : ∀ (M1 N1 : zM) (n1 : Nat), zMo M0 N0 D L tk us M1 N1 → N1 11 L = nI i → (∀ i, i < L → N1 11 i = N 11 i) → (∀ i, i ≤ L → N1 12 i = N 12 i ∧ N1 13 i = N 13 i) → d + zfr tk d (i + 1) * zTr r < n1 → ∃ M' N' n', b_X2_tryRows_37 (fr_X2 (8 - L)) 3 (nI P) (nI p) (nI X) us (nI L) j M1 (nI (i + 1)) = some M' ∧ b_X11_laysMost_40 (nI m) n1 (zu N1 11 L (nI (i + 1))) (nI L) tk = b_X11_laysMost_40 (nI m) n' N' (nI L) tk ∧ n1 ≤ n' + d + zfr tk d (i + 1) * zTr r ∧ (L = D ∨ N' 11 L = nI D) ∧ zMo M0 N0 D L tk us M' N' ∧ (∀ i, i < L → N' 11 i = N 11 i) ∧ (∀ i, i ≤ L → N' 12 i = N 12 i ∧ N' 13 i = N 13 i) := by
        intro M1 N1 n1 hz hz11 e11 e123 hn1
        obtain ⟨z1, z2, z3, ⟨c, c6, c1, c2, c3⟩, z5, z6, z7⟩ := hz
        have hz' : zMo M0 N0 D L tk us M1 (zu N1 11 L (nI (i + 1))) := ⟨z1, fun q y0 y11 y12 y13 y14 => by rw [zu_row y11, z2 q y0 y11 y12 y13 y14], fun j hj => by rw [zu_row (by decide), z3 j hj], ⟨c, c6, c1, by rw [zu_row (by decide)]; exact c2, fun i hi => by rw [zu_row (by decide)]; exact c3 i hi⟩, fun i hi => by rw [zu_at, if_neg (by omega)]; exact z5 i hi, z6, z7⟩
        obtain ⟨M', N', n', a1, a2, a3, a4, a5, a6, a7⟩ := ih (i + 1) (by omega) M1 (zu N1 11 L (nI (i + 1))) tk us p X n1 j hz' (by rw [zu_row (by decide), (e123 L (by omega)).1]; exact h12) hp (by rw [zu_row (by decide), (e123 L (by omega)).2]; exact h13) hX (fun _ => by rw [zu_at, if_pos ⟨rfl, rfl⟩]) hn1 (by omega)
        refine ⟨M', N', n', a1, a2, a3, a4, a5, fun i hi => ?_, fun i hi => ?_⟩
        · rw [a6 i hi, zu_at, if_neg (by omega), e11 i hi]
        · rw [(a7 i hi).1, (a7 i hi).2, zu_row (by decide), zu_row (by decide)]; exact e123 i hi
      have hX0 : b_X2_tryRows_37 (fr_X2 (8 - L)) 3 (nI P) (nI p) (nI X) us (nI L) (j + 1) M (nI i) = (if (if tb us i then (1 : Int32) else 0) = 0 then (zbn (f_X9_dutyCell M 3 (nI i) 0) (fun u_3 => zbn (f_X8_fewestHours M 3 (nI p) u_3 (nI P) 1 (nI X)) (fun u_4 => zbn (f_X9_dutyCell M 3 (nI i) 1) (fun u_5 => znm (if (nI X + u_4) < u_5 then u_5 else (nI X + u_4)) (fun v_6 => if u_4 = ((-1)) then b_X2_tryRows_37 (fr_X2 (8 - L)) 3 (nI P) (nI p) (nI X) us (nI L) j M (nI (i + 1)) else (zbn (f_X9_dutyCell M 3 (nI i) 2) (fun u_7 => if u_7 < v_6 then b_X2_tryRows_37 (fr_X2 (8 - L)) 3 (nI P) (nI p) (nI X) us (nI L) j M (nI (i + 1)) else (zbn (f_X10_put M 49 (nI L) (nI i)) (fun u_8 => zbn ((fr_X2 (8 - L)) u_8 3 (nI P) u_3 v_6 (us ||| ((1 : Int32) <<< (nI i &&& 31))) (nI L + 1)) (fun u_9 => b_X2_tryRows_37 (fr_X2 (8 - L)) 3 (nI P) (nI p) (nI X) us (nI L) j u_9 (nI (i + 1)))))))))))) else b_X2_tryRows_37 (fr_X2 (8 - L)) 3 (nI P) (nI p) (nI X) us (nI L) j M (nI (i + 1))) := by
        rw [b_X2_tryRows_37, hw.duties, hD, if_neg hle, x_has _ (by omega), zbn_s]
        simp only [b_X2_tryRows_149, znm_e, nI_p1]
      have skip : b_X2_tryRows_37 (fr_X2 (8 - L)) 3 (nI P) (nI p) (nI X) us (nI L) (j + 1) M (nI i) = b_X2_tryRows_37 (fr_X2 (8 - L)) 3 (nI P) (nI p) (nI X) us (nI L) j M (nI (i + 1)) → f_X11_canBe N (nI m) (nI L) (nI i) tk = some (0, N) → ∃ M' N' n', b_X2_tryRows_37 (fr_X2 (8 - L)) 3 (nI P) (nI p) (nI X) us (nI L) (j + 1) M (nI i) = some M' ∧ b_X11_laysMost_40 (nI m) (n + 1) N (nI L) tk = b_X11_laysMost_40 (nI m) n' N' (nI L) tk ∧ n + 1 ≤ n' + (d + 1) + zfr tk (d + 1) i * zTr r ∧ (L = D ∨ N' 11 L = nI D) ∧ zMo M0 N0 D L tk us M' N' ∧ (∀ i, i < L → N' 11 i = N 11 i) ∧ (∀ i, i ≤ L → N' 12 i = N 12 i ∧ N' 13 i = N 13 i) := by
        intro ex er
        have hmul : zfr tk d (i + 1) * zTr r ≤ zfr tk (d + 1) i * zTr r := Nat.mul_le_mul_right _ (by rw [hzf]; omega)
        obtain ⟨M', N', n', a1, a2, a3, a4, a5, a6, a7⟩ := goOn M N n h h11' (fun _ _ => rfl) (fun _ _ => ⟨rfl, rfl⟩) (by omega)
        exact ⟨M', N', n', by rw [ex, a1], by rw [skipR er, a2], by omega, a4, a5, a6, a7⟩
      have skipN : ∀ u : Int32, ¬ (tb tk i = false ∧ N0 1 (71 + 4 * i) = 0) → f_X11_canBe N (nI m) (nI L) (nI i) tk = some (0, N) := by
        intro _ hh
        rw [f_X11_canBe, r_has _ (by omega), zbn_s, r_isKept' okN hi6, zbn_s, hN1]
        cases hb : tb tk i with
        | true => rw [if_neg (by decide)]
        | false => rw [if_pos (by decide), if_neg (fun z => hh ⟨hb, z⟩)]
      have k01 := ok.k01 hi6
      by_cases hus : tb us i = true
      · refine skip (by rw [hX0, hus, if_neg (by decide)]) (skipN 0 (fun z => ?_))
        rcases (g6 i (by omega)).mp hus with y | y
        · rw [y] at z; exact absurd z.1 (by decide)
        · rw [y.2] at z; exact absurd z.2 (by decide)
      · have hus' : tb us i = false := by simpa using hus
        have htk : tb tk i = false := by
          cases hb : tb tk i with
          | true => exact absurd ((g6 i (by omega)).mpr (Or.inl hb)) hus
          | false => rfl
        have hk0 : N0 1 (71 + 4 * i) = 0 := k01.elim id (fun z => absurd ((g6 i (by omega)).mpr (Or.inr ⟨hi6, z⟩)) hus)
        have dp := ok.d hi6 (c := 0) (by omega)
        have dp11 : (N0 1 (68 + 4 * i + 0)).toInt ≤ 11 := dp.2
        obtain ⟨q, q1, q2⟩ := nI_get dp.1
        have hq : q < 12 := by omega
        have df := ok.d hi6 (c := 1) (by omega)
        have df9 : (N0 1 (68 + 4 * i + 1)).toInt ≤ 999 := df.2
        have dt := ok.d hi6 (c := 2) (by omega)
        have dt9 : (N0 1 (68 + 4 * i + 2)).toInt ≤ 999 := dt.2
        obtain ⟨a, b', w1, w2, w3⟩ := s_ways hwN okN hlM (dp := 1) (by decide) hP4 hp hq (show X < 1000000 by omega)
        have x0 : f_X9_dutyCell M 3 (nI i) 0 = some (nI q) := by rw [show (0 : Int32) = nI 0 from rfl, x_dutyCell xw_3.2.2.2.1 hw hi6 (by omega), q2]
        have x1 : f_X9_dutyCell M 3 (nI i) 1 = some (N0 1 (68 + 4 * i + 1)) := by rw [show (1 : Int32) = nI 1 from rfl, x_dutyCell xw_3.2.2.2.1 hw hi6 (by omega)]
        have x2 : f_X9_dutyCell M 3 (nI i) 2 = some (N0 1 (68 + 4 * i + 2)) := by rw [show (2 : Int32) = nI 2 from rfl, x_dutyCell xw_3.2.2.2.1 hw hi6 (by omega)]
        have r0 : f_X11_ofDuty N (nI i) 0 = some (nI q) := by rw [show (0 : Int32) = nI 0 from rfl, r_ofDuty hi6 (by omega), hN1, q2]
        have r1 : f_X11_ofDuty N (nI i) 1 = some (N0 1 (68 + 4 * i + 1)) := by rw [show (1 : Int32) = nI 1 from rfl, r_ofDuty hi6 (by omega), hN1]
        have r2 : f_X11_ofDuty N (nI i) 2 = some (N0 1 (68 + 4 * i + 2)) := by rw [show (2 : Int32) = nI 2 from rfl, r_ofDuty hi6 (by omega), hN1]
        have rP : f_X11_of N (nI m) 2 = some (nI P) := by rw [show (2 : Int32) = nI 2 from rfl, r_of hm (by omega), hN1, hP]
        have hC : f_X11_canBe N (nI m) (nI L) (nI i) tk = (if 1000000 ≤ b' then (some (0, N)) else (if (if nI X + b' < N0 1 (68 + 4 * i + 1) then N0 1 (68 + 4 * i + 1) else nI X + b') ≤ N0 1 (68 + 4 * i + 2) then some (1, zu (zu N 12 (L + 1) (nI q)) 13 (L + 1) (if nI X + b' < N0 1 (68 + 4 * i + 1) then N0 1 (68 + 4 * i + 1) else nI X + b')) else (some (0, N)))) := by
          have hkN : N 1 (71 + 4 * i) = 0 := by rw [hN1]; exact hk0
          rw [f_X11_canBe, r_has _ (by omega), zbn_s, htk, if_pos (by decide), r_isKept' okN hi6, hkN, zbn_s, if_pos rfl, zck_t (nI_lt_i (by omega) (by omega)), r0, zbn_s, rP, zbn_s, zck_t (nI_lt_i (by omega) (by omega)), nI_cl (by omega), h12, h13, w2, zbn_s, zck_t (nI_lt_i (by omega) (by omega)), r1, zbn_s, znm_e, r2, zbn_s, zbn_s, nI_p1, zck_t (nI_lt_i (by omega) (by omega)), nI_cl (by omega), znm_e, zck_t (nI_lt_i (by omega) (by omega)), znm_e]
        have hXx : b_X2_tryRows_37 (fr_X2 (8 - L)) 3 (nI P) (nI p) (nI X) us (nI L) (j + 1) M (nI i) = (if a = -1 then b_X2_tryRows_37 (fr_X2 (8 - L)) 3 (nI P) (nI p) (nI X) us (nI L) j M (nI (i + 1)) else (if N0 1 (68 + 4 * i + 2) < (if (nI X + a) < N0 1 (68 + 4 * i + 1) then N0 1 (68 + 4 * i + 1) else (nI X + a)) then b_X2_tryRows_37 (fr_X2 (8 - L)) 3 (nI P) (nI p) (nI X) us (nI L) j M (nI (i + 1)) else (zbn ((fr_X2 (8 - L)) (zu M 49 L (nI i)) 3 (nI P) (nI q) (if (nI X + a) < N0 1 (68 + 4 * i + 1) then N0 1 (68 + 4 * i + 1) else (nI X + a)) (us ||| ((1 : Int32) <<< (nI i &&& 31))) (nI (L + 1))) (fun u_9 => b_X2_tryRows_37 (fr_X2 (8 - L)) 3 (nI P) (nI p) (nI X) us (nI L) j u_9 (nI (i + 1)))))) := by
          rw [hX0, hus', if_pos (by decide), x0, zbn_s, w1, zbn_s, x1, zbn_s, znm_e, x2, zbn_s, x_put (n := 6) (by decide +kernel) (by omega) (show L < 6 by omega), zbn_s, nI_p1]
        have lm : (1000000 : Int32).toInt = 1000000 := rfl
        rcases w3 with ⟨rfl, b0, b60⟩ | ⟨rfl, rfl⟩
        · have ha1 : ¬ a = -1 := fun z => by rw [i_eq] at z; have : a.toInt = -1 := z; omega
          rw [if_neg (by rw [i_le, lm]; omega)] at hC
          rw [if_neg ha1] at hXx
          have hXi := i_nI (n := X) (by omega)
          have hs : (nI X + a).toInt = X + a.toInt := by rw [i_add (by omega) (by omega), hXi]
          obtain ⟨v, hv⟩ : ∃ v, v = (if nI X + a < N0 1 (68 + 4 * i + 1) then N0 1 (68 + 4 * i + 1) else nI X + a) := ⟨_, rfl⟩
          have hv0 : 0 ≤ v.toInt := by rw [hv]; split <;> omega
          rw [← hv] at hC hXx
          by_cases qt : v ≤ N0 1 (68 + 4 * i + 2)
          · -- it is laid
            rw [if_pos qt] at hC
            rw [if_neg (by rw [i_lt]; rw [i_le] at qt; omega)] at hXx
            obtain ⟨X', X1', X2'⟩ := nI_get hv0
            rw [i_le] at qt
            obtain ⟨N1, hN1'⟩ : ∃ N1, N1 = zu (zu (zu N 12 (L + 1) (nI q)) 13 (L + 1) v) 11 (L + 1) 0 := ⟨_, rfl⟩
            have hset := zfr_set tk (show i < 32 by omega) htk D 0
            rw [if_pos (by omega)] at hset
            have hmo : zMo M0 N0 D (L + 1) (tk ||| ((1 : Int32) <<< (nI i &&& 31))) (us ||| ((1 : Int32) <<< (nI i &&& 31))) (zu M 49 L (nI i)) N1 := by
              refine ⟨fun q y1 y2 y3 => by rw [zu_row y2, g1 q y1 y2 y3], fun q y0 y11 y12 y13 y14 => by rw [hN1', zu_row y11, zu_row y13, zu_row y12, g2 q y0 y11 y12 y13 y14], fun j hj => by rw [hN1', zu_row (by decide), zu_row (by decide), zu_row (by decide), g3 j hj], ⟨b, b6, by rw [zu_row (by decide)]; exact b1, by rw [hN1', zu_row (by decide), zu_row (by decide), zu_row (by decide)]; exact b2, fun i hi => by rw [zu_row (by decide), hN1', zu_row (by decide), zu_row (by decide), zu_row (by decide)]; exact b3 i hi⟩, fun i' hi' => ?_, fun j' hj' => ?_, by omega⟩
              · have eN : N1 11 i' = N 11 i' := by rw [hN1', zu_at, if_neg (by omega), zu_row (by decide), zu_row (by decide)]
                rw [eN, zu_at]
                by_cases e : i' = L
                · rw [if_pos ⟨rfl, e⟩, e, h11']
                · rw [if_neg (fun z => e z.2)]; exact g5 i' (by omega)
              · rw [tb_set _ (by omega), tb_set _ (by omega)]
                by_cases e : j' = i
                · rw [if_pos e, if_pos e]; exact ⟨fun _ => Or.inl rfl, fun _ => rfl⟩
                · rw [if_neg e, if_neg e]; exact g6 j' hj'
            obtain ⟨M2, N2, p1, p2, p3, p4, p5, p6⟩ := s_push (m := m) (show L + 1 ≤ 6 by omega) hmo (R := fr_X2 (7 - L)) (K := fun M x2 x3 => b_X11_laysMost_40 (nI m) n M x2 x3) (x2 := nI P) (x3 := nI q) (x4 := v)
            have hfr : fr_X2 (8 - L) = g_X2_tryRows (fr_X2 (7 - L)) := by rw [show 8 - L = (7 - L) + 1 by omega]; rfl
            have n11 : ∀ i', i' ≠ L + 1 → N2 11 i' = N 11 i' := fun i' hi' => by rw [p4, hN1', zu_at, if_neg (by omega), zu_row (by decide), zu_row (by decide)]
            have n12 : ∀ i', i' ≠ L + 1 → N2 12 i' = N 12 i' ∧ N2 13 i' = N 13 i' := fun i' hi' => ⟨by rw [p5, hN1', zu_row (by decide), zu_row (by decide), zu_at, if_neg (by omega)], by rw [p6, hN1', zu_row (by decide), zu_at, if_neg (by omega), zu_row (by decide)]⟩
            have n12L : N2 12 (L + 1) = nI q := by rw [p5, hN1', zu_row (by decide), zu_row (by decide), zu_at, if_pos ⟨rfl, rfl⟩]
            have n13L : N2 13 (L + 1) = nI X' := by rw [p6, hN1', zu_row (by decide), zu_at, if_pos ⟨rfl, rfl⟩, X2']
            have n11L : N2 11 (L + 1) = nI 0 := by rw [p4, hN1', zu_at, if_pos ⟨rfl, rfl⟩]; rfl
            have hx1 : zfr tk (d + 1) i = 1 + zfr tk d (i + 1) := by rw [hzf, htk]; rfl
            have hmulx : zfr tk (d + 1) i * zTr r = zTr r + zfr tk d (i + 1) * zTr r := by rw [hx1, Nat.add_mul, Nat.one_mul]
            have child : ∃ M3 N3 n3, b_X2_tryRows_26 (fr_X2 (7 - L)) 3 M2 (nI P) (nI q) v (us ||| ((1 : Int32) <<< (nI i &&& 31))) (nI (L + 1)) = some M3 ∧ b_X11_laysMost_40 (nI m) n N2 (nI (L + 1)) (tk ||| ((1 : Int32) <<< (nI i &&& 31))) = b_X11_laysMost_40 (nI m) n3 N3 (nI (L + 1)) (tk ||| ((1 : Int32) <<< (nI i &&& 31))) ∧ n + 2 ≤ n3 + zTr r ∧ (L + 1 = D ∨ N3 11 (L + 1) = nI D) ∧ zMo M0 N0 D (L + 1) (tk ||| ((1 : Int32) <<< (nI i &&& 31))) (us ||| ((1 : Int32) <<< (nI i &&& 31))) M3 N3 ∧ (∀ i', i' < L + 1 → N3 11 i' = N2 11 i') ∧ (∀ i', i' ≤ L + 1 → N3 12 i' = N2 12 i' ∧ N3 13 i' = N2 13 i') := by
              by_cases q6 : L + 1 < 6
              · obtain ⟨r', rfl⟩ : ∃ r', r = r' + 1 := ⟨r - 1, by omega⟩
                have hT : zTr (r' + 1) = 8 + (r' + 1) * zTr r' := rfl
                have hb : zfr (tk ||| ((1 : Int32) <<< (nI i &&& 31))) D 0 * zTr r' ≤ (r' + 1) * zTr r' := Nat.mul_le_mul_right _ (by omega)
                obtain ⟨M3, N3, n3, c1, c2, c3, c4, c5, c6, c7⟩ := ihr r' (by omega) (L + 1) (by omega) (by omega) D 0 (by omega) M2 N2 (tk ||| ((1 : Int32) <<< (nI i &&& 31))) (us ||| ((1 : Int32) <<< (nI i &&& 31))) q X' n 6000 p3 n12L hq n13L (by omega) (fun _ => n11L) (by omega) (by omega)
                refine ⟨M3, N3, n3, ?_, c2, by omega, c4, c5, c6, c7⟩
                rw [b_X2_tryRows_26, if_pos (by rw [i_lt, i_nI (by omega)]; show _ < (6 : Int); omega), X2', show 7 - L = 8 - (L + 1) by omega]
                exact c1
              · have h8 : 8 ≤ zTr r := by cases r <;> simp [zTr]
                refine ⟨M2, N2, n, ?_, rfl, by omega, Or.inl (by omega), p3, fun _ _ => rfl, fun _ _ => ⟨rfl, rfl⟩⟩
                rw [b_X2_tryRows_26, if_neg (by rw [i_lt, i_nI (by omega)]; show ¬ _ < (6 : Int); omega)]
            obtain ⟨M3, N3, n3, c1, c2, c3, c4, c5, c6, c7⟩ := child
            obtain ⟨n4, rfl⟩ : ∃ k, n3 = k + 1 := ⟨n3 - 1, by omega⟩
            have n3L : N3 11 L = nI i := by rw [c6 L (by omega), n11 L (by omega), h11']
            have hdu3 : f_X11_duties N3 = some (nI D) := by rw [r_duties, c5.2.1 1 (by decide) (by decide) (by decide) (by decide) (by decide), hD]
            have hclr : (tk ||| ((1 : Int32) <<< (nI i &&& 31))) &&& (((1 : Int32) <<< (nI i &&& 31)) ^^^ (-1)) = tk := tb_ext (fun j' hj' => by
              rw [tb_clr _ (by omega) hj', tb_set _ (by omega)]
              by_cases e : j' = i
              · rw [if_pos e, e, htk]
              · rw [if_neg e, if_neg e])
            have pop : b_X11_laysMost_40 (nI m) (n4 + 1) N3 (nI (L + 1)) (tk ||| ((1 : Int32) <<< (nI i &&& 31))) = b_X11_laysMost_40 (nI m) n4 (zu N3 11 L (nI (i + 1))) (nI L) tk := by
              have h69 : b_X11_laysMost_69 (fun M x2 x3 => b_X11_laysMost_40 (nI m) n4 M x2 x3) N3 (nI m) (nI (L + 1)) (tk ||| ((1 : Int32) <<< (nI i &&& 31))) = b_X11_laysMost_40 (nI m) n4 (zu N3 11 L (nI (i + 1))) (nI L) tk := by
                rw [b_X11_laysMost_69, i_m1, nI_m1, znm_e, if_neg (by rw [i_lt, i_nI (by omega), i_lit0]; omega), zck_t (nI_lt_i (by omega) (by omega)), nI_cl (by omega), n3L, hclr, znm_e, zck_t (nI_lt_i (by omega) (by omega)), zck_t (nI_lt_i (by omega) (by omega)), znm_e, nI_p1, b_X11_laysMost_193]
              rw [b_X11_laysMost_40, if_neg (by rw [i_lt, i_nI (by omega), i_lit0]; omega), zck_t (nI_lt_i (by omega) (by omega)), nI_cl (by omega), znm_e, hdu3, zbn_s, zbn_s]
              by_cases e : L + 1 = D
              · rw [if_pos (by rw [e]), h69]
              · rw [if_neg (nel (L + 1) (by omega) e), if_pos (c4.elim (fun z => absurd z e) id), h69]
            obtain ⟨y1, y2, y3, y4, y5, y6, y7⟩ := c5
            obtain ⟨M', N', n', a1, a2, a3, a4, a5, a6, a7⟩ := goOn M3 N3 n4 ⟨y1, y2, y3, y4, fun i' hi' => y5 i' (by omega), g6, g7⟩ n3L (fun i' hi' => by rw [c6 i' (by omega), n11 i' (by omega)]) (fun i' hi' => by rw [(c7 i' (by omega)).1, (c7 i' (by omega)).2]; exact n12 i' (by omega)) (by omega)
            refine ⟨M', N', n', ?_, ?_, by omega, a4, a5, a6, a7⟩
            · rw [hXx, hfr, p1, c1, zbn_s, ← hfr, a1]
            · rw [hR, hC, zbn_s]
              dsimp only
              rw [if_neg n10, ← hN1']
              exact p2.trans (c2.trans (pop.trans a2))
          · exact skip (by rw [hXx, if_pos (by rw [i_lt]; rw [i_le] at qt; omega)]) (by rw [hC, if_neg qt])
        · exact skip (by rw [hXx, if_pos rfl]) (by rw [hC, if_pos (by decide)])
end
