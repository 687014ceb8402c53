section
variable {L : Nat} {M N : zM}
theorem dig_loop (h : zTx L M N) {b e : Nat} (he : M 39 5 = nI e) (heL : e ≤ L) (h3 : e ≤ b + 3) (hd : ∀ r, b ≤ r → r < e → zir M 48 57 r = true) : ∀ (d i n : Nat), b + i + d = e → d < n → b_X7_digits_22 M n (nI (znv M b i)) (nI (b + i)) = some (nI (znv M b (i + d))) := by
  have hL := h.1
  intro d
  induction d with
  | zero =>
    intro i n hi hn
    obtain ⟨n, rfl⟩ : ∃ k, n = k + 1 := ⟨n - 1, by omega⟩
    rw [b_X7_digits_22, he, if_pos (by rw [nI_leN (by omega) (by omega)]; omega)]; rfl
  | succ d ih =>
    intro i n hi hn
    obtain ⟨n, rfl⟩ : ∃ k, n = k + 1 := ⟨n - 1, by omega⟩
    have hdg := hd (b + i) (by omega) (by omega)
    unfold zir at hdg
    simp at hdg
    have hlt := znv_lt (M := M) (b := b) i (fun r hr => hd (b + r) (by omega) (by omega)) (by omega)
    have h1000 : 10 ^ i ≤ 1000 := by
      have : 10 ^ i ≤ 10 ^ 3 := Nat.pow_le_pow_right (by omega) (by omega)
      omega
    have ev : 10 * nI (znv M b i) + nI (zby M (b + i)) - 48 = nI (znv M b (i + 1)) := by
      have a1 : 10 * nI (znv M b i) = nI (10 * znv M b i) := by rw [show (10 : Int32) = nI 10 from rfl, nI_mul]
      have l48 : (48 : Int32).toInt = 48 := rfl
      rw [a1, nI_add, i_eq, i_sub (by rw [i_nI (by omega), l48]; omega) (by rw [i_nI (by omega), l48]; omega), i_nI (by omega), l48, i_nI (by show 10 * znv M b i + (zby M (b + i) - 48) < _; omega)]
      show (((10 * znv M b i + zby M (b + i) : Nat)) : Int) - 48 = ((10 * znv M b i + (zby M (b + i) - 48) : Nat) : Int)
      omega
    rw [b_X7_digits_22, he, if_neg (by rw [nI_leN (by omega) (by omega)]; omega), if_neg (by rw [i_le, i_nI (by omega)]; show ¬ (400 : Int) ≤ _; omega), zck_t (nI_lt_i (by omega) (by omega)), nI_cl (by omega), (h.b (j := b + i) (by omega)).1, znm_e, znm_e, ev, nI_p1]
    have := ih (i + 1) n (by omega) (by omega)
    rw [show b + (i + 1) = b + i + 1 by omega, show i + 1 + d = i + (d + 1) by omega] at this
    exact this
theorem zrn_S {f : Nat → Bool} {b : Nat} (hb : b < L) (hf : f b = true) : zrn f (L - (b + 1)) (b + 1) = zrn f (L - b) b := by
  rw [show L - b = (L - (b + 1)) + 1 by omega]
  show _ = if f b then _ else _
  rw [hf, if_pos rfl]
theorem x_digits (h : zTx L M N) {b : Nat} (hb : b < L) (h4 : M 39 4 = nI b) (h5 : M 39 5 = nI (zde L M b)) (hd : zir M 48 57 b = true) : f_X7_digits M = some (zpn L M b) := by
  have hL := h.1
  have hle := zde_le (M := M) (p := b) (L := L) (by omega)
  have hlt : b < zde L M b := by
    have e := zrn_S (L := L) (f := zir M 48 57) hb hd
    have := zrn_le (zir M 48 57) (L - (b + 1)) (b + 1)
    unfold zde; omega
  have hsub : nI (zde L M b) - nI b = nI (zde L M b - b) := by
    have a1 := i_nI (n := zde L M b) (by omega)
    have a2 := i_nI (n := b) (by omega)
    have a3 := i_nI (n := zde L M b - b) (by omega)
    rw [i_eq, i_sub (by omega) (by omega), a1, a2, a3]; omega
  rw [f_X7_digits, h4, h5, hsub]
  unfold zpn
  by_cases q : zde L M b - b ≤ 3
  · rw [if_pos (by rw [i_le, i_nI (by omega)]; show _ ≤ (3 : Int); omega), if_pos ⟨hlt, q⟩, znm_e]
    have := dig_loop h h5 hle.2 (by omega) (fun r h1 h2 => zrn_in _ _ _ r h1 h2) (zde L M b - b) 0 6000 (by omega) (by omega)
    rw [Nat.zero_add] at this
    exact this
  · rw [if_neg (by rw [i_le, i_nI (by omega)]; show ¬ _ ≤ (3 : Int); omega), if_neg (fun z => q z.2)]
theorem x_next (h : zTx L M N) (hw : ∀ j, j < 154 → M 40 j = zWds.getD j 0) {p : Nat} (h5 : M 39 5 = nI p) (hp : p ≤ L) : ∃ M', f_X7_next M = some M' ∧ zTf M M' ∧ zTk L M' (zsk L M p) := by
  have hL := h.1
  have l400 : (400 : Int32).toInt = 400 := rfl
  have hs := zsk_le (M := M) (L := L) hp
  obtain ⟨M1, a1, a2, a3⟩ := skip_loop h (L - p) p 6000 (zu M 39 4 (nI p)) (by omega) (by omega) ⟨fun q hq => zu_row hq, by rw [zu_at, if_neg (by decide)]⟩ (by rw [zu_at, if_pos ⟨rfl, rfl⟩])
  have hX0 : f_X7_next M = b_X7_next_65 M1 (nI L) := by
    rw [f_X7_next, h.2.1, if_neg (by rw [i_lt, l400, i_nI (by omega)]; omega), znm_e, znm_e, h5]; exact a1
  have a3' : M1 39 4 = nI (zsk L M p) := a3
  obtain ⟨b, hb⟩ : ∃ b, b = zsk L M p := ⟨_, rfl⟩
  rw [← hb] at a3' hs ⊢
  have hsb : zsk L M b = b := by
    by_cases q : b < L
    · have hf : zir M 32 32 b = false := by
        rw [hb]; unfold zsk
        exact zrn_at (zir M 32 32) (L - p) p (by unfold zsk at hb; omega)
      unfold zsk
      rw [show L - b = (L - (b + 1)) + 1 by omega]
      show (if zir M 32 32 b then _ else _) = b
      rw [hf]; rfl
    · unfold zsk; rw [show L - b = 0 by omega]; rfl
  have e65 : b_X7_next_65 M1 (nI L) = (if nI b < nI L then (zck (zin (nI b) 400) (znm (zu M1 39 5 (nI b) 2 (nI b).toNatClampNeg) (fun x2_12 => zbn (f_X7_kindOf (zu M1 39 5 (nI b)) x2_12) (fun u_13 => znm (zu (zu M1 39 5 (nI b)) 39 2 u_13) (fun M_14 => znm (zu M_14 39 5 ((M_14 39 4) + 1)) (fun M_15 => b_X7_next_118 (nI L) x2_12 6000 M_15)))))) else (znm (zu (zu M1 39 5 (nI b)) 39 2 0) (fun M_16 => some M_16))) := by
    have e4 : zu M1 39 5 (nI b) 39 4 = nI b := by rw [zu_at, if_neg (by decide)]; exact a3'
    rw [b_X7_next_65, a3', znm_e, e4]
  rw [hX0, e65]
  by_cases q : b < L
  · rw [if_pos (by rw [nI_ltN (by omega) (by omega)]; exact q), zck_t (nI_lt_i (by omega) (by omega)), nI_cl (by omega), zu_row (by decide), a2.1 2 (by decide), (h.b (j := b) (by omega)).1, znm_e, x_kind h q, zbn_s, znm_e, znm_e]
    have e14 : zu (zu M1 39 5 (nI b)) 39 2 (nI (zkd L M b)) 39 4 = nI b := by rw [zu_at, if_neg (by decide), zu_at, if_neg (by decide)]; exact a3'
    rw [e14, nI_p1]
    obtain ⟨M2, hM2⟩ : ∃ Z, Z = zu (zu (zu M1 39 5 (nI b)) 39 2 (nI (zkd L M b))) 39 5 (nI (b + 1)) := ⟨_, rfl⟩
    rw [← hM2]
    have f2 : zTf M M2 := ⟨fun q hq => by rw [hM2, zu_row hq, zu_row hq, zu_row hq, a2.1 q hq], by rw [hM2, zu_at, if_neg (by decide), zu_at, if_neg (by decide), zu_at, if_neg (by decide)]; exact a2.2⟩
    have c2 : M2 39 2 = nI (zkd L M b) := by rw [hM2, zu_at, if_neg (by decide), zu_at, if_pos ⟨rfl, rfl⟩]
    have c4 : M2 39 4 = nI b := by rw [hM2, zu_at, if_neg (by decide)]; exact e14
    have c5 : M2 39 5 = nI (b + 1) := by rw [hM2, zu_at, if_pos ⟨rfl, rfl⟩]
    have fin : ∀ (M3 : zM) (v : Int32), zTf M M3 → M3 39 2 = nI (zkd L M b) → M3 39 4 = nI b → M3 39 5 = nI (zen L M b) → b_X7_next_169 M3 (nI (zby M b)) = b_X7_next_201 M3 v → zvl L M b v → ∃ M', b_X7_next_169 M3 (nI (zby M b)) = some M' ∧ zTf M M' ∧ zTk L M' b := by
      intro M3 v f3 g2 g4 g5 e hv
      have ff : zTf M (zu M3 39 3 v) := ⟨fun q hq => by rw [zu_row hq, f3.1 q hq], by rw [zu_at, if_neg (by decide)]; exact f3.2⟩
      have eb := ff.zby
      refine ⟨zu M3 39 3 v, by rw [e, b_X7_next_201, znm_e], ff, hs.2, by rw [zsk_eq eb]; exact hsb, by rw [zu_at, if_neg (by decide)]; exact g4, by rw [zkd_eq eb, zu_at, if_neg (by decide)]; exact g2, by rw [zen_eq eb, zu_at, if_neg (by decide)]; exact g5, fun _ => ?_⟩
      rw [zu_at, if_pos ⟨rfl, rfl⟩]
      unfold zvl
      rw [zkd_eq eb, zle_eq eb, eb]
      have e1 : ∀ e o, zwm (zu M3 39 3 v) b e o = zwm M b e o := by
        intro e o
        have : ∀ i, zeq (zu M3 39 3 v) b o i = zeq M b o i := by
          intro i
          induction i with
          | zero => rfl
          | succ i ih => show (zeq _ b o i && _) = (zeq M b o i && _); rw [ih, eb]
        unfold zwm; rw [this]
      have e2 : zpn L (zu M3 39 3 v) b = zpn L M b := by
        have : ∀ i, znv (zu M3 39 3 v) b i = znv M b i := by
          intro i
          induction i with
          | zero => rfl
          | succ i ih => show 10 * znv _ b i + _ = 10 * znv M b i + _; rw [ih, eb]
        unfold zpn; rw [zde_eq eb, this]
      simp only [e1, e2]
      exact hv
    by_cases k1 : zir M 97 122 b = true
    · have kd1 : zkd L M b = 1 := by unfold zkd; rw [if_neg (by omega), if_pos k1]
      have en1 : zen L M b = zle L M b := by unfold zen; rw [if_neg (by omega), if_pos k1]
      obtain ⟨M3, d1, d2, d3, d4, d5⟩ := ext_loop h q (x2 := nI (zby M b)) (Or.inl kd1) (f := zir M 97 122) (fun j hj => by
        rw [kd1]; unfold zkd; rw [if_neg (by omega)]
        by_cases a : zir M 97 122 j = true
        · simp [a]
        · by_cases c : zir M 48 57 j = true <;> simp [a, c]) (L - (b + 1)) (b + 1) 6000 M2 (by omega) (by omega) f2 c2 c4 c5
      have e5 : zrn (zir M 97 122) (L - (b + 1)) (b + 1) = zle L M b := zrn_S q k1
      rw [e5] at d5
      have hle := zle_le (M := M) (p := b) (L := L) (by omega)
      obtain ⟨v, v1, v2, v3⟩ := x_wordNumber (M := M3) (N := N) (h.tf d2) (by rw [d2.1 40 (by decide)]; exact hw) d4 d5 hle.1 hle.2
      rw [d1]
      refine fin M3 v d2 d3 d4 (by rw [en1]; exact d5) ?_ ⟨fun _ => ⟨fun i hi => ?_, v3⟩, fun z => by rw [kd1] at z; omega, fun z => by rw [kd1] at z; omega⟩
      · rw [b_X7_next_169, d3, kd1, if_pos (show nI 1 = 1 from rfl), v1, zbn_s]
      · have eb := d2.zby
        have : zwm M3 b (zle L M b) (zwi i) = zwm M b (zle L M b) (zwi i) := by
          have : ∀ n, zeq M3 b (zwi i) n = zeq M b (zwi i) n := by
            intro n
            induction n with
            | zero => rfl
            | succ n ih => show (zeq _ b _ n && _) = (zeq M b _ n && _); rw [ih, eb]
          unfold zwm; rw [this]
        rw [← this]; exact v2 i hi
    · have k1' : zir M 97 122 b = false := by simpa using k1
      by_cases k2 : zir M 48 57 b = true
      · have kd2 : zkd L M b = 2 := by unfold zkd; rw [if_neg (by omega), k1', if_neg (by decide), if_pos k2]
        have en2 : zen L M b = zde L M b := by unfold zen; rw [if_neg (by omega), k1', if_neg (by decide), if_pos k2]
        obtain ⟨M3, d1, d2, d3, d4, d5⟩ := ext_loop h q (x2 := nI (zby M b)) (Or.inr kd2) (f := zir M 48 57) (fun j hj => by
          rw [kd2]; unfold zkd; rw [if_neg (by omega)]
          by_cases a : zir M 97 122 j = true
          · have : zir M 48 57 j = false := by unfold zir at a ⊢; simp at a ⊢; omega
            simp [a, this]
          · by_cases c : zir M 48 57 j = true <;> simp [a, c]) (L - (b + 1)) (b + 1) 6000 M2 (by omega) (by omega) f2 c2 c4 c5
        have e5 : zrn (zir M 48 57) (L - (b + 1)) (b + 1) = zde L M b := zrn_S q k2
        rw [e5] at d5
        have eb := d2.zby
        have hdg := x_digits (M := M3) (N := N) (h.tf d2) q d4 (by rw [zde_eq eb]; exact d5) (by rw [zir_eq eb]; exact k2)
        have e2 : zpn L M3 b = zpn L M b := by
          have : ∀ i, znv M3 b i = znv M b i := by
            intro i
            induction i with
            | zero => rfl
            | succ i ih => show 10 * znv _ b i + _ = 10 * znv M b i + _; rw [ih, eb]
          unfold zpn; rw [zde_eq eb, this]
        rw [e2] at hdg
        rw [d1]
        refine fin M3 (zpn L M b) d2 d3 d4 (by rw [en2]; exact d5) ?_ ⟨fun z => by rw [kd2] at z; omega, fun _ => rfl, fun z => by rw [kd2] at z; omega⟩
        rw [b_X7_next_169, d3, kd2, if_neg (by decide), if_pos (show nI 2 = 2 from rfl), hdg, zbn_s]
      · have k2' : zir M 48 57 b = false := by simpa using k2
        have kd3 : zkd L M b = 3 := by unfold zkd; rw [if_neg (by omega), k1', if_neg (by decide), k2', if_neg (by decide)]
        have en3 : zen L M b = b + 1 := by unfold zen; rw [if_neg (by omega), k1', if_neg (by decide), k2', if_neg (by decide)]
        have e118 : b_X7_next_118 (nI L) (nI (zby M b)) 6000 M2 = b_X7_next_169 M2 (nI (zby M b)) := by
          obtain ⟨f, hf⟩ : ∃ f, 6000 = f + 1 := ⟨5999, rfl⟩
          rw [hf, b_X7_next_118, c2, kd3, if_pos (show nI 3 = 3 from rfl)]; split <;> rfl
        rw [e118]
        refine fin M2 (nI (zby M b)) f2 c2 c4 (by rw [en3]; exact c5) ?_ ⟨fun z => by rw [kd3] at z; omega, fun z => by rw [kd3] at z; omega, fun _ => rfl⟩
        rw [b_X7_next_169, c2, kd3, if_neg (by decide), if_neg (by decide)]
  · rw [if_neg (by rw [nI_ltN (by omega) (by omega)]; exact q), znm_e]
    have kd0 : zkd L M b = 0 := by unfold zkd; rw [if_pos (by omega)]
    have en0 : zen L M b = b := by unfold zen; rw [if_pos (by omega)]
    have ff : zTf M (zu (zu M1 39 5 (nI b)) 39 2 0) := ⟨fun q hq => by rw [zu_row hq, zu_row hq, a2.1 q hq], by rw [zu_at, if_neg (by decide), zu_at, if_neg (by decide)]; exact a2.2⟩
    have eb := ff.zby
    refine ⟨_, rfl, ff, hs.2, by rw [zsk_eq eb]; exact hsb, by rw [zu_at, if_neg (by decide), zu_at, if_neg (by decide)]; exact a3', by rw [zkd_eq eb, kd0, zu_at, if_pos ⟨rfl, rfl⟩]; rfl, by rw [zen_eq eb, en0, zu_at, if_neg (by decide), zu_at, if_pos ⟨rfl, rfl⟩], fun z => absurd (by rw [zkd_eq eb]; exact kd0) z⟩
end
