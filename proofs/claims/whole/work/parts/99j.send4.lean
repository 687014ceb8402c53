section
variable {T : Int} {M0 N0 : zM} {K Mn : Nat} {tp : Nat → Nat}
theorem scan {M N : zM} (hK : K ≤ 6) {m u w : Nat} (hm : m < 6) (hu : u < 2 ^ K) (hw : w < 6) {mm : Int32} {K172 : Int32 → Int32 → Int32 → Option (Int32 × zM)} {k0 : Nat} (hk0 : k0 < K) (hf0 : u.testBit k0 = false) (he0 : M 46 (6 * w + k0) + M 47 (u ||| 2 ^ k0) = M 47 u) (heq : ∀ k, k < K → u.testBit k = false → (M 46 (6 * w + k) + M 47 (u ||| 2 ^ k) = M 47 u ↔ zlb (N 9 (6 * m + k)) (N 10 (64 * (m + 1) + (u ||| 2 ^ k))) = N 10 (64 * m + u))) : ∀ (d i n j : Nat), i + d = k0 → d < n → d < j → ∃ g, i ≤ g ∧ g < K ∧ u.testBit g = false ∧ M 46 (6 * w + g) + M 47 (u ||| 2 ^ g) = M 47 u ∧ b_X2_leastPlace_3 M (nI u) (nI w) (nI K) n (nI i) = some (nI g) ∧ b_X11_send_193 K172 N mm (nI u) (nI m) j (nI i) = b_X11_send_230 K172 N mm (nI u) (nI g) (nI m) := by
  have hu64 : u < 64 := by have := p64 hK; omega
  intro d
  induction d with
  | zero =>
    intro i n j hi hn hj
    obtain ⟨n, rfl⟩ : ∃ k, n = k + 1 := ⟨n - 1, by omega⟩
    obtain ⟨j, rfl⟩ : ∃ k, j = k + 1 := ⟨j - 1, by omega⟩
    have e : i = k0 := by omega
    subst e
    have ho : u ||| 2 ^ i < 64 := by have := or_lt hu hk0; have := p64 hK; omega
    have eidx : nI w * 6 + nI i = nI (6 * w + i) := by rw [show (6 : Int32) = nI 6 from rfl, nI_mul, nI_add, Nat.mul_comm]
    have hby : f_X2_hoursBy M (nI u) (nI w) (nI i) = some (M 46 (6 * w + i) + M 47 (u ||| 2 ^ i)) := by
      rw [f_X2_hoursBy, eidx, x_at (n := 36) (by decide +kernel) (by omega) (by omega), zbn_s, or_bit u hu64 i (by omega), x_at (n := 64) (by decide +kernel) (by omega) ho, zbn_s]
    refine ⟨i, by omega, hk0, hf0, he0, ?_, ?_⟩
    · rw [b_X2_leastPlace_3, if_neg (by rw [nI_leN (by omega) (by omega)]; omega), x_has _ (by omega), zbn_s, tb_nI (by omega), hf0, if_pos (by decide), hby, zbn_s, x_at (n := 64) (by decide +kernel) (by omega) hu64, zbn_s, if_pos he0]
    · rw [b_X11_send_193, r_has _ (by omega), zbn_s, tb_nI (by omega), hf0, if_pos (by decide), r_leastBy hm hu64 (by omega) ho, zbn_s, r_leastOf (by omega) hu64, zbn_s, if_pos ((heq i hk0 hf0).mp he0)]
  | succ d ih =>
    intro i n j hi hn hj
    obtain ⟨n, rfl⟩ : ∃ k, n = k + 1 := ⟨n - 1, by omega⟩
    obtain ⟨j, rfl⟩ : ∃ k, j = k + 1 := ⟨j - 1, by omega⟩
    have hiK : i < K := by omega
    have ho : u ||| 2 ^ i < 64 := by have := or_lt hu hiK; have := p64 hK; omega
    have eidx : nI w * 6 + nI i = nI (6 * w + i) := by rw [show (6 : Int32) = nI 6 from rfl, nI_mul, nI_add, Nat.mul_comm]
    have hby : f_X2_hoursBy M (nI u) (nI w) (nI i) = some (M 46 (6 * w + i) + M 47 (u ||| 2 ^ i)) := by
      rw [f_X2_hoursBy, eidx, x_at (n := 36) (by decide +kernel) (by omega) (by omega), zbn_s, or_bit u hu64 i (by omega), x_at (n := 64) (by decide +kernel) (by omega) ho, zbn_s]
    obtain ⟨g, g1, g2, g3, g4, g5, g6⟩ := ih (i + 1) n j (by omega) (by omega) (by omega)
    cases hb : u.testBit i with
    | true =>
      refine ⟨g, by omega, g2, g3, g4, ?_, ?_⟩
      · rw [b_X2_leastPlace_3, if_neg (by rw [nI_leN (by omega) (by omega)]; omega), x_has _ (by omega), zbn_s, tb_nI (by omega), hb, if_neg (by decide), b_X2_leastPlace_40, znm_e, nI_p1]; exact g5
      · rw [b_X11_send_193, r_has _ (by omega), zbn_s, tb_nI (by omega), hb, if_neg (by decide), b_X11_send_224, znm_e, nI_p1]; exact g6
    | false =>
      by_cases q : M 46 (6 * w + i) + M 47 (u ||| 2 ^ i) = M 47 u
      · refine ⟨i, by omega, hiK, hb, q, ?_, ?_⟩
        · rw [b_X2_leastPlace_3, if_neg (by rw [nI_leN (by omega) (by omega)]; omega), x_has _ (by omega), zbn_s, tb_nI (by omega), hb, if_pos (by decide), hby, zbn_s, x_at (n := 64) (by decide +kernel) (by omega) hu64, zbn_s, if_pos q]
        · rw [b_X11_send_193, r_has _ (by omega), zbn_s, tb_nI (by omega), hb, if_pos (by decide), r_leastBy hm hu64 (by omega) ho, zbn_s, r_leastOf (by omega) hu64, zbn_s, if_pos ((heq i hiK hb).mp q)]
      · refine ⟨g, by omega, g2, g3, g4, ?_, ?_⟩
        · rw [b_X2_leastPlace_3, if_neg (by rw [nI_leN (by omega) (by omega)]; omega), x_has _ (by omega), zbn_s, tb_nI (by omega), hb, if_pos (by decide), hby, zbn_s, x_at (n := 64) (by decide +kernel) (by omega) hu64, zbn_s, if_neg q, b_X2_leastPlace_40, znm_e, nI_p1]; exact g5
        · rw [b_X11_send_193, r_has _ (by omega), zbn_s, tb_nI (by omega), hb, if_pos (by decide), r_leastBy hm hu64 (by omega) ho, zbn_s, r_leastOf (by omega) hu64, zbn_s, if_neg (fun z => q ((heq i hiK hb).mpr z)), b_X11_send_224, znm_e, nI_p1]; exact g6
def zTb (M0 N0 : zM) (K Mn : Nat) (tp : Nat → Nat) (Mt Nt : zM) : Prop := (∀ q, q ≠ 46 → q ≠ 47 → q ≠ 48 → Mt q = M0 q) ∧ (∀ u, u < 2 ^ K → Mt 47 u = zFv K (fun w k => Mt 46 (6 * w + k)) (K - lob u 6) u) ∧ (∀ q, q ≠ 9 → q ≠ 10 → Nt q = N0 q) ∧ (∀ m, m < Mn → ∀ k, k < K → Nt 9 (6 * m + k) = zhr N0 tp m k) ∧ (∀ m, m ≤ Mn → ∀ v, v < 64 → Nt 10 (64 * m + v) = zLv Mn K (zdr N0) (zhr N0 tp) (Mn - m) v) ∧ zAl (zdr N0) Mn = K ∧ (∀ m, m < Mn → zdr N0 m = false → ∀ k, k < K → (Mt 46 (6 * zAl (zdr N0) m + k) = zhr N0 tp m k ∧ 0 ≤ (Mt 46 (6 * zAl (zdr N0) m + k)).toInt ∧ (Mt 46 (6 * zAl (zdr N0) m + k)).toInt ≤ 60) ∨ (Mt 46 (6 * zAl (zdr N0) m + k) = 100000 ∧ zhr N0 tp m k = 1000000))
theorem zTb.rel (h : zSd T M0 N0 K Mn tp) {Mt Nt : zM} (t : zTb M0 N0 K Mn tp Mt Nt) {m u : Nat} (hm : m ≤ Mn) (hu : u < 2 ^ K) (hl : lob u 6 = zAl (zdr N0) m) : zSwp 360 (Mt 47 u) (Nt 10 (64 * m + u)) := by
  obtain ⟨t1, t2, t3, t4, t5, t6, t7⟩ := t
  have hMn := h.2.2.2.2.1
  have hK := h.2.2.2.2.2.1
  have hu64 : u < 64 := by have := p64 hK; omega
  have := (tab_rel hMn hK (dr := zdr N0) (hc := fun w k => Mt 46 (6 * w + k)) (hr := zhr N0 tp) t6 t7 (Mn - m) m (by omega)).2 u hu hl
  rw [t2 u hu, t5 m hm u hu64, hl]
  exact this.more (by omega)
theorem choose_loop (h : zSd T M0 N0 K Mn tp) {Mt Nt : zM} (t : zTb M0 N0 K Mn tp Mt Nt) : ∀ (d m n : Nat) (M : zM) (u : Nat), m + d = Mn → d < n → (∀ q, q ≠ 48 → M q = Mt q) → u < 2 ^ K → lob u 6 = zAl (zdr N0) m → (Mt 47 u).toInt < 100000 → ∃ M', b_X2_choose_8 3 (nI K) n M (nI u) (nI (zAl (zdr N0) m)) (nI m) = some M' ∧ (∀ q, q ≠ 48 → M' q = Mt q) ∧ (∀ j, j < m → M' 48 j = M 48 j) ∧ (∀ m', m ≤ m' → m' < Mn → (zdr N0 m' = true → M' 48 m' = -1) ∧ (zdr N0 m' = false → ∀ (j : Nat) (x5 : Int32), m' - m + 1 < j → b_X11_send_172 Nt (nI m') j (nI u) x5 (nI m) = some (M' 48 m', Nt))) := by
  have t' := t
  obtain ⟨t1, t2, t3, t4, t5, t6, t7⟩ := t'
  have hMn := h.2.2.2.2.1
  have hK := h.2.2.2.2.2.1
  intro d
  induction d with
  | zero =>
    intro m n M u hi hn hM hu hl hfin
    obtain ⟨n, rfl⟩ : ∃ k, n = k + 1 := ⟨n - 1, by omega⟩
    have e : m = Mn := by omega
    subst e
    have hmo : M 3 10 = nI m := by rw [hM 3 (by decide), t1 3 (by decide) (by decide) (by decide), h.1.monks, h.2.2.2.1]
    exact ⟨M, by rw [b_X2_choose_8, hmo, if_pos (by rw [i_le]; omega)], hM, fun _ _ => rfl, fun m' h1 h2 => by omega⟩
  | succ d ih =>
    intro m n M u hi hn hM hu hl hfin
    obtain ⟨n, rfl⟩ : ∃ k, n = k + 1 := ⟨n - 1, by omega⟩
    have hm6 : m < 6 := by omega
    have hmo : M 3 10 = nI Mn := by rw [hM 3 (by decide), t1 3 (by decide) (by decide) (by decide), h.1.monks, h.2.2.2.1]
    have hle : ¬ nI Mn ≤ nI m := by rw [nI_leN (by omega) (by omega)]; omega
    have hput : ∀ (Z : zM) v, f_X10_put Z 48 (nI m) v = some (zu Z 48 m v) := fun Z v => x_put (n := 6) (by decide +kernel) (by omega) hm6
    have hdr := h.drX (M := zu M 48 m (-1)) (fun q _ _ h3 => by rw [zu_row h3, hM q h3, t1 q (by assumption) (by assumption) h3]) hm6
    have hdrN := h.drR (N := Nt) (t3 1 (by decide) (by decide)) hm6
    have eA : zAl (zdr N0) (m + 1) = zAl (zdr N0) m + (if zdr N0 m then 0 else 1) := rfl
    have hAle := zAl_le (zdr N0) m
    have hx1 : ∀ m', m ≤ m' → m' < Mn → ¬ nI m' < nI m := fun m' h1 h2 => by rw [nI_ltN (by omega) (by omega)]; omega
    cases hd : zdr N0 m with
    | true =>
      rw [hd] at eA hdr hdrN
      have eA' : zAl (zdr N0) (m + 1) = zAl (zdr N0) m := eA
      obtain ⟨M', a1, a2, a3, a4⟩ := ih (m + 1) n (zu M 48 m (-1)) u (by omega) (by omega) (fun q hq => by rw [zu_row hq, hM q hq]) hu (by rw [eA']; exact hl) hfin
      rw [eA'] at a1
      refine ⟨M', ?_, a2, fun j hj => by rw [a3 j (by omega), zu_at, if_neg (by omega)], fun m' h1 h2 => ?_⟩
      · rw [b_X2_choose_8, hmo, if_neg hle, hput, zbn_s, hdr, zbn_s, if_neg (by decide), b_X2_choose_67, znm_e, nI_p1]; exact a1
      · by_cases e : m' = m
        · subst e
          exact ⟨fun _ => by rw [a3 m' (by omega), zu_at, if_pos ⟨rfl, rfl⟩], fun z => by rw [hd] at z; exact absurd z (by decide)⟩
        · refine ⟨(a4 m' (by omega) h2).1, fun z j x5 hj => ?_⟩
          obtain ⟨j, rfl⟩ : ∃ k, j = k + 1 := ⟨j - 1, by omega⟩
          rw [b_X11_send_172, if_neg (hx1 m' h1 h2), hdrN, zbn_s, if_neg (by decide), b_X11_send_239, znm_e, nI_p1]
          exact (a4 m' (by omega) h2).2 z j x5 (by omega)
    | false =>
      rw [hd] at eA hdr hdrN
      have eA' : zAl (zdr N0) (m + 1) = zAl (zdr N0) m + 1 := eA
      have hAm : zAl (zdr N0) m + 1 ≤ K := by
        have := zAl_mono (zdr N0) hd (Mn - (m + 1))
        rw [show m + 1 + (Mn - (m + 1)) = Mn by omega, t6] at this
        exact this
      have hrel := zTb.rel h t (m := m) (by omega) hu hl
      have hMZ : ∀ q, q ≠ 48 → zu M 48 m (-1) q = Mt q := fun q hq => by rw [zu_row hq, hM q hq]
      have hck : ∀ k, k < K → u.testBit k = false → zSx 420 (Mt 46 (6 * zAl (zdr N0) m + k) + Mt 47 (u ||| 2 ^ k)) (zlb (Nt 9 (6 * m + k)) (Nt 10 (64 * (m + 1) + (u ||| 2 ^ k)))) := by
        intro k hk hf
        have hu64 : u < 64 := by have := p64 hK; omega
        have r2 := zTb.rel h t (m := m + 1) (u := u ||| 2 ^ k) (by omega) (or_lt hu hk) (by rw [lob_or u hu64 k (by omega) hf, hl, eA'])
        have r1 := t7 m (by omega) hd k hk
        rw [t4 m (by omega) k hk]
        exact add_rel (B := 360) (by omega) r1 r2
      have lm : (1000000 : Int32).toInt = 1000000 := rfl
      have l1 : (100000 : Int32).toInt = 100000 := rfl
      obtain ⟨e1, e2, e3⟩ : Mt 47 u = Nt 10 (64 * m + u) ∧ 0 ≤ (Mt 47 u).toInt ∧ (Mt 47 u).toInt ≤ 360 := by
        rcases hrel with ⟨z1, z2, z3⟩ | ⟨z1, z2⟩
        · exact ⟨z1, z2, by omega⟩
        · rw [z1, l1] at hfin; omega
      have heq : ∀ k, k < K → u.testBit k = false → (Mt 46 (6 * zAl (zdr N0) m + k) + Mt 47 (u ||| 2 ^ k) = Mt 47 u ↔ zlb (Nt 9 (6 * m + k)) (Nt 10 (64 * (m + 1) + (u ||| 2 ^ k))) = Nt 10 (64 * m + u)) := by
        intro k hk hf
        rcases hck k hk hf with ⟨z1, z2, z3⟩ | ⟨z1, z2⟩
        · rw [z1, e1]
        · constructor
          · intro z; rw [z] at z1; omega
          · intro z; rw [z2, ← e1] at z; rw [← z, lm] at e3; omega
      obtain ⟨k0, hk0, hf0, he0⟩ : ∃ k0, k0 < K ∧ u.testBit k0 = false ∧ Mt 46 (6 * zAl (zdr N0) m + k0) + Mt 47 (u ||| 2 ^ k0) = Mt 47 u := by
        have hF := t2 u hu
        obtain ⟨s, hs⟩ : ∃ s, K - lob u 6 = s + 1 := ⟨K - lob u 6 - 1, by omega⟩
        rw [hs, zFv_S, show K - (s + 1) = zAl (zdr N0) m by omega] at hF
        rcases zmn_at (x := 100000) (c := fun k => Mt 46 (6 * zAl (zdr N0) m + k) + zFv K (fun w k => Mt 46 (6 * w + k)) s (u ||| 2 ^ k)) (u := u) K with z | ⟨k0, z1, z2, z3⟩
        · rw [z] at hF; rw [hF, l1] at hfin; omega
        · have hu64 : u < 64 := by have := p64 hK; omega
          refine ⟨k0, z1, z2, ?_⟩
          rw [hF, ← z3, t2 _ (or_lt hu z1), lob_or u hu64 k0 (by omega) z2, show K - (lob u 6 + 1) = s by omega]
      have hscan : ∀ (mm : Int32) (K172 : Int32 → Int32 → Int32 → Option (Int32 × zM)), ∃ g, g < K ∧ u.testBit g = false ∧ Mt 46 (6 * zAl (zdr N0) m + g) + Mt 47 (u ||| 2 ^ g) = Mt 47 u ∧ f_X2_leastPlace (zu M 48 m (-1)) (nI u) (nI (zAl (zdr N0) m)) (nI K) = some (nI g) ∧ b_X11_send_193 K172 Nt mm (nI u) (nI m) 6000 0 = b_X11_send_230 K172 Nt mm (nI u) (nI g) (nI m) := by
        intro mm K172
        have h46 := hMZ 46 (by decide)
        have h47 := hMZ 47 (by decide)
        obtain ⟨g, g1, g2, g3, g4, g5, g6⟩ := scan (M := zu M 48 m (-1)) (N := Nt) (mm := mm) (K172 := K172) hK hm6 hu (w := zAl (zdr N0) m) (by omega) hk0 hf0 (by rw [h46, h47]; exact he0) (by rw [h46, h47]; exact heq) k0 0 6000 6000 (by omega) (by omega) (by omega)
        rw [h46, h47] at g4
        exact ⟨g, g2, g3, g4, by rw [f_X2_leastPlace]; exact g5, g6⟩
      obtain ⟨g, g2, g3, g4, g5, -⟩ := hscan 0 (fun _ _ _ => none)
      have hu64 : u < 64 := by have := p64 hK; omega
      have r2 := zTb.rel h t (m := m + 1) (u := u ||| 2 ^ g) (by omega) (or_lt hu g2) (by rw [lob_or u hu64 g (by omega) g3, hl, eA'])
      have hfin2 : (Mt 47 (u ||| 2 ^ g)).toInt < 100000 := by
        rcases r2 with ⟨z1, z2, z3⟩ | ⟨z1, z2⟩
        · omega
        · exfalso
          rcases t7 m (by omega) hd g g2 with ⟨y1, y2, y3⟩ | ⟨y1, y2⟩
          · rw [z1] at g4
            have : (Mt 46 (6 * zAl (zdr N0) m + g) + 100000).toInt = (Mt 46 (6 * zAl (zdr N0) m + g)).toInt + 100000 := by rw [i_add (by omega) (by omega), l1]
            rw [g4] at this; omega
          · rw [z1, y1] at g4
            rw [← g4] at e3
            exact absurd e3 (by decide)
      obtain ⟨M', a1, a2, a3, a4⟩ := ih (m + 1) n (zu (zu M 48 m (-1)) 48 m (nI g)) (u ||| 2 ^ g) (by omega) (by omega) (fun q hq => by rw [zu_row hq, zu_row hq, hM q hq]) (or_lt hu g2) (by rw [lob_or u hu64 g (by omega) g3, hl, eA']) hfin2
      rw [eA'] at a1
      refine ⟨M', ?_, a2, fun j hj => by rw [a3 j (by omega), zu_at, if_neg (by omega), zu_at, if_neg (by omega)], fun m' h1 h2 => ?_⟩
      · rw [b_X2_choose_8, hmo, if_neg hle, hput, zbn_s, hdr, zbn_s, if_pos (by decide), g5, zbn_s, hput, zbn_s, znm_e, znm_e, b_X2_choose_67, znm_e, nI_p1, nI_p1, or_bit u hu64 g (by omega)]; exact a1
      · have hstep : ∀ (j : Nat) (x5 : Int32), b_X11_send_172 Nt (nI m') (j + 1) (nI u) x5 (nI m) = b_X11_send_172 Nt (nI m') j (nI (u ||| 2 ^ g)) (nI g) (nI (m + 1)) := by
          intro j x5
          obtain ⟨g', k2, k3, k4, k5, k6⟩ := hscan (nI m') (fun x4 x5 x6 => b_X11_send_172 Nt (nI m') j x4 x5 x6)
          have eg : g' = g := by
            have := Option.some.inj (k5.symm.trans g5)
            rw [i_eq, i_nI (by omega), i_nI (by omega)] at this
            omega
          subst eg
          rw [b_X11_send_172, if_neg (hx1 m' h1 h2), hdrN, zbn_s, if_pos (by decide)]
          refine k6.trans ?_
          rw [b_X11_send_230, znm_e, b_X11_send_239, znm_e, nI_p1, or_bit u hu64 g' (by omega)]
        by_cases e : m' = m
        · subst e
          refine ⟨fun z => by rw [hd] at z; exact absurd z (by decide), fun _ j x5 hj => ?_⟩
          obtain ⟨j, rfl⟩ : ∃ k, j = k + 2 := ⟨j - 2, by omega⟩
          rw [hstep, b_X11_send_172, if_pos (by rw [nI_ltN (by omega) (by omega)]; omega), a3 m' (by omega), zu_at, if_pos ⟨rfl, rfl⟩]
        · refine ⟨(a4 m' (by omega) h2).1, fun z j x5 hj => ?_⟩
          obtain ⟨j, rfl⟩ : ∃ k, j = k + 1 := ⟨j - 1, by omega⟩
          rw [hstep]
          exact (a4 m' (by omega) h2).2 z j (nI g) (by omega)
end
