section
variable {T : Int} {M0 N0 : zM} {K Mn : Nat} {tp : Nat → Nat}
def zSd (T : Int) (M0 N0 : zM) (K Mn : Nat) (tp : Nat → Nat) : Prop := zWr T M0 3 (N0 1) ∧ zOk (N0 1) ∧ zLk M0 (N0 1) ∧ N0 1 0 = nI Mn ∧ Mn ≤ 6 ∧ K ≤ 6 ∧ (∀ k, k < K → tp k < 12 ∧ M0 2 k = nI (tp k) ∧ N0 6 k = nI (tp k))
def zdr (N0 : zM) (m : Nat) : Bool := decide (N0 1 (42 + 5 * m) = 1)
def zha (M0 : zM) (tp : Nat → Nat) (m k : Nat) : Int32 := (f_X8_hoursOfMonk M0 3 (nI m) (nI (tp k))).getD 0
def zhb (N0 : zM) (tp : Nat → Nat) (m k : Nat) : Int32 := (f_X11_comesTo N0 (nI m) (nI (tp k))).getD 0
def zhc (M0 : zM) (tp : Nat → Nat) (m k : Nat) : Int32 := if zha M0 tp m k = -1 then 100000 else zha M0 tp m k
theorem zWy.left {a a' b : Int32} (h : zWy a b) (h' : zWy a' b) : a = a' := by
  have lm : (1000000 : Int32).toInt = 1000000 := rfl
  rcases h with ⟨rfl, h1, h2⟩ | ⟨rfl, rfl⟩ <;> rcases h' with ⟨rfl, k1, k2⟩ | ⟨rfl, z⟩
  · rfl
  · rw [z] at h2; rw [lm] at h2; omega
  · rw [lm] at k2; omega
  · rfl
theorem zWy.right {a b b' : Int32} (h : zWy a b) (h' : zWy a b') : b = b' := by
  have lm : (-1 : Int32).toInt = -1 := rfl
  rcases h with ⟨rfl, h1, h2⟩ | ⟨rfl, rfl⟩ <;> rcases h' with ⟨rfl, k1, k2⟩ | ⟨z, z2⟩
  · rfl
  · rw [z, lm] at h1; omega
  · rw [lm] at k1; omega
  · exact z2.symm
theorem zSd.come (h : zSd T M0 N0 K Mn tp) {m k : Nat} (hm : m < 6) (hk : k < K) : f_X8_hoursOfMonk M0 3 (nI m) (nI (tp k)) = some (zha M0 tp m k) ∧ f_X11_comesTo N0 (nI m) (nI (tp k)) = some (zhb N0 tp m k) ∧ zWy (zha M0 tp m k) (zhb N0 tp m k) := by
  obtain ⟨h1, h2, h3, h4, h5, h6, h7⟩ := h
  obtain ⟨a, b, c1, c2, c3⟩ := s_come (k := 3) xw_3 h1 h2 h3 hm (h7 k hk).1
  have ea : zha M0 tp m k = a := by unfold zha; rw [c1]; rfl
  have eb : zhb N0 tp m k = b := by unfold zhb; rw [c2]; rfl
  rw [ea, eb]; exact ⟨c1, c2, c3⟩
theorem zSd.comeX (h : zSd T M0 N0 K Mn tp) {M : zM} (hM : ∀ q, q ≠ 46 → q ≠ 47 → q ≠ 48 → M q = M0 q) {m k : Nat} (hm : m < 6) (hk : k < K) : f_X8_hoursOfMonk M 3 (nI m) (nI (tp k)) = some (zha M0 tp m k) := by
  have hc := (h.come hm hk).2
  obtain ⟨h1, h2, h3, h4, h5, h6, h7⟩ := h
  obtain ⟨a, b, c1, c2, c3⟩ := s_come (M := M) (N := N0) (k := 3) xw_3 (h1.eq6 (fun q _ _ => hM q (by omega) (by omega) (by omega))) h2 (by unfold zLk; rw [hM 44 (by decide) (by decide) (by decide)]; exact h3) hm (h7 k hk).1
  have eb : b = zhb N0 tp m k := Option.some.inj (c2.symm.trans hc.1)
  rw [eb] at c3
  rw [c1, c3.left hc.2]
theorem zSd.comeR (h : zSd T M0 N0 K Mn tp) {N : zM} (hN : N 1 = N0 1) {m k : Nat} (hm : m < 6) (hk : k < K) : f_X11_comesTo N (nI m) (nI (tp k)) = some (zhb N0 tp m k) := by
  have hc := h.come hm hk
  obtain ⟨h1, h2, h3, h4, h5, h6, h7⟩ := h
  obtain ⟨a, b, c1, c2, c3⟩ := s_come (M := M0) (N := N) (k := 3) xw_3 (by rw [hN]; exact h1) (by rw [hN]; exact h2) (by rw [hN]; exact h3) hm (h7 k hk).1
  have ea : a = zha M0 tp m k := Option.some.inj (c1.symm.trans hc.1)
  rw [ea] at c3
  rw [c2, c3.right hc.2.2]
theorem zSd.drX (h : zSd T M0 N0 K Mn tp) {M : zM} (hM : ∀ q, q ≠ 46 → q ≠ 47 → q ≠ 48 → M q = M0 q) {m : Nat} (hm : m < 6) : f_X9_isDrowned M 3 (nI m) = some (if zdr N0 m then 1 else 0) := by
  rw [x_isDrowned (h.1.eq6 (fun q _ _ => hM q (by omega) (by omega) (by omega))) h.2.1 hm]
  rcases h.2.1.m01 hm with z | z <;> simp [zdr, z]
theorem zSd.drR (h : zSd T M0 N0 K Mn tp) {N : zM} (hN : N 1 = N0 1) {m : Nat} (hm : m < 6) : f_X11_isDrowned N (nI m) = some (if zdr N0 m then 1 else 0) := by
  rw [r_isDrowned' (by rw [hN]; exact h.2.1) hm, hN]
  rcases h.2.1.m01 hm with z | z <;> simp [zdr, z]
theorem meas_in (h : zSd T M0 N0 K Mn tp) {m w : Nat} (hm : m < 6) (hw : w < 6) {K14 : zM → Int32 → Int32 → Option zM} : ∀ (d i n : Nat) (M : zM), i + d = K → d < n → (∀ q, q ≠ 46 → M q = M0 q) → ∃ M', b_X2_measure_35 K14 3 2 (nI K) (nI w) (nI m) n M (nI i) = K14 M' (nI (w + 1)) (nI (m + 1)) ∧ (∀ q, q ≠ 46 → M' q = M0 q) ∧ (∀ j, M' 46 j = if 6 * w + i ≤ j ∧ j < 6 * w + K then zhc M0 tp m (j - 6 * w) else M 46 j) := by
  intro d
  have hK := h.2.2.2.2.2.1
  induction d with
  | zero =>
    intro i n M hi hn hM
    obtain ⟨n, rfl⟩ : ∃ k, n = k + 1 := ⟨n - 1, by omega⟩
    have e : i = K := by omega
    subst e
    exact ⟨M, by rw [b_X2_measure_35, if_pos (by rw [i_le]; omega), b_X2_measure_93, znm_e, b_X2_measure_96, znm_e, nI_p1, nI_p1], hM, fun j => by rw [if_neg (by omega)]⟩
  | succ d ih =>
    intro i n M hi hn hM
    obtain ⟨n, rfl⟩ : ∃ k, n = k + 1 := ⟨n - 1, by omega⟩
    have hle : ¬ nI K ≤ nI i := by rw [nI_leN (by omega) (by omega)]; omega
    have hat : f_X10_at M 2 (nI i) = some (nI (tp i)) := by rw [x_at (n := 400) (by decide +kernel) (by omega) (by omega), hM 2 (by decide), (h.2.2.2.2.2.2 i (by omega)).2.1]
    have hcm := h.comeX (M := M) (fun q h1 _ _ => hM q h1) hm (show i < K by omega)
    have eidx : nI w * 6 + nI i = nI (6 * w + i) := by rw [show (6 : Int32) = nI 6 from rfl, nI_mul, nI_add, Nat.mul_comm]
    obtain ⟨M', a1, a2, a3⟩ := ih (i + 1) n (zu M 46 (6 * w + i) (zhc M0 tp m i)) (by omega) (by omega) (fun q hq => by rw [zu_row hq, hM q hq])
    refine ⟨M', ?_, a2, fun j => ?_⟩
    · have hput : ∀ v, f_X10_put M 46 (nI (6 * w + i)) v = some (zu M 46 (6 * w + i) v) := fun v => x_put (n := 36) (by decide +kernel) (by omega) (by omega)
      rw [b_X2_measure_35, if_neg hle, hat, zbn_s, hcm, zbn_s, b_X2_measure_84, b_X2_measure_84, eidx, hput, hput, zbn_s, zbn_s, znm_e, znm_e, nI_p1]
      unfold zhc at a1
      by_cases q : zha M0 tp m i = -1
      · rw [if_pos q]; rw [if_pos q] at a1; exact a1
      · rw [if_neg q]; rw [if_neg q] at a1; exact a1
    · rw [a3 j, zu_at]
      by_cases q : 6 * w + i ≤ j ∧ j < 6 * w + K
      · rw [if_pos q]
        by_cases q2 : j = 6 * w + i
        · subst q2; rw [if_neg (by omega), if_pos ⟨rfl, rfl⟩, show 6 * w + i - 6 * w = i by omega]
        · rw [if_pos (by omega)]
      · rw [if_neg q, if_neg (by omega), if_neg (by omega)]
theorem zAl_le (dr : Nat → Bool) : ∀ m, zAl dr m ≤ m
  | 0 => Nat.le_refl _
  | m + 1 => by
    have := zAl_le dr m
    show zAl dr m + _ ≤ m + 1
    split <;> omega
theorem zAl_mono (dr : Nat → Bool) {m : Nat} (hd : dr m = false) : ∀ d, zAl dr m + 1 ≤ zAl dr (m + 1 + d)
  | 0 => by show _ ≤ zAl dr m + _; rw [hd]; simp
  | d + 1 => by
    have := zAl_mono dr hd d
    show _ ≤ zAl dr (m + 1 + d) + _
    omega
theorem meas_out (h : zSd T M0 N0 K Mn tp) : ∀ (d m n : Nat) (M : zM), m + d = Mn → d < n → (∀ q, q ≠ 46 → M q = M0 q) → ∃ M', b_X2_measure_14 3 2 (nI K) n M (nI (zAl (zdr N0) m)) (nI m) = some M' ∧ (∀ q, q ≠ 46 → M' q = M0 q) ∧ (∀ j, j < 6 * zAl (zdr N0) m → M' 46 j = M 46 j) ∧ (∀ m', m ≤ m' → m' < Mn → zdr N0 m' = false → ∀ k, k < K → M' 46 (6 * zAl (zdr N0) m' + k) = zhc M0 tp m' k) := by
  intro d
  have hMn := h.2.2.2.2.1
  have hK := h.2.2.2.2.2.1
  induction d with
  | zero =>
    intro m n M hi hn hM
    obtain ⟨n, rfl⟩ : ∃ k, n = k + 1 := ⟨n - 1, by omega⟩
    have e : m = Mn := by omega
    subst e
    have hmo : M 3 10 = nI m := by rw [hM 3 (by decide), h.1.monks, h.2.2.2.1]
    exact ⟨M, by rw [b_X2_measure_14, hmo, if_pos (by rw [i_le]; omega)], hM, fun _ _ => rfl, fun m' h1 h2 => by omega⟩
  | succ d ih =>
    intro m n M hi hn hM
    obtain ⟨n, rfl⟩ : ∃ k, n = k + 1 := ⟨n - 1, by omega⟩
    have hm6 : m < 6 := by omega
    have hmo : M 3 10 = nI Mn := by rw [hM 3 (by decide), h.1.monks, h.2.2.2.1]
    have hle : ¬ nI Mn ≤ nI m := by rw [nI_leN (by omega) (by omega)]; omega
    have hdr := h.drX (M := M) (fun q h1 _ _ => hM q h1) hm6
    have eA : zAl (zdr N0) (m + 1) = zAl (zdr N0) m + (if zdr N0 m then 0 else 1) := rfl
    have hAle := zAl_le (zdr N0) m
    cases hd : zdr N0 m with
    | true =>
      rw [hd] at eA hdr
      have eA' : zAl (zdr N0) (m + 1) = zAl (zdr N0) m := eA
      obtain ⟨M', a1, a2, a3, a4⟩ := ih (m + 1) n M (by omega) (by omega) hM
      rw [eA'] at a1 a3
      refine ⟨M', ?_, a2, a3, fun m' h1 h2 h3 => ?_⟩
      · rw [b_X2_measure_14, hmo, if_neg hle, hdr, zbn_s, if_neg (by decide), b_X2_measure_96, znm_e, nI_p1]; exact a1
      · by_cases e : m' = m
        · rw [e, hd] at h3; exact absurd h3 (by decide)
        · exact a4 m' (by omega) h2 h3
    | false =>
      rw [hd] at eA hdr
      have eA' : zAl (zdr N0) (m + 1) = zAl (zdr N0) m + 1 := eA
      obtain ⟨M1, b1, b2, b3⟩ := meas_in h hm6 (w := zAl (zdr N0) m) (by omega) (K14 := fun M x4 x5 => b_X2_measure_14 3 2 (nI K) n M x4 x5) K 0 6000 M (by omega) (by omega) hM
      obtain ⟨M', a1, a2, a3, a4⟩ := ih (m + 1) n M1 (by omega) (by omega) b2
      rw [eA'] at a1 a3
      refine ⟨M', ?_, a2, fun j hj => ?_, fun m' h1 h2 h3 => ?_⟩
      · rw [b_X2_measure_14, hmo, if_neg hle, hdr, zbn_s, if_pos (by decide)]
        exact b1.trans a1
      · rw [a3 j (by omega), b3 j, if_neg (by omega)]
      · by_cases e : m' = m
        · subst e
          intro k hk
          rw [a3 _ (by omega), b3 _, if_pos (by omega)]
          congr 1; omega
        · exact a4 m' (by omega) h2 h3
theorem dp_in {M : zM} (hK : K ≤ 6) {u : Nat} (hu : u < 2 ^ K) (hl : lob u 6 < K) {K30 : zM → Int32 → Option (Int32 × zM)} : ∀ (d i n : Nat), i + d = K → d < n → b_X2_sendAll_49 K30 3 2 M (nI K) (nI u) (nI (lob u 6)) n (zmn 100000 (fun k => M 46 (6 * lob u 6 + k) + M 47 (u ||| 2 ^ k)) u i) (nI i) = b_X2_sendAll_88 K30 3 2 M (nI K) (nI u) (zmn 100000 (fun k => M 46 (6 * lob u 6 + k) + M 47 (u ||| 2 ^ k)) u K) := by
  intro d
  have hu64 : u < 64 := by have := p64 hK; omega
  induction d with
  | zero =>
    intro i n hi hn
    obtain ⟨n, rfl⟩ : ∃ k, n = k + 1 := ⟨n - 1, by omega⟩
    have e : i = K := by omega
    subst e
    rw [b_X2_sendAll_49, if_pos (by rw [i_le]; omega)]
  | succ d ih =>
    intro i n hi hn
    obtain ⟨n, rfl⟩ : ∃ k, n = k + 1 := ⟨n - 1, by omega⟩
    have hle : ¬ nI K ≤ nI i := by rw [nI_leN (by omega) (by omega)]; omega
    have hn2 := ih (i + 1) n (by omega) (by omega)
    have hob := or_lt hu (show i < K by omega)
    have hob64 : u ||| 2 ^ i < 64 := by have := p64 hK; omega
    have eidx : nI (lob u 6) * 6 + nI i = nI (6 * lob u 6 + i) := by rw [show (6 : Int32) = nI 6 from rfl, nI_mul, nI_add, Nat.mul_comm]
    have hby : f_X2_hoursBy M (nI u) (nI (lob u 6)) (nI i) = some (M 46 (6 * lob u 6 + i) + M 47 (u ||| 2 ^ i)) := by
      rw [f_X2_hoursBy, eidx, x_at (n := 36) (by decide +kernel) (by omega) (by omega), zbn_s, or_bit u hu64 i (by omega), x_at (n := 64) (by decide +kernel) (by omega) hob64, zbn_s]
    rw [b_X2_sendAll_49, if_neg hle, x_has _ (by omega), zbn_s, tb_nI (by omega)]
    have ez : zmn 100000 (fun k => M 46 (6 * lob u 6 + k) + M 47 (u ||| 2 ^ k)) u (i + 1) = if u.testBit i then zmn 100000 (fun k => M 46 (6 * lob u 6 + k) + M 47 (u ||| 2 ^ k)) u i else (if (M 46 (6 * lob u 6 + i) + M 47 (u ||| 2 ^ i)) < zmn 100000 (fun k => M 46 (6 * lob u 6 + k) + M 47 (u ||| 2 ^ k)) u i then (M 46 (6 * lob u 6 + i) + M 47 (u ||| 2 ^ i)) else zmn 100000 (fun k => M 46 (6 * lob u 6 + k) + M 47 (u ||| 2 ^ k)) u i) := rfl
    rw [ez] at hn2
    cases hb : u.testBit i with
    | true =>
      rw [hb, if_pos rfl] at hn2
      rw [if_neg (by decide), b_X2_sendAll_82, znm_e, nI_p1]; exact hn2
    | false =>
      rw [hb, if_neg (by decide)] at hn2
      rw [if_pos (by decide), hby, zbn_s, znm_e, b_X2_sendAll_82, znm_e, nI_p1]; exact hn2
theorem dp_out (hK : K ≤ 6) : ∀ (v n : Nat) (M : zM), v ≤ 2 ^ K - 1 → v < n → (∀ u, v ≤ u → u < 2 ^ K → M 47 u = zFv K (fun w k => M 46 (6 * w + k)) (K - lob u 6) u) → ∃ M', b_X2_sendAll_30 3 2 (nI K) n M (nI v - 1) = b_X2_sendAll_105 3 2 M' (nI K) ∧ (∀ q, q ≠ 47 → M' q = M q) ∧ (∀ u, u < 2 ^ K → M' 47 u = zFv K (fun w k => M 46 (6 * w + k)) (K - lob u 6) u) := by
  intro v
  have h64 := p64 hK
  induction v with
  | zero =>
    intro n M hv hn hz
    obtain ⟨n, rfl⟩ : ∃ k, n = k + 1 := ⟨n - 1, by omega⟩
    exact ⟨M, by rw [b_X2_sendAll_30, if_pos (by decide)], fun _ _ => rfl, fun u hu => hz u (by omega) hu⟩
  | succ v ih =>
    intro n M hv hn hz
    obtain ⟨n, rfl⟩ : ∃ k, n = k + 1 := ⟨n - 1, by omega⟩
    have hv2 : v < 2 ^ K := by omega
    obtain ⟨lk1, lk2⟩ := lob_K K (by omega) v hv2
    have hlt : lob v 6 < K := by
      by_cases e : lob v 6 = K
      · have := lk2 e; omega
      · omega
    obtain ⟨s, hs⟩ : ∃ s, K - lob v 6 = s + 1 := ⟨K - lob v 6 - 1, by omega⟩
    have eF : zmn 100000 (fun k => M 46 (6 * lob v 6 + k) + M 47 (v ||| 2 ^ k)) v K = zFv K (fun w k => M 46 (6 * w + k)) (K - lob v 6) v := by
      rw [hs, zFv_S, show K - (s + 1) = lob v 6 by omega]
      refine zmn_congr (fun k hk hb => ?_) K (Nat.le_refl _)
      have hgt := or_gt v (by omega) k (by omega) hb
      have hlo := lob_or v (by omega) k (by omega) hb
      have := hz (v ||| 2 ^ k) (by omega) (or_lt hv2 hk)
      rw [hlo, show K - (lob v 6 + 1) = s by omega] at this
      rw [this]
    obtain ⟨M', a1, a2, a3⟩ := ih n (zu M 47 v (zFv K (fun w k => M 46 (6 * w + k)) (K - lob v 6) v)) (by omega) (by omega) (fun u h1 h2 => by
      rw [zu_at]
      by_cases e : u = v
      · rw [if_pos ⟨rfl, e⟩, e, zu_row (by decide)]
      · rw [if_neg (fun z => e z.2), zu_row (by decide)]; exact hz u (by omega) h2)
    rw [zu_row (by decide)] at a3
    refine ⟨M', ?_, fun q hq => by rw [a2 q hq, zu_row hq], a3⟩
    have hin := dp_in (M := M) hK hv2 hlt (K30 := fun M x5 => b_X2_sendAll_30 3 2 (nI K) n M x5) K 0 6000 (by omega) (by omega)
    have ez0 : zmn 100000 (fun k => M 46 (6 * lob v 6 + k) + M 47 (v ||| 2 ^ k)) v 0 = 100000 := rfl
    rw [ez0, show nI 0 = 0 from rfl] at hin
    rw [nI_m1, b_X2_sendAll_30, if_neg (by rw [i_lt, i_nI (by omega), i_lit0]; omega), bc_e, bc_lob 6 (by omega) v (by omega), zbn_s, hin, b_X2_sendAll_88, eF, x_put (n := 64) (by decide +kernel) (by omega) (by omega), zbn_s, znm_e, i_m1]
    exact a1
end
