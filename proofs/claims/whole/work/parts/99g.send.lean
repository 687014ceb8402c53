section
theorem or_bit : ∀ u, u < 64 → ∀ k, k < 6 → nI u ||| ((1 : Int32) <<< (nI k &&& 31)) = nI (u ||| 2 ^ k) := by decide +kernel
theorem or_lt {u k K : Nat} (hu : u < 2 ^ K) (hk : k < K) : u ||| 2 ^ k < 2 ^ K := Nat.or_lt_two_pow hu (Nat.pow_lt_pow_right (by omega) hk)
theorem or_gt : ∀ u, u < 64 → ∀ k, k < 6 → u.testBit k = false → u < u ||| 2 ^ k := by decide +kernel
theorem lob_or : ∀ u, u < 64 → ∀ k, k < 6 → u.testBit k = false → lob (u ||| 2 ^ k) 6 = lob u 6 + 1 := by decide +kernel
theorem lob_K : ∀ K, K < 7 → ∀ u, u < 2 ^ K → lob u 6 ≤ K ∧ (lob u 6 = K → u = 2 ^ K - 1) := by decide +kernel
theorem lob_all : ∀ K, K < 7 → lob (2 ^ K - 1) 6 = K := by decide +kernel
theorem p64 {K : Nat} (h : K ≤ 6) : 2 ^ K ≤ 64 := by
  have : 2 ^ K ≤ 2 ^ 6 := Nat.pow_le_pow_right (by omega) h
  omega
def zmn (x : Int32) (c : Nat → Int32) (u : Nat) : Nat → Int32
  | 0 => x
  | i + 1 => if u.testBit i then zmn x c u i else (if c i < zmn x c u i then c i else zmn x c u i)
theorem zmn_congr {x : Int32} {c c' : Nat → Int32} {u K : Nat} (h : ∀ k, k < K → u.testBit k = false → c k = c' k) : ∀ i, i ≤ K → zmn x c u i = zmn x c' u i := by
  intro i
  induction i with
  | zero => intro _; rfl
  | succ i ih =>
    intro hi
    have e := ih (by omega)
    unfold zmn
    cases hb : u.testBit i with
    | true => simp only [if_true]; exact e
    | false => rw [e, h i (by omega) hb]
def zSwp (B : Nat) (a b : Int32) : Prop := (a = b ∧ 0 ≤ a.toInt ∧ a.toInt ≤ B) ∨ (a = 100000 ∧ b = 1000000)
def zSx (B : Nat) (a b : Int32) : Prop := (a = b ∧ 0 ≤ a.toInt ∧ a.toInt ≤ B) ∨ (100000 ≤ a.toInt ∧ b = 1000000)
theorem zSwp.x {B : Nat} {a b : Int32} (h : zSwp B a b) : zSx B a b := h.elim Or.inl (fun z => Or.inr ⟨by rw [z.1]; decide, z.2⟩)
theorem zSwp.more {B C : Nat} {a b : Int32} (h : zSwp B a b) (hb : B ≤ C) : zSwp C a b := h.elim (fun z => Or.inl ⟨z.1, z.2.1, by omega⟩) Or.inr
theorem zmn_rel {B : Nat} (hB : B < 100000) {c c' : Nat → Int32} {u K : Nat} (h : ∀ k, k < K → u.testBit k = false → zSx B (c k) (c' k)) : ∀ i, i ≤ K → zSwp B (zmn 100000 c u i) (zmn 1000000 c' u i) := by
  intro i
  have l1 : (100000 : Int32).toInt = 100000 := rfl
  have l2 : (1000000 : Int32).toInt = 1000000 := rfl
  induction i with
  | zero => exact fun _ => Or.inr ⟨rfl, rfl⟩
  | succ i ih =>
    intro hi
    have h1 := ih (by omega)
    show zSwp B (if u.testBit i then _ else _) (if u.testBit i then _ else _)
    cases hb : u.testBit i with
    | true => exact h1
    | false =>
      have h2 := h i (by omega) hb
      show zSwp B (if c i < _ then _ else _) (if c' i < _ then _ else _)
      rcases h1 with ⟨e1, e2, e3⟩ | ⟨e1, e2⟩ <;> rcases h2 with ⟨d1, d2, d3⟩ | ⟨d1, d2⟩
      · rw [← e1, ← d1]
        by_cases q : c i < zmn 100000 c u i
        · rw [if_pos q]; exact Or.inl ⟨rfl, d2, d3⟩
        · rw [if_neg q]; exact Or.inl ⟨rfl, e2, e3⟩
      · rw [if_neg (by rw [i_lt]; omega), if_neg (by rw [d2, i_lt, l2, ← e1]; omega)]; exact Or.inl ⟨e1, e2, e3⟩
      · rw [e1, e2, if_pos (by rw [i_lt, l1]; omega), if_pos (by rw [← d1, i_lt, l2]; omega)]; exact Or.inl ⟨d1, d2, d3⟩
      · rw [e1, e2, d2, if_neg (by rw [i_lt, l1]; omega), if_neg (by decide)]; exact Or.inr ⟨rfl, rfl⟩
theorem zmn_at {x : Int32} {c : Nat → Int32} {u : Nat} : ∀ i, zmn x c u i = x ∨ ∃ k, k < i ∧ u.testBit k = false ∧ c k = zmn x c u i
  | 0 => Or.inl rfl
  | i + 1 => by
    show (if u.testBit i then _ else _) = x ∨ ∃ k, k < i + 1 ∧ u.testBit k = false ∧ c k = (if u.testBit i then _ else _)
    have h := zmn_at (x := x) (c := c) (u := u) i
    cases hb : u.testBit i with
    | true => exact h.elim Or.inl (fun ⟨k, k1, k2, k3⟩ => Or.inr ⟨k, by omega, k2, k3⟩)
    | false =>
      show (if c i < zmn x c u i then c i else zmn x c u i) = x ∨ ∃ k, k < i + 1 ∧ u.testBit k = false ∧ c k = (if c i < zmn x c u i then c i else zmn x c u i)
      by_cases q : c i < zmn x c u i
      · rw [if_pos q]; exact Or.inr ⟨i, by omega, hb, rfl⟩
      · rw [if_neg q]; exact h.elim Or.inl (fun ⟨k, k1, k2, k3⟩ => Or.inr ⟨k, by omega, k2, k3⟩)
def zFv (K : Nat) (hc : Nat → Nat → Int32) : Nat → Nat → Int32
  | 0, _ => 0
  | r + 1, u => zmn 100000 (fun k => hc (K - (r + 1)) k + zFv K hc r (u ||| 2 ^ k)) u K
def zlb (h x : Int32) : Int32 := if h + x < 1000000 then h + x else 1000000
def zLv (Mn K : Nat) (dr : Nat → Bool) (hr : Nat → Nat → Int32) : Nat → Nat → Int32
  | 0, _ => 0
  | r + 1, u => if dr (Mn - (r + 1)) then zLv Mn K dr hr r u else zmn 1000000 (fun k => zlb (hr (Mn - (r + 1)) k) (zLv Mn K dr hr r (u ||| 2 ^ k))) u K
theorem zFv_S {K : Nat} {hc : Nat → Nat → Int32} {r u : Nat} : zFv K hc (r + 1) u = zmn 100000 (fun k => hc (K - (r + 1)) k + zFv K hc r (u ||| 2 ^ k)) u K := rfl
theorem zLv_S {Mn K : Nat} {dr : Nat → Bool} {hr : Nat → Nat → Int32} {r u : Nat} : zLv Mn K dr hr (r + 1) u = if dr (Mn - (r + 1)) then zLv Mn K dr hr r u else zmn 1000000 (fun k => zlb (hr (Mn - (r + 1)) k) (zLv Mn K dr hr r (u ||| 2 ^ k))) u K := rfl
def zAl (dr : Nat → Bool) : Nat → Nat
  | 0 => 0
  | m + 1 => zAl dr m + (if dr m then 0 else 1)
theorem add_rel {B : Nat} (hB : B ≤ 90000) {a b x y : Int32} (h : (a = b ∧ 0 ≤ a.toInt ∧ a.toInt ≤ 60) ∨ (a = 100000 ∧ b = 1000000)) (h2 : zSwp B x y) : zSx (B + 60) (a + x) (zlb b y) := by
  have l1 : (100000 : Int32).toInt = 100000 := rfl
  have l2 : (1000000 : Int32).toInt = 1000000 := rfl
  unfold zlb
  rcases h with ⟨rfl, h1, h3⟩ | ⟨rfl, rfl⟩ <;> rcases h2 with ⟨rfl, d1, d2⟩ | ⟨rfl, rfl⟩
  · have e : (a + x).toInt = a.toInt + x.toInt := i_add (by omega) (by omega)
    rw [if_pos (by rw [i_lt, e, l2]; omega)]
    exact Or.inl ⟨rfl, by omega, by omega⟩
  · have e : (a + 100000).toInt = a.toInt + 100000 := by rw [i_add (by omega) (by omega), l1]
    have e2 : (a + 1000000).toInt = a.toInt + 1000000 := by rw [i_add (by omega) (by omega), l2]
    rw [if_neg (by rw [i_lt, e2, l2]; omega)]
    exact Or.inr ⟨by omega, rfl⟩
  · have e : (100000 + x).toInt = 100000 + x.toInt := by rw [i_add (by omega) (by omega), l1]
    have e2 : (1000000 + x).toInt = 1000000 + x.toInt := by rw [i_add (by omega) (by omega), l2]
    rw [if_neg (by rw [i_lt, e2, l2]; omega)]
    exact Or.inr ⟨by omega, rfl⟩
  · rw [if_neg (by decide)]
    exact Or.inr ⟨by decide, rfl⟩
theorem tab_rel {Mn K : Nat} (hMn : Mn ≤ 6) (hK : K ≤ 6) {dr : Nat → Bool} {hc hr : Nat → Nat → Int32} (hA : zAl dr Mn = K) (hh : ∀ m, m < Mn → dr m = false → ∀ k, k < K → (hc (zAl dr m) k = hr m k ∧ 0 ≤ (hc (zAl dr m) k).toInt ∧ (hc (zAl dr m) k).toInt ≤ 60) ∨ (hc (zAl dr m) k = 100000 ∧ hr m k = 1000000)) : ∀ r m, m + r = Mn → zAl dr m ≤ K ∧ ∀ u, u < 2 ^ K → lob u 6 = zAl dr m → zSwp (60 * r) (zFv K hc (K - zAl dr m) u) (zLv Mn K dr hr r u) := by
  intro r
  induction r with
  | zero =>
    intro m hm
    have e : m = Mn := by omega
    subst e
    rw [hA]
    refine ⟨Nat.le_refl _, fun u _ _ => ?_⟩
    rw [Nat.sub_self]
    show zSwp (60 * 0) (0 : Int32) (0 : Int32)
    exact Or.inl ⟨rfl, by decide, by decide⟩
  | succ r ih =>
    intro m hm
    obtain ⟨i1, i2⟩ := ih (m + 1) (by omega)
    have eA : zAl dr (m + 1) = zAl dr m + (if dr m then 0 else 1) := rfl
    have em : Mn - (r + 1) = m := by omega
    cases hd : dr m with
    | true =>
      rw [hd] at eA
      simp only [if_true, Nat.add_zero] at eA
      rw [eA] at i1 i2
      refine ⟨i1, fun u hu hl => ?_⟩
      rw [zLv_S, em, hd, if_pos rfl]
      exact (i2 u hu hl).more (by omega)
    | false =>
      rw [hd] at eA
      have eA' : zAl dr (m + 1) = zAl dr m + 1 := eA
      rw [eA'] at i1 i2
      refine ⟨by omega, fun u hu hl => ?_⟩
      have hu64 : u < 64 := by have := p64 hK; omega
      obtain ⟨s, hs⟩ : ∃ s, K - zAl dr m = s + 1 := ⟨K - zAl dr m - 1, by omega⟩
      have ew : K - (s + 1) = zAl dr m := by omega
      rw [zLv_S, em, hd, if_neg (by decide), hs, zFv_S, ew]
      refine zmn_rel (by omega) (fun k hk hf => ?_) K (Nat.le_refl _)
      have h1 := hh m (by omega) hd k hk
      have h2 := i2 (u ||| 2 ^ k) (or_lt hu hk) (by rw [lob_or u hu64 k (by omega) hf, hl])
      rw [show K - (zAl dr m + 1) = s by omega] at h2
      have := add_rel (B := 60 * r) (by omega) h1 h2
      rw [show 60 * r + 60 = 60 * (r + 1) by omega] at this
      exact this
end
