section
variable {T : Int} {M : zM} {k : Nat} {w : Nat → Int32}
theorem zWr.putM (h : zWr T M k w) {m c : Nat} (hm : m < 6) (hc : c < 4) (v : Int32) : zWr T (zu M (k + 3) (4 * m + c) v) k (upd w (38 + 5 * m + c) v) := by
  obtain ⟨a, ⟨b1, b2⟩, c1, d1, d2, d3, d4, d5⟩ := h
  have hw : ∀ i, i < 38 ∨ 68 ≤ i → upd w (38 + 5 * m + c) v i = w i := fun i hi => by rw [upd_at, if_neg (by omega)]
  have e0 : zu M (k + 3) (4 * m + c) v k = M k := zu_row (by omega)
  unfold zWr
  rw [e0]
  refine ⟨?_, ⟨fun j hj => ?_, fun j hj => ?_⟩, ?_, fun p hp => ?_, fun p hp => ?_, fun m' hm' c' hc' => ?_, fun m' hm' c' hc' => ?_, fun a ha hl => ?_⟩
  · simp only [hw 4 (by omega), hw 9 (by omega), hw 13 (by omega), hw 10 (by omega), hw 11 (by omega), hw 5 (by omega), hw 6 (by omega), hw 7 (by omega), hw 8 (by omega), hw 2 (by omega), hw 0 (by omega), hw 1 (by omega)]; exact a
  · rw [b1 j hj]
    show decide (j < 6 ∧ w (42 + 5 * j) = 1) = decide (j < 6 ∧ upd w (38 + 5 * m + c) v (42 + 5 * j) = 1)
    rw [upd_at, if_neg (by omega)]
  · rw [b2 j hj]; simp only [hw (71 + 4 * j) (by omega)]
  · rw [hw 12 (by omega)]; exact c1
  · rw [zu_row (by omega), hw _ (by omega)]; exact d1 p hp
  · rw [zu_row (by omega), hw _ (by omega)]; exact d2 p hp
  · rw [zu_at, upd_at]
    by_cases e : m' = m ∧ c' = c
    · rw [if_pos (by omega), if_pos (by omega)]
    · rw [if_neg (by omega), if_neg (by omega)]; exact d3 m' hm' c' hc'
  · rw [zu_row (by omega), hw _ (by omega)]; exact d4 m' hm' c' hc'
  · rw [zu_row (by omega), hw _ (by omega), hw _ (by omega), hw _ (by omega), hw _ (by omega)]; exact d5 a ha hl
theorem zWr.putE (h : zWr T M k w) {p : Nat} (hp : p < 12) (v : Int32) : zWr T (zu M (k + 2) p v) k (upd w (26 + p) v) := by
  obtain ⟨a, ⟨b1, b2⟩, c1, d1, d2, d3, d4, d5⟩ := h
  have hw : ∀ i, i < 26 ∨ 38 ≤ i → upd w (26 + p) v i = w i := fun i hi => by rw [upd_at, if_neg (by omega)]
  have e0 : zu M (k + 2) p v k = M k := zu_row (by omega)
  unfold zWr
  rw [e0]
  refine ⟨?_, ⟨fun j hj => ?_, fun j hj => ?_⟩, ?_, fun p' hp' => ?_, fun p' hp' => ?_, fun m' hm' c' hc' => ?_, fun m' hm' c' hc' => ?_, fun a ha hl => ?_⟩
  · simp only [hw 4 (by omega), hw 9 (by omega), hw 13 (by omega), hw 10 (by omega), hw 11 (by omega), hw 5 (by omega), hw 6 (by omega), hw 7 (by omega), hw 8 (by omega), hw 2 (by omega), hw 0 (by omega), hw 1 (by omega)]; exact a
  · rw [b1 j hj]; simp only [hw (42 + 5 * j) (by omega)]
  · rw [b2 j hj]; simp only [hw (71 + 4 * j) (by omega)]
  · rw [hw 12 (by omega)]; exact c1
  · rw [zu_row (by omega), hw _ (by omega)]; exact d1 p' hp'
  · rw [zu_at, upd_at]
    by_cases e : p' = p
    · rw [if_pos (by omega), if_pos (by omega)]
    · rw [if_neg (by omega), if_neg (by omega)]; exact d2 p' hp'
  · rw [zu_row (by omega), hw _ (by omega)]; exact d3 m' hm' c' hc'
  · rw [zu_row (by omega), hw _ (by omega)]; exact d4 m' hm' c' hc'
  · rw [zu_row (by omega), hw _ (by omega), hw _ (by omega), hw _ (by omega), hw _ (by omega)]; exact d5 a ha hl
theorem zWr.putG (h : zWr T M k w) {p : Nat} (hp : p < 12) (v : Int32) : zWr T (zu M (k + 1) p v) k (upd w (14 + p) v) := by
  obtain ⟨a, ⟨b1, b2⟩, c1, d1, d2, d3, d4, d5⟩ := h
  have hw : ∀ i, i < 14 ∨ 26 ≤ i → upd w (14 + p) v i = w i := fun i hi => by rw [upd_at, if_neg (by omega)]
  have e0 : zu M (k + 1) p v k = M k := zu_row (by omega)
  unfold zWr
  rw [e0]
  refine ⟨?_, ⟨fun j hj => ?_, fun j hj => ?_⟩, ?_, fun p' hp' => ?_, fun p' hp' => ?_, fun m' hm' c' hc' => ?_, fun m' hm' c' hc' => ?_, fun a ha hl => ?_⟩
  · simp only [hw 4 (by omega), hw 9 (by omega), hw 13 (by omega), hw 10 (by omega), hw 11 (by omega), hw 5 (by omega), hw 6 (by omega), hw 7 (by omega), hw 8 (by omega), hw 2 (by omega), hw 0 (by omega), hw 1 (by omega)]; exact a
  · rw [b1 j hj]; simp only [hw (42 + 5 * j) (by omega)]
  · rw [b2 j hj]; simp only [hw (71 + 4 * j) (by omega)]
  · rw [hw 12 (by omega)]; exact c1
  · rw [zu_at, upd_at]
    by_cases e : p' = p
    · rw [if_pos (by omega), if_pos (by omega)]
    · rw [if_neg (by omega), if_neg (by omega)]; exact d1 p' hp'
  · rw [zu_row (by omega), hw _ (by omega)]; exact d2 p' hp'
  · rw [zu_row (by omega), hw _ (by omega)]; exact d3 m' hm' c' hc'
  · rw [zu_row (by omega), hw _ (by omega)]; exact d4 m' hm' c' hc'
  · rw [zu_row (by omega), hw _ (by omega), hw _ (by omega), hw _ (by omega), hw _ (by omega)]; exact d5 a ha hl
theorem zWr.putD (h : zWr T M k w) {m c : Nat} (hm : m < 6) (hc : c < 3) (v : Int32) : zWr T (zu M (k + 4) (3 * m + c) v) k (upd w (68 + 4 * m + c) v) := by
  obtain ⟨a, ⟨b1, b2⟩, c1, d1, d2, d3, d4, d5⟩ := h
  have hw : ∀ i, i < 68 ∨ 92 ≤ i → upd w (68 + 4 * m + c) v i = w i := fun i hi => by rw [upd_at, if_neg (by omega)]
  have e0 : zu M (k + 4) (3 * m + c) v k = M k := zu_row (by omega)
  unfold zWr
  rw [e0]
  refine ⟨?_, ⟨fun j hj => ?_, fun j hj => ?_⟩, ?_, fun p hp => ?_, fun p hp => ?_, fun m' hm' c' hc' => ?_, fun m' hm' c' hc' => ?_, fun a ha hl => ?_⟩
  · simp only [hw 4 (by omega), hw 9 (by omega), hw 13 (by omega), hw 10 (by omega), hw 11 (by omega), hw 5 (by omega), hw 6 (by omega), hw 7 (by omega), hw 8 (by omega), hw 2 (by omega), hw 0 (by omega), hw 1 (by omega)]; exact a
  · rw [b1 j hj]
    by_cases q : j < 6
    · simp only [hw (42 + 5 * j) (by omega)]
    · simp [q]
  · rw [b2 j hj]
    show decide (j < 6 ∧ w (71 + 4 * j) = 1) = decide (j < 6 ∧ upd w (68 + 4 * m + c) v (71 + 4 * j) = 1)
    rw [upd_at, if_neg (by omega)]
  · rw [hw 12 (by omega)]; exact c1
  · rw [zu_row (by omega), hw _ (by omega)]; exact d1 p hp
  · rw [zu_row (by omega), hw _ (by omega)]; exact d2 p hp
  · rw [zu_row (by omega), hw _ (by omega)]; exact d3 m' hm' c' hc'
  · rw [zu_at, upd_at]
    by_cases e : m' = m ∧ c' = c
    · rw [if_pos (by omega), if_pos (by omega)]
    · rw [if_neg (by omega), if_neg (by omega)]; exact d4 m' hm' c' hc'
  · rw [zu_row (by omega), hw _ (by omega), hw _ (by omega), hw _ (by omega), hw _ (by omega)]; exact d5 a ha hl
theorem zWr.putK (h : zWr T M k w) {d : Nat} (hd : d < 6) {v b : Int32} (hv : ∀ j, j < 32 → tb v j = if j = d then decide (b = 1) else tb (M k 13) j) : zWr T (zu M k 13 v) k (upd w (71 + 4 * d) b) := by
  obtain ⟨a, ⟨b1, b2⟩, c1, d1, d2, d3, d4, d5⟩ := h
  have hw : ∀ i, i ≠ 71 + 4 * d → upd w (71 + 4 * d) b i = w i := fun i hi => by rw [upd_at, if_neg hi]
  have hk : ∀ i, i ≠ 13 → zu M k 13 v k i = M k i := fun i hi => by rw [zu_at, if_neg (by omega)]
  have hr : ∀ i, zu M k 13 v (k + 1 + i) = M (k + 1 + i) := fun i => zu_row (by omega)
  refine ⟨?_, ⟨fun j hj => ?_, fun j hj => ?_⟩, ?_, fun p hp => ?_, fun p hp => ?_, fun m' hm' c' hc' => ?_, fun m' hm' c' hc' => ?_, fun a ha hl => ?_⟩
  · simp only [hw 4 (by omega), hw 9 (by omega), hw 13 (by omega), hw 10 (by omega), hw 11 (by omega), hw 5 (by omega), hw 6 (by omega), hw 7 (by omega), hw 8 (by omega), hw 2 (by omega), hw 0 (by omega), hw 1 (by omega), hk 0 (by omega), hk 1 (by omega), hk 2 (by omega), hk 3 (by omega), hk 4 (by omega), hk 5 (by omega), hk 6 (by omega), hk 7 (by omega), hk 8 (by omega), hk 9 (by omega), hk 10 (by omega), hk 11 (by omega)]; exact a
  · rw [hk _ (by decide), b1 j hj]
    by_cases q : j < 6
    · simp only [hw (42 + 5 * j) (by omega)]
    · simp [q]
  · rw [zu_at, if_pos ⟨rfl, rfl⟩, hv j hj]
    show _ = decide (j < 6 ∧ upd w (71 + 4 * d) b (71 + 4 * j) = 1)
    by_cases e : j = d
    · rw [if_pos e, upd_at, if_pos (by omega)]; simp [show j < 6 by omega]
    · rw [if_neg e, b2 j hj, upd_at, if_neg (by omega)]
  · rw [hw 12 (by omega), hk _ (by decide)]; exact c1
  · rw [hr 0, hw _ (by omega)]; exact d1 p hp
  · rw [hr 1, hw _ (by omega)]; exact d2 p hp
  · rw [hr 2, hw _ (by omega)]; exact d3 m' hm' c' hc'
  · rw [hr 3, hw _ (by omega)]; exact d4 m' hm' c' hc'
  · rw [hk _ (by decide)] at hl ⊢
    rw [hr 4, hw _ (by omega), hw _ (by omega), hw _ (by omega), hw _ (by omega)]; exact d5 a ha hl
theorem zWr.putW (h : zWr T M k w) {d : Nat} (hd : d < 6) {v b : Int32} (hv : ∀ j, j < 32 → tb v j = if j = d then decide (b = 1) else tb (M k 12) j) : zWr T (zu M k 12 v) k (upd w (42 + 5 * d) b) := by
  obtain ⟨a, ⟨b1, b2⟩, c1, d1, d2, d3, d4, d5⟩ := h
  have hw : ∀ i, i ≠ 42 + 5 * d → upd w (42 + 5 * d) b i = w i := fun i hi => by rw [upd_at, if_neg hi]
  have hk : ∀ i, i ≠ 12 → zu M k 12 v k i = M k i := fun i hi => by rw [zu_at, if_neg (by omega)]
  have hr : ∀ i, zu M k 12 v (k + 1 + i) = M (k + 1 + i) := fun i => zu_row (by omega)
  refine ⟨?_, ⟨fun j hj => ?_, fun j hj => ?_⟩, ?_, fun p hp => ?_, fun p hp => ?_, fun m' hm' c' hc' => ?_, fun m' hm' c' hc' => ?_, fun a ha hl => ?_⟩
  · simp only [hw 4 (by omega), hw 9 (by omega), hw 13 (by omega), hw 10 (by omega), hw 11 (by omega), hw 5 (by omega), hw 6 (by omega), hw 7 (by omega), hw 8 (by omega), hw 2 (by omega), hw 0 (by omega), hw 1 (by omega), hk 0 (by omega), hk 1 (by omega), hk 2 (by omega), hk 3 (by omega), hk 4 (by omega), hk 5 (by omega), hk 6 (by omega), hk 7 (by omega), hk 8 (by omega), hk 9 (by omega), hk 10 (by omega), hk 11 (by omega)]; exact a
  · rw [zu_at, if_pos ⟨rfl, rfl⟩, hv j hj]
    show _ = decide (j < 6 ∧ upd w (42 + 5 * d) b (42 + 5 * j) = 1)
    by_cases e : j = d
    · rw [if_pos e, upd_at, if_pos (by omega)]; simp [show j < 6 by omega]
    · rw [if_neg e, b1 j hj, upd_at, if_neg (by omega)]
  · rw [hk _ (by decide), b2 j hj]
    by_cases q : j < 6
    · simp only [hw (71 + 4 * j) (by omega)]
    · simp [q]
  · rw [hw 12 (by omega), hk _ (by decide)]; exact c1
  · rw [hr 0, hw _ (by omega)]; exact d1 p hp
  · rw [hr 1, hw _ (by omega)]; exact d2 p hp
  · rw [hr 2, hw _ (by omega)]; exact d3 m' hm' c' hc'
  · rw [hr 3, hw _ (by omega)]; exact d4 m' hm' c' hc'
  · rw [hk _ (by decide)] at hl ⊢
    rw [hr 4, hw _ (by omega), hw _ (by omega), hw _ (by omega), hw _ (by omega)]; exact d5 a ha hl
end
