section
variable {t : Nat} {T : Int} {M M' N N' : zM}
theorem zTape.eq (h : zTape M N) (h1 : M' 1 1 = M 1 1) (h2 : M' 2 = M 2) (h3 : N' 0 9 = N 0 9) (h4 : N' 6 = N 6) : zTape M' N' := by
  unfold zTape; rw [h1, h2, h3, h4]; exact h
theorem zImg.eq (h : zImg T M N) (h0 : M' 0 14 = M 0 14) (hm : ∀ q, 15 ≤ q → q < 21 → M' q = M q) (hl : ∀ q, 33 ≤ q → q < 38 → M' q = M q) (h6 : N' 0 6 = N 0 6) (h2 : N' 2 = N 2) : zImg T M' N' := by
  unfold zImg
  rw [h0, h6, h2]
  exact ⟨h.1, h.2.elim Or.inl (fun q => Or.inr ⟨q.1, q.2.1.eq (hm _ (by decide) (by decide)) (hm _ (by decide) (by decide)) (hm _ (by decide) (by decide)) (hm _ (by decide) (by decide)) (hm _ (by decide) (by decide)) (hm _ (by decide) (by decide)), q.2.2.1, q.2.2.2.eq (by rw [hl 33 (by decide) (by decide)]) (hl _ (by decide) (by decide)) (hl _ (by decide) (by decide)) (hl _ (by decide) (by decide)) (hl _ (by decide) (by decide))⟩)⟩
theorem zPast.eq (h : zPast T M N) (h51 : M' 51 = M 51) (hm : ∀ q, 53 ≤ q → q < 125 → M' q = M q) (h7 : N' 0 7 = N 0 7) (h5 : N' 5 = N 5) (h3 : N' 1 3 = N 1 3) : zPast T M' N' := by
  unfold zPast
  rw [h51, h7, h5, h3]
  refine ⟨h.1, h.2.1, h.2.2.1, h.2.2.2.1, h.2.2.2.2.1, fun i hi2 => ⟨?_, (h.2.2.2.2.2 i hi2).2⟩⟩
  have hps : zPs M' i = zPs M i := by unfold zPs; rw [h51]
  have hb : 53 ≤ zPs M i ∧ zPs M i ≤ 119 := by unfold zPs; omega
  rw [hps]
  exact (h.2.2.2.2.2 i hi2).1.eq (hm _ (by omega) (by omega)) (hm _ (by omega) (by omega)) (hm _ (by omega) (by omega)) (hm _ (by omega) (by omega)) (hm _ (by omega) (by omega)) (hm _ (by omega) (by omega))
theorem zPast.none (h1 : M' 51 2 = 0) (h2 : N' 0 7 = 0) (h3 : 0 ≤ (M' 51 1).toInt ∧ (M' 51 1).toInt < 12) : zPast T M' N' := by
  unfold zPast
  rw [h1, h2]
  exact ⟨rfl, by decide, by decide, h3.1, h3.2, fun i hi => absurd hi (by rw [show (0 : Int32).toInt = 0 from rfl]; omega)⟩
theorem zWr.eq6 {k : Nat} {w : Nat → Int32} (h : zWr T M k w) (hq : ∀ q, k ≤ q → q < k + 6 → M' q = M q) : zWr T M' k w := h.eq (hq _ (by omega) (by omega)) (hq _ (by omega) (by omega)) (hq _ (by omega) (by omega)) (hq _ (by omega) (by omega)) (hq _ (by omega) (by omega)) (hq _ (by omega) (by omega))
theorem zWr.row {k : Nat} {w w' : Nat → Int32} (h : zWr T M k w) (hj : ∀ j, j < 332 → w' j = w j) : zWr T M k w' := by
  obtain ⟨⟨a0, a1, a2, a3, a4, a5, a6, a7, a8, a9, a10, a11⟩, ⟨b1, b2⟩, ⟨c1, c2, c3⟩, d1, d2, d3, d4, d5⟩ := h
  refine ⟨⟨?_, ?_, ?_, ?_, ?_, ?_, ?_, ?_, ?_, ?_, ?_, ?_⟩, ⟨?_, ?_⟩, ⟨c1, c2, ?_⟩, ?_, ?_, ?_, ?_, ?_⟩
  · rw [hj _ (by decide)]; exact a0
  · rw [hj _ (by decide)]; exact a1
  · rw [hj _ (by decide)]; exact a2
  · rw [hj _ (by decide)]; exact a3
  · rw [hj _ (by decide)]; exact a4
  · rw [hj _ (by decide)]; exact a5
  · rw [hj _ (by decide)]; exact a6
  · rw [hj _ (by decide)]; exact a7
  · rw [hj _ (by decide)]; exact a8
  · rw [hj _ (by decide)]; exact a9
  · rw [hj _ (by decide)]; exact a10
  · rw [hj _ (by decide)]; exact a11
  · intro j hj2
    rw [b1 j hj2]
    by_cases q : j < 6
    · simp only [hj (42 + 5 * j) (by omega)]
    · simp [q]
  · intro j hj2
    rw [b2 j hj2]
    by_cases q : j < 6
    · simp only [hj (71 + 4 * j) (by omega)]
    · simp [q]
  · rw [hj _ (by decide)]; exact c3
  · intro p hp; rw [hj _ (by omega)]; exact d1 p hp
  · intro p hp; rw [hj _ (by omega)]; exact d2 p hp
  · intro m hm c hc; rw [hj _ (by omega)]; exact d3 m hm c hc
  · intro m hm c hc; rw [hj _ (by omega)]; exact d4 m hm c hc
  · intro a ha hl; rw [hj _ (by omega), hj _ (by omega), hj _ (by omega), hj _ (by omega)]; exact d5 a ha hl
theorem zOk.row {w w' : Nat → Int32} (h : zOk w) (hj : ∀ j, j < 332 → w' j = w j) : zOk w' := by
  refine ⟨fun j h2 => by rw [hj j h2]; exact h.1 j h2, by rw [hj _ (by decide), hj _ (by decide)]; exact h.2.1, fun m hm h0 => ?_, fun m hm h0 => ?_⟩
  · rw [hj _ (by decide)] at h0; rw [hj _ (by omega)]; exact h.2.2.1 m hm h0
  · rw [hj _ (by decide)] at h0; rw [hj _ (by omega)]; exact h.2.2.2 m hm h0
def zsc : List (Nat × Nat) := [(0, 4), (1, 9), (2, 13), (3, 10), (4, 11), (5, 5), (6, 6), (7, 7), (8, 8), (9, 2), (10, 0), (11, 1)]
theorem zWr.put {k : Nat} {w : Nat → Int32} (h : zWr T M k w) {j c : Nat} (hj : (j, c) ∈ zsc) (v : Int32) : zWr T (zu M k j v) k (upd w c v) := by
  have hr : ∀ i, 0 < i → zu M k j v (k + i) = M (k + i) := fun i hi => zu_row (by omega)
  have hc : c < 12 ∨ c = 13 := by
    have : ∀ x ∈ zsc, x.2 < 12 ∨ x.2 = 13 := by decide
    exact this _ hj
  have hj12 : j < 12 := by
    have : ∀ x ∈ zsc, x.1 < 12 := by decide
    exact this _ hj
  have hs : ∀ x ∈ zsc, zu M k j v k x.1 = upd w c v x.2 := by
    intro x hx
    have e0 : M k x.1 = w x.2 := by
      obtain ⟨⟨a0, a1, a2, a3, a4, a5, a6, a7, a8, a9, a10, a11⟩, -⟩ := h
      simp only [zsc, List.mem_cons, List.not_mem_nil, or_false] at hx
      rcases hx with rfl | rfl | rfl | rfl | rfl | rfl | rfl | rfl | rfl | rfl | rfl | rfl <;> assumption
    have e1 : x.1 = j ↔ x.2 = c := by
      have : ∀ x ∈ zsc, ∀ y ∈ zsc, (x.1 = y.1 ↔ x.2 = y.2) := by decide
      exact this x hx _ hj
    rw [zu_at, upd_at]
    by_cases q : x.1 = j
    · rw [if_pos ⟨rfl, q⟩, if_pos (e1.mp q)]
    · rw [if_neg (fun z => q z.2), if_neg (fun z => q (e1.mpr z)), e0]
  have hk : ∀ i, 12 ≤ i → zu M k j v k i = M k i := fun i hi => by rw [zu_at, if_neg (by omega)]
  have hw : ∀ i, 14 ≤ i → upd w c v i = w i := fun i hi => by rw [upd_at, if_neg (by omega)]
  have hw12 : upd w c v 12 = w 12 := by rw [upd_at, if_neg (by omega)]
  obtain ⟨-, ⟨b1, b2⟩, c1, d1, d2, d3, d4, d5⟩ := h
  refine ⟨⟨hs (0, 4) (by decide), hs (1, 9) (by decide), hs (2, 13) (by decide), hs (3, 10) (by decide), hs (4, 11) (by decide), hs (5, 5) (by decide), hs (6, 6) (by decide), hs (7, 7) (by decide), hs (8, 8) (by decide), hs (9, 2) (by decide), hs (10, 0) (by decide), hs (11, 1) (by decide)⟩, ⟨?_, ?_⟩, ?_, ?_, ?_, ?_, ?_, ?_⟩
  · intro j hj; rw [hk _ (by omega), b1 j hj]; simp only [hw (42 + 5 * j) (by omega)]
  · intro j hj; rw [hk _ (by omega), b2 j hj]; simp only [hw (71 + 4 * j) (by omega)]
  · rw [hk _ (by omega), hw12]; exact c1
  · intro p hp; rw [hr _ (by omega), hw _ (by omega)]; exact d1 p hp
  · intro p hp; rw [hr _ (by omega), hw _ (by omega)]; exact d2 p hp
  · intro m hm c hc; rw [hr _ (by omega), hw _ (by omega)]; exact d3 m hm c hc
  · intro m hm c hc; rw [hr _ (by omega), hw _ (by omega)]; exact d4 m hm c hc
  · intro a ha hl; rw [hk _ (by omega)] at hl ⊢; rw [hr _ (by omega), hw _ (by omega), hw _ (by omega), hw _ (by omega), hw _ (by omega)]; exact d5 a ha hl
theorem zOk.put {w : Nat → Int32} (h : zOk w) {c : Nat} {v : Int32} (hb : zlo c ≤ v.toInt ∧ v.toInt ≤ zhi c) (h0 : c ≠ 0) (h1 : c ≠ 1) (h7 : c ≠ 7) (h8 : c ≠ 8) (hm : ∀ m : Nat, c = 42 + 5 * m → m < 6 → (w 0).toInt ≤ m → v = 0) (hd : ∀ m : Nat, c = 71 + 4 * m → m < 6 → (w 1).toInt ≤ m → v = 0) : zOk (upd w c v) := by
  refine ⟨fun j hj => ?_, ?_, fun m hm6 hle => ?_, fun m hm6 hle => ?_⟩
  · rw [upd_at]
    split
    · rename_i e; rw [e]; exact hb
    · exact h.1 j hj
  · rw [upd_at, if_neg (by omega), upd_at, if_neg (by omega)]; exact h.2.1
  · rw [upd_at, if_neg (by omega)] at hle
    rw [upd_at]
    split
    · rename_i e; exact hm m e.symm hm6 hle
    · exact h.2.2.1 m hm6 hle
  · rw [upd_at, if_neg (by omega)] at hle
    rw [upd_at]
    split
    · rename_i e; exact hd m e.symm hm6 hle
    · exact h.2.2.2 m hm6 hle
theorem zRel.world {t' : Nat} (h : zRel t M N) (ht : t ≤ t') (hw : zWr (1200 * t') M' 3 (N' 1)) (ok : zOk (N' 1)) (hq : ∀ q, ¬ (3 ≤ q ∧ q < 9) → M' q = M q) (h3 : N' 1 3 = N 1 3) (hj : ∀ j, 332 ≤ j → j < 1181 → N' 1 j = N 1 j) (hn : ∀ q, 2 ≤ q → N' q = N q) (h0 : ∀ j, 1 ≤ j → N' 0 j = N 0 j) : zRel t' M' N' :=
  h.step ht hw ok (fun q _ _ _ hh => hq q hh) (by rw [hq 21 (by decide)]) h3 hj (hn _ (by decide)) (hn _ (by decide)) (hn _ (by decide)) (h0 _ (by decide)) (h0 _ (by decide)) (h0 _ (by decide)) (h0 _ (by decide))
end
