/-! WHERE THE OBJECTS LIE (made by wip/whole/gen/layout.py). The class: 125 cells; the reference: 15. -/
def xkL : List Nat := [9, 5, 20, 8, 20, 20, 20, 20, 20, 8, 20, 20, 20, 20, 20, 8, 20, 20, 20, 20, 20, 2, 20, 20, 20, 20, 20, 2, 20, 20, 20, 20, 20, 2, 20, 20, 20, 20, 20, 6, 21, 0, 3, 7, 20, 1, 20, 20, 20, 20, 20, 4, 22, 8, 20, 20, 20, 20, 20, 8, 20, 20, 20, 20, 20, 8, 20, 20, 20, 20, 20, 8, 20, 20, 20, 20, 20, 8, 20, 20, 20, 20, 20, 8, 20, 20, 20, 20, 20, 8, 20, 20, 20, 20, 20, 8, 20, 20, 20, 20, 20, 8, 20, 20, 20, 20, 20, 8, 20, 20, 20, 20, 20, 8, 20, 20, 20, 20, 20, 8, 20, 20, 20, 20, 20]
def xlL : List Nat := [0, 0, 400, 0, 12, 12, 24, 18, 60, 0, 12, 12, 24, 18, 60, 0, 12, 12, 24, 18, 60, 0, 12, 12, 12, 400, 40, 0, 12, 12, 12, 400, 40, 0, 12, 12, 12, 400, 40, 0, 154, 0, 0, 0, 21, 0, 36, 64, 6, 6, 6, 0, 12, 0, 12, 12, 24, 18, 60, 0, 12, 12, 24, 18, 60, 0, 12, 12, 24, 18, 60, 0, 12, 12, 24, 18, 60, 0, 12, 12, 24, 18, 60, 0, 12, 12, 24, 18, 60, 0, 12, 12, 24, 18, 60, 0, 12, 12, 24, 18, 60, 0, 12, 12, 24, 18, 60, 0, 12, 12, 24, 18, 60, 0, 12, 12, 24, 18, 60, 0, 12, 12, 24, 18, 60]
def xk (k : Nat) : Nat := xkL.getD k 99
def xl (k : Nat) : Nat := xlL.getD k 0
def fX1 (g : zG) (k : Nat) (row : Nat → Int32) : List Value := [.ref (g.2.2 39)]
def fX2 (g : zG) (k : Nat) (row : Nat → Int32) : List Value := [.ref (g.2.2 43), .ref (g.2.2 46), .ref (g.2.2 47), .ref (g.2.2 48), .ref (g.2.2 49), .ref (g.2.2 50), .int (row 6)]
def fX3 (g : zG) (k : Nat) (row : Nat → Int32) : List Value := [.int (row 0), .ref (g.2.2 (k + 1)), .ref (g.2.2 (k + 2)), .ref (g.2.2 (k + 3)), .ref (g.2.2 (k + 4)), .int (row 5), .ref (g.2.2 (k + 5)), .int (row 7)]
def fX4 (g : zG) (k : Nat) (row : Nat → Int32) : List Value := [.ref (g.2.2 39), .ref (g.2.2 27)]
def fX5 (g : zG) (k : Nat) (row : Nat → Int32) : List Value := [.ref (g.2.2 52), .int (row 1), .int (row 2)]
def fX6 (g : zG) (k : Nat) (row : Nat → Int32) : List Value := [.ref (g.2.2 2), .int (row 1)]
def fX7 (g : zG) (k : Nat) (row : Nat → Int32) : List Value := [.ref (g.2.2 1), .ref (g.2.2 40), .int (row 2), .int (row 3), .int (row 4), .int (row 5), .int (row 6)]
def fX8 (g : zG) (k : Nat) (row : Nat → Int32) : List Value := [.ref (g.2.2 44)]
def fX9 (g : zG) (k : Nat) (row : Nat → Int32) : List Value := [.int (row 0), .int (row 1), .int (row 2), .int (row 3), .int (row 4), .int (row 5), .int (row 6), .int (row 7), .int (row 8), .int (row 9), .int (row 10), .int (row 11), .int (row 12), .int (row 13), .int (row 14), .ref (g.2.2 (k + 1)), .ref (g.2.2 (k + 2)), .ref (g.2.2 (k + 3)), .ref (g.2.2 (k + 4)), .ref (g.2.2 (k + 5))]
def fX10 (g : zG) (k : Nat) (row : Nat → Int32) : List Value := [.ref (g.2.2 1), .ref (g.2.2 3), .ref (g.2.2 9), .ref (g.2.2 15), .ref (g.2.2 21), .ref (g.2.2 27), .ref (g.2.2 33), .ref (g.2.2 39), .ref (g.2.2 41), .ref (g.2.2 42), .ref (g.2.2 43), .ref (g.2.2 45), .ref (g.2.2 51), .int (row 13), .int (row 14)]
def fX11 (g : zG) (k : Nat) (row : Nat → Int32) : List Value := [.int (row 0), .ref (g.2.2 1), .ref (g.2.2 2), .ref (g.2.2 3), .ref (g.2.2 4), .ref (g.2.2 5), .int (row 6), .int (row 7), .ref (g.2.2 6), .int (row 9), .int (row 10), .int (row 11), .int (row 12), .int (row 13), .int (row 14), .ref (g.2.2 7), .int (row 16), .ref (g.2.2 8), .ref (g.2.2 9), .ref (g.2.2 10), .ref (g.2.2 11), .ref (g.2.2 12), .ref (g.2.2 13), .ref (g.2.2 14), .int (row 24)]
def xE : zE := fun g k row =>
  if xk k = 0 then .inr (0, fX1 g k row) else
  if xk k = 1 then .inr (1, fX2 g k row) else
  if xk k = 2 then .inr (2, fX3 g k row) else
  if xk k = 3 then .inr (3, fX4 g k row) else
  if xk k = 4 then .inr (4, fX5 g k row) else
  if xk k = 5 then .inr (5, fX6 g k row) else
  if xk k = 6 then .inr (6, fX7 g k row) else
  if xk k = 7 then .inr (7, fX8 g k row) else
  if xk k = 8 then .inr (8, fX9 g k row) else
  if xk k = 9 then .inr (9, fX10 g k row) else
  if xk k = 21 then .inl (g.2.1 1, xl k, .inl row) else
  if xk k = 22 then .inl (g.2.1 2, 12, .inr (.inr (.inr (.inr (fun i => some (g.2.2 (53 + 6 * i))))))) else
  .inl (g.2.1 0, xl k, .inl row)
def rlL : List Nat := [0, 2030, 1181, 1181, 332, 3984, 400, 5, 400, 36, 448, 7, 7, 7, 6]
def rl (k : Nat) : Nat := rlL.getD k 0
def rE : zE := fun g k row => if k = 0 then .inr (10, fX11 g k row) else if k = 6 then .inl (g.2.1 3, 400, .inl row) else .inl (g.2.1 0, rl k, .inl row)
theorem xlt {k : Nat} (h : xk k ≠ 99) : k < 125 := by
  rcases Nat.lt_or_ge k 125 with q | q
  · exact q
  · exact absurd (show xkL.getD k 99 = 99 by rw [List.getD_eq_getElem?_getD, List.getElem?_eq_none (by simpa [xkL] using q)]; rfl) h
theorem xe_X1 {g : zG} {k : Nat} (h : xk k = 0) (row : Nat → Int32) : xE g k row = .inr (0, fX1 g k row) := by simp [xE, h]
theorem xb_X1 {k : Nat} (h : xk k = 0) : k < 125 := xlt (by rw [h]; decide)
theorem xe_X2 {g : zG} {k : Nat} (h : xk k = 1) (row : Nat → Int32) : xE g k row = .inr (1, fX2 g k row) := by simp [xE, h]
theorem xb_X2 {k : Nat} (h : xk k = 1) : k < 125 := xlt (by rw [h]; decide)
theorem xe_X3 {g : zG} {k : Nat} (h : xk k = 2) (row : Nat → Int32) : xE g k row = .inr (2, fX3 g k row) := by simp [xE, h]
theorem xb_X3 {k : Nat} (h : xk k = 2) : k < 125 := xlt (by rw [h]; decide)
theorem xe_X4 {g : zG} {k : Nat} (h : xk k = 3) (row : Nat → Int32) : xE g k row = .inr (3, fX4 g k row) := by simp [xE, h]
theorem xb_X4 {k : Nat} (h : xk k = 3) : k < 125 := xlt (by rw [h]; decide)
theorem xe_X5 {g : zG} {k : Nat} (h : xk k = 4) (row : Nat → Int32) : xE g k row = .inr (4, fX5 g k row) := by simp [xE, h]
theorem xb_X5 {k : Nat} (h : xk k = 4) : k < 125 := xlt (by rw [h]; decide)
theorem xe_X6 {g : zG} {k : Nat} (h : xk k = 5) (row : Nat → Int32) : xE g k row = .inr (5, fX6 g k row) := by simp [xE, h]
theorem xb_X6 {k : Nat} (h : xk k = 5) : k < 125 := xlt (by rw [h]; decide)
theorem xe_X7 {g : zG} {k : Nat} (h : xk k = 6) (row : Nat → Int32) : xE g k row = .inr (6, fX7 g k row) := by simp [xE, h]
theorem xb_X7 {k : Nat} (h : xk k = 6) : k < 125 := xlt (by rw [h]; decide)
theorem xe_X8 {g : zG} {k : Nat} (h : xk k = 7) (row : Nat → Int32) : xE g k row = .inr (7, fX8 g k row) := by simp [xE, h]
theorem xb_X8 {k : Nat} (h : xk k = 7) : k < 125 := xlt (by rw [h]; decide)
theorem xe_X9 {g : zG} {k : Nat} (h : xk k = 8) (row : Nat → Int32) : xE g k row = .inr (8, fX9 g k row) := by simp [xE, h]
theorem xb_X9 {k : Nat} (h : xk k = 8) : k < 125 := xlt (by rw [h]; decide)
theorem xe_X10 {g : zG} {k : Nat} (h : xk k = 9) (row : Nat → Int32) : xE g k row = .inr (9, fX10 g k row) := by simp [xE, h]
theorem xb_X10 {k : Nat} (h : xk k = 9) : k < 125 := xlt (by rw [h]; decide)
theorem xe_I {g : zG} {k : Nat} (h : xk k = 20) (row : Nat → Int32) : xE g k row = .inl (g.2.1 0, xl k, .inl row) := by simp [xE, h]
theorem xb_I {k : Nat} (h : xk k = 20) : k < 125 := xlt (by rw [h]; decide)
theorem xe_C {g : zG} {k : Nat} (h : xk k = 21) (row : Nat → Int32) : xE g k row = .inl (g.2.1 1, xl k, .inl row) := by simp [xE, h]
theorem xe_Q {g : zG} {k : Nat} (h : xk k = 22) (row : Nat → Int32) : xE g k row = .inl (g.2.1 2, 12, .inr (.inr (.inr (.inr (fun i => some (g.2.2 (53 + 6 * i))))))) := by simp [xE, h]
theorem xe_CL {g : zG} {k n : Nat} (h : xk k = 21 ∧ xl k = n) (row : Nat → Int32) : xE g k row = .inl (g.2.1 1, n, .inl row) := by rw [xe_C h.1, h.2]
theorem xe_IL {g : zG} {k n : Nat} (h : xk k = 20 ∧ xl k = n) (row : Nat → Int32) : xE g k row = .inl (g.2.1 0, n, .inl row) := by rw [xe_I h.1, h.2]
theorem xs_0 : xk 0 = 9 := rfl
theorem xs_1 : xk 1 = 5 := rfl
theorem xs_2 : xk 2 = 20 ∧ xl 2 = 400 := ⟨rfl, rfl⟩
theorem xs_3 : xk 3 = 8 := rfl
theorem xs_4 : xk 4 = 20 ∧ xl 4 = 12 := ⟨rfl, rfl⟩
theorem xs_5 : xk 5 = 20 ∧ xl 5 = 12 := ⟨rfl, rfl⟩
theorem xs_6 : xk 6 = 20 ∧ xl 6 = 24 := ⟨rfl, rfl⟩
theorem xs_7 : xk 7 = 20 ∧ xl 7 = 18 := ⟨rfl, rfl⟩
theorem xs_8 : xk 8 = 20 ∧ xl 8 = 60 := ⟨rfl, rfl⟩
theorem xs_9 : xk 9 = 8 := rfl
theorem xs_10 : xk 10 = 20 ∧ xl 10 = 12 := ⟨rfl, rfl⟩
theorem xs_11 : xk 11 = 20 ∧ xl 11 = 12 := ⟨rfl, rfl⟩
theorem xs_12 : xk 12 = 20 ∧ xl 12 = 24 := ⟨rfl, rfl⟩
theorem xs_13 : xk 13 = 20 ∧ xl 13 = 18 := ⟨rfl, rfl⟩
theorem xs_14 : xk 14 = 20 ∧ xl 14 = 60 := ⟨rfl, rfl⟩
theorem xs_15 : xk 15 = 8 := rfl
theorem xs_16 : xk 16 = 20 ∧ xl 16 = 12 := ⟨rfl, rfl⟩
theorem xs_17 : xk 17 = 20 ∧ xl 17 = 12 := ⟨rfl, rfl⟩
theorem xs_18 : xk 18 = 20 ∧ xl 18 = 24 := ⟨rfl, rfl⟩
theorem xs_19 : xk 19 = 20 ∧ xl 19 = 18 := ⟨rfl, rfl⟩
theorem xs_20 : xk 20 = 20 ∧ xl 20 = 60 := ⟨rfl, rfl⟩
theorem xs_21 : xk 21 = 2 := rfl
theorem xs_22 : xk 22 = 20 ∧ xl 22 = 12 := ⟨rfl, rfl⟩
theorem xs_23 : xk 23 = 20 ∧ xl 23 = 12 := ⟨rfl, rfl⟩
theorem xs_24 : xk 24 = 20 ∧ xl 24 = 12 := ⟨rfl, rfl⟩
theorem xs_25 : xk 25 = 20 ∧ xl 25 = 400 := ⟨rfl, rfl⟩
theorem xs_26 : xk 26 = 20 ∧ xl 26 = 40 := ⟨rfl, rfl⟩
theorem xs_27 : xk 27 = 2 := rfl
theorem xs_28 : xk 28 = 20 ∧ xl 28 = 12 := ⟨rfl, rfl⟩
theorem xs_29 : xk 29 = 20 ∧ xl 29 = 12 := ⟨rfl, rfl⟩
theorem xs_30 : xk 30 = 20 ∧ xl 30 = 12 := ⟨rfl, rfl⟩
theorem xs_31 : xk 31 = 20 ∧ xl 31 = 400 := ⟨rfl, rfl⟩
theorem xs_32 : xk 32 = 20 ∧ xl 32 = 40 := ⟨rfl, rfl⟩
theorem xs_33 : xk 33 = 2 := rfl
theorem xs_34 : xk 34 = 20 ∧ xl 34 = 12 := ⟨rfl, rfl⟩
theorem xs_35 : xk 35 = 20 ∧ xl 35 = 12 := ⟨rfl, rfl⟩
theorem xs_36 : xk 36 = 20 ∧ xl 36 = 12 := ⟨rfl, rfl⟩
theorem xs_37 : xk 37 = 20 ∧ xl 37 = 400 := ⟨rfl, rfl⟩
theorem xs_38 : xk 38 = 20 ∧ xl 38 = 40 := ⟨rfl, rfl⟩
theorem xs_39 : xk 39 = 6 := rfl
theorem xs_40 : xk 40 = 21 ∧ xl 40 = 154 := ⟨rfl, rfl⟩
theorem xs_41 : xk 41 = 0 := rfl
theorem xs_42 : xk 42 = 3 := rfl
theorem xs_43 : xk 43 = 7 := rfl
theorem xs_44 : xk 44 = 20 ∧ xl 44 = 21 := ⟨rfl, rfl⟩
theorem xs_45 : xk 45 = 1 := rfl
theorem xs_46 : xk 46 = 20 ∧ xl 46 = 36 := ⟨rfl, rfl⟩
theorem xs_47 : xk 47 = 20 ∧ xl 47 = 64 := ⟨rfl, rfl⟩
theorem xs_48 : xk 48 = 20 ∧ xl 48 = 6 := ⟨rfl, rfl⟩
theorem xs_49 : xk 49 = 20 ∧ xl 49 = 6 := ⟨rfl, rfl⟩
theorem xs_50 : xk 50 = 20 ∧ xl 50 = 6 := ⟨rfl, rfl⟩
theorem xs_51 : xk 51 = 4 := rfl
theorem xs_52 : xk 52 = 22 ∧ xl 52 = 12 := ⟨rfl, rfl⟩
theorem x_all {P : Nat → Prop} (h : ∀ k, k < 125 → P k) {k c : Nat} (hk : xk k = c) (hc : c ≠ 99) : P k := h k (xlt (by rw [hk]; exact hc))
theorem xc_X9_ground {k : Nat} (h : xk k = 8) : xk (k + 1) = 20 ∧ xl (k + 1) = 12 := x_all (P := fun k => xk k = 8 → xk (k + 1) = 20 ∧ xl (k + 1) = 12) (by decide +kernel) h (by decide) h
theorem xc_X9_errors {k : Nat} (h : xk k = 8) : xk (k + 2) = 20 ∧ xl (k + 2) = 12 := x_all (P := fun k => xk k = 8 → xk (k + 2) = 20 ∧ xl (k + 2) = 12) (by decide +kernel) h (by decide) h
theorem xc_X9_monkCells {k : Nat} (h : xk k = 8) : xk (k + 3) = 20 ∧ xl (k + 3) = 24 := x_all (P := fun k => xk k = 8 → xk (k + 3) = 20 ∧ xl (k + 3) = 24) (by decide +kernel) h (by decide) h
theorem xc_X9_dutyCells {k : Nat} (h : xk k = 8) : xk (k + 4) = 20 ∧ xl (k + 4) = 18 := x_all (P := fun k => xk k = 8 → xk (k + 4) = 20 ∧ xl (k + 4) = 18) (by decide +kernel) h (by decide) h
theorem xc_X9_logRows {k : Nat} (h : xk k = 8) : xk (k + 5) = 20 ∧ xl (k + 5) = 60 := x_all (P := fun k => xk k = 8 → xk (k + 5) = 20 ∧ xl (k + 5) = 60) (by decide +kernel) h (by decide) h
theorem xc_X3_kinds {k : Nat} (h : xk k = 2) : xk (k + 1) = 20 ∧ xl (k + 1) = 12 := x_all (P := fun k => xk k = 2 → xk (k + 1) = 20 ∧ xl (k + 1) = 12) (by decide +kernel) h (by decide) h
theorem xc_X3_amounts {k : Nat} (h : xk k = 2) : xk (k + 2) = 20 ∧ xl (k + 2) = 12 := x_all (P := fun k => xk k = 2 → xk (k + 2) = 20 ∧ xl (k + 2) = 12) (by decide +kernel) h (by decide) h
theorem xc_X3_ends {k : Nat} (h : xk k = 2) : xk (k + 3) = 20 ∧ xl (k + 3) = 12 := x_all (P := fun k => xk k = 2 → xk (k + 3) = 20 ∧ xl (k + 3) = 12) (by decide +kernel) h (by decide) h
theorem xc_X3_steps {k : Nat} (h : xk k = 2) : xk (k + 4) = 20 ∧ xl (k + 4) = 400 := x_all (P := fun k => xk k = 2 → xk (k + 4) = 20 ∧ xl (k + 4) = 400) (by decide +kernel) h (by decide) h
theorem xc_X3_stack {k : Nat} (h : xk k = 2) : xk (k + 5) = 20 ∧ xl (k + 5) = 40 := x_all (P := fun k => xk k = 2 → xk (k + 5) = 20 ∧ xl (k + 5) = 40) (by decide +kernel) h (by decide) h
theorem xc_past {i : Nat} (h : i < 12) : xk (53 + 6 * i) = 8 := (show ∀ i, i < 12 → xk (53 + 6 * i) = 8 by decide +kernel) i h
theorem kc_X1 : zKc 0 RX1 TX1 1 tyX1 := ⟨rfl, kt_X1, tyX1_ok, nmX1⟩
theorem kc_X2 : zKc 1 RX2 TX2 7 tyX2 := ⟨rfl, kt_X2, tyX2_ok, nmX2⟩
theorem kc_X3 : zKc 2 RX3 TX3 8 tyX3 := ⟨rfl, kt_X3, tyX3_ok, nmX3⟩
theorem kc_X4 : zKc 3 RX4 TX4 2 tyX4 := ⟨rfl, kt_X4, tyX4_ok, nmX4⟩
theorem kc_X5 : zKc 4 RX5 TX5 3 tyX5 := ⟨rfl, kt_X5, tyX5_ok, nmX5⟩
theorem kc_X6 : zKc 5 RX6 TX6 2 tyX6 := ⟨rfl, kt_X6, tyX6_ok, nmX6⟩
theorem kc_X7 : zKc 6 RX7 TX7 7 tyX7 := ⟨rfl, kt_X7, tyX7_ok, nmX7⟩
theorem kc_X8 : zKc 7 RX8 TX8 1 tyX8 := ⟨rfl, kt_X8, tyX8_ok, nmX8⟩
theorem kc_X9 : zKc 8 RX9 TX9 20 tyX9 := ⟨rfl, kt_X9, tyX9_ok, nmX9⟩
theorem kc_X10 : zKc 9 RX10 TX10 15 tyX10 := ⟨rfl, kt_X10, tyX10_ok, nmX10⟩
theorem kc_X11 : zKc 10 RX11 TX11 25 tyX11 := ⟨rfl, kt_X11, tyX11_ok, nmX11⟩
theorem re_0 {g : zG} (row : Nat → Int32) : rE g 0 row = .inr (10, fX11 g 0 row) := rfl
theorem re_1 {g : zG} (row : Nat → Int32) : rE g 1 row = .inl (g.2.1 0, 2030, .inl row) := rfl
theorem re_2 {g : zG} (row : Nat → Int32) : rE g 2 row = .inl (g.2.1 0, 1181, .inl row) := rfl
theorem re_3 {g : zG} (row : Nat → Int32) : rE g 3 row = .inl (g.2.1 0, 1181, .inl row) := rfl
theorem re_4 {g : zG} (row : Nat → Int32) : rE g 4 row = .inl (g.2.1 0, 332, .inl row) := rfl
theorem re_5 {g : zG} (row : Nat → Int32) : rE g 5 row = .inl (g.2.1 0, 3984, .inl row) := rfl
theorem re_6 {g : zG} (row : Nat → Int32) : rE g 6 row = .inl (g.2.1 3, 400, .inl row) := rfl
theorem re_7 {g : zG} (row : Nat → Int32) : rE g 7 row = .inl (g.2.1 0, 5, .inl row) := rfl
theorem re_8 {g : zG} (row : Nat → Int32) : rE g 8 row = .inl (g.2.1 0, 400, .inl row) := rfl
theorem re_9 {g : zG} (row : Nat → Int32) : rE g 9 row = .inl (g.2.1 0, 36, .inl row) := rfl
theorem re_10 {g : zG} (row : Nat → Int32) : rE g 10 row = .inl (g.2.1 0, 448, .inl row) := rfl
theorem re_11 {g : zG} (row : Nat → Int32) : rE g 11 row = .inl (g.2.1 0, 7, .inl row) := rfl
theorem re_12 {g : zG} (row : Nat → Int32) : rE g 12 row = .inl (g.2.1 0, 7, .inl row) := rfl
theorem re_13 {g : zG} (row : Nat → Int32) : rE g 13 row = .inl (g.2.1 0, 7, .inl row) := rfl
theorem re_14 {g : zG} (row : Nat → Int32) : rE g 14 row = .inl (g.2.1 0, 6, .inl row) := rfl
theorem fs_X2_6 (g : zG) (k : Nat) (row : Nat → Int32) (v : Int32) : fX2 g k (upd row 6 v) = (fX2 g k row).set 6 (.int v) := rfl
theorem fs_X3_0 (g : zG) (k : Nat) (row : Nat → Int32) (v : Int32) : fX3 g k (upd row 0 v) = (fX3 g k row).set 0 (.int v) := rfl
theorem fs_X3_5 (g : zG) (k : Nat) (row : Nat → Int32) (v : Int32) : fX3 g k (upd row 5 v) = (fX3 g k row).set 5 (.int v) := rfl
theorem fs_X3_7 (g : zG) (k : Nat) (row : Nat → Int32) (v : Int32) : fX3 g k (upd row 7 v) = (fX3 g k row).set 7 (.int v) := rfl
theorem fs_X5_1 (g : zG) (k : Nat) (row : Nat → Int32) (v : Int32) : fX5 g k (upd row 1 v) = (fX5 g k row).set 1 (.int v) := rfl
theorem fs_X5_2 (g : zG) (k : Nat) (row : Nat → Int32) (v : Int32) : fX5 g k (upd row 2 v) = (fX5 g k row).set 2 (.int v) := rfl
theorem fs_X6_1 (g : zG) (k : Nat) (row : Nat → Int32) (v : Int32) : fX6 g k (upd row 1 v) = (fX6 g k row).set 1 (.int v) := rfl
theorem fs_X7_2 (g : zG) (k : Nat) (row : Nat → Int32) (v : Int32) : fX7 g k (upd row 2 v) = (fX7 g k row).set 2 (.int v) := rfl
theorem fs_X7_3 (g : zG) (k : Nat) (row : Nat → Int32) (v : Int32) : fX7 g k (upd row 3 v) = (fX7 g k row).set 3 (.int v) := rfl
theorem fs_X7_4 (g : zG) (k : Nat) (row : Nat → Int32) (v : Int32) : fX7 g k (upd row 4 v) = (fX7 g k row).set 4 (.int v) := rfl
theorem fs_X7_5 (g : zG) (k : Nat) (row : Nat → Int32) (v : Int32) : fX7 g k (upd row 5 v) = (fX7 g k row).set 5 (.int v) := rfl
theorem fs_X7_6 (g : zG) (k : Nat) (row : Nat → Int32) (v : Int32) : fX7 g k (upd row 6 v) = (fX7 g k row).set 6 (.int v) := rfl
theorem fs_X9_0 (g : zG) (k : Nat) (row : Nat → Int32) (v : Int32) : fX9 g k (upd row 0 v) = (fX9 g k row).set 0 (.int v) := rfl
theorem fs_X9_1 (g : zG) (k : Nat) (row : Nat → Int32) (v : Int32) : fX9 g k (upd row 1 v) = (fX9 g k row).set 1 (.int v) := rfl
theorem fs_X9_2 (g : zG) (k : Nat) (row : Nat → Int32) (v : Int32) : fX9 g k (upd row 2 v) = (fX9 g k row).set 2 (.int v) := rfl
theorem fs_X9_3 (g : zG) (k : Nat) (row : Nat → Int32) (v : Int32) : fX9 g k (upd row 3 v) = (fX9 g k row).set 3 (.int v) := rfl
theorem fs_X9_4 (g : zG) (k : Nat) (row : Nat → Int32) (v : Int32) : fX9 g k (upd row 4 v) = (fX9 g k row).set 4 (.int v) := rfl
theorem fs_X9_5 (g : zG) (k : Nat) (row : Nat → Int32) (v : Int32) : fX9 g k (upd row 5 v) = (fX9 g k row).set 5 (.int v) := rfl
theorem fs_X9_6 (g : zG) (k : Nat) (row : Nat → Int32) (v : Int32) : fX9 g k (upd row 6 v) = (fX9 g k row).set 6 (.int v) := rfl
theorem fs_X9_7 (g : zG) (k : Nat) (row : Nat → Int32) (v : Int32) : fX9 g k (upd row 7 v) = (fX9 g k row).set 7 (.int v) := rfl
theorem fs_X9_8 (g : zG) (k : Nat) (row : Nat → Int32) (v : Int32) : fX9 g k (upd row 8 v) = (fX9 g k row).set 8 (.int v) := rfl
theorem fs_X9_9 (g : zG) (k : Nat) (row : Nat → Int32) (v : Int32) : fX9 g k (upd row 9 v) = (fX9 g k row).set 9 (.int v) := rfl
theorem fs_X9_10 (g : zG) (k : Nat) (row : Nat → Int32) (v : Int32) : fX9 g k (upd row 10 v) = (fX9 g k row).set 10 (.int v) := rfl
theorem fs_X9_11 (g : zG) (k : Nat) (row : Nat → Int32) (v : Int32) : fX9 g k (upd row 11 v) = (fX9 g k row).set 11 (.int v) := rfl
theorem fs_X9_12 (g : zG) (k : Nat) (row : Nat → Int32) (v : Int32) : fX9 g k (upd row 12 v) = (fX9 g k row).set 12 (.int v) := rfl
theorem fs_X9_13 (g : zG) (k : Nat) (row : Nat → Int32) (v : Int32) : fX9 g k (upd row 13 v) = (fX9 g k row).set 13 (.int v) := rfl
theorem fs_X9_14 (g : zG) (k : Nat) (row : Nat → Int32) (v : Int32) : fX9 g k (upd row 14 v) = (fX9 g k row).set 14 (.int v) := rfl
theorem fs_X10_13 (g : zG) (k : Nat) (row : Nat → Int32) (v : Int32) : fX10 g k (upd row 13 v) = (fX10 g k row).set 13 (.int v) := rfl
theorem fs_X10_14 (g : zG) (k : Nat) (row : Nat → Int32) (v : Int32) : fX10 g k (upd row 14 v) = (fX10 g k row).set 14 (.int v) := rfl
theorem fs_X11_0 (g : zG) (k : Nat) (row : Nat → Int32) (v : Int32) : fX11 g k (upd row 0 v) = (fX11 g k row).set 0 (.int v) := rfl
theorem fs_X11_6 (g : zG) (k : Nat) (row : Nat → Int32) (v : Int32) : fX11 g k (upd row 6 v) = (fX11 g k row).set 6 (.int v) := rfl
theorem fs_X11_7 (g : zG) (k : Nat) (row : Nat → Int32) (v : Int32) : fX11 g k (upd row 7 v) = (fX11 g k row).set 7 (.int v) := rfl
theorem fs_X11_9 (g : zG) (k : Nat) (row : Nat → Int32) (v : Int32) : fX11 g k (upd row 9 v) = (fX11 g k row).set 9 (.int v) := rfl
theorem fs_X11_10 (g : zG) (k : Nat) (row : Nat → Int32) (v : Int32) : fX11 g k (upd row 10 v) = (fX11 g k row).set 10 (.int v) := rfl
theorem fs_X11_11 (g : zG) (k : Nat) (row : Nat → Int32) (v : Int32) : fX11 g k (upd row 11 v) = (fX11 g k row).set 11 (.int v) := rfl
theorem fs_X11_12 (g : zG) (k : Nat) (row : Nat → Int32) (v : Int32) : fX11 g k (upd row 12 v) = (fX11 g k row).set 12 (.int v) := rfl
theorem fs_X11_13 (g : zG) (k : Nat) (row : Nat → Int32) (v : Int32) : fX11 g k (upd row 13 v) = (fX11 g k row).set 13 (.int v) := rfl
theorem fs_X11_14 (g : zG) (k : Nat) (row : Nat → Int32) (v : Int32) : fX11 g k (upd row 14 v) = (fX11 g k row).set 14 (.int v) := rfl
theorem fs_X11_16 (g : zG) (k : Nat) (row : Nat → Int32) (v : Int32) : fX11 g k (upd row 16 v) = (fX11 g k row).set 16 (.int v) := rfl
theorem fs_X11_24 (g : zG) (k : Nat) (row : Nat → Int32) (v : Int32) : fX11 g k (upd row 24 v) = (fX11 g k row).set 24 (.int v) := rfl
