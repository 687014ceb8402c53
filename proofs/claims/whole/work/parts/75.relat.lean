def zSt (s c n : Int32) : Prop := (0 ≤ s.toInt ∧ s.toInt < 1000 ∧ c = 8 ∧ n = s) ∨ (∃ q : Nat, q < 8 ∧ s = nI (1021 + q) ∧ c = nI q) ∨ (s = 1020 ∧ c = 12) ∨ (s = 1043 ∧ c = 9) ∨ (s = 1060 ∧ c = 10) ∨ (s = 1062 ∧ c = 11) ∨ (s = 1019 ∧ c = 13) ∨ (s = 1018 ∧ c = 14)
def zTy1 (c : Int32) (ts : List Bool) : Option (List Bool) :=
  if c ≤ 8 then (if ts.length < 40 then some ((c = 6 || c = 7) :: ts) else none)
  else if c = 12 then (match ts with | true :: r => some (true :: r) | _ => none)
  else if c = 9 then (match ts with | false :: false :: r => some (false :: r) | _ => none)
  else if c = 10 then (match ts with | false :: false :: r => some (true :: r) | _ => none)
  else if c = 11 then (match ts with | false :: false :: r => some (true :: r) | _ => none)
  else (match ts with | true :: true :: r => some (true :: r) | _ => none)
def zTyR (w : Nat → Int32) : Nat → Nat → List Bool → Option (List Bool)
  | 0, _, ts => some ts
  | n + 1, i, ts => (zTy1 (w (381 + 2 * i)) ts).bind (zTyR w n (i + 1))
def zFrom (w : Nat → Int32) (n : Nat) : Int := if n = 0 then 0 else (w (332 + 4 * n)).toInt
def zLn (M : zM) (k : Nat) (w : Nat → Int32) (n : Nat) : Prop :=
  (0 ≤ (w (333 + 4 * n)).toInt ∧ (w (333 + 4 * n)).toInt ≤ 2) ∧ M (k + 1) n = 14 + w (333 + 4 * n) ∧ M (k + 2) n = w (334 + 4 * n) ∧ (0 ≤ (w (334 + 4 * n)).toInt ∧ (w (334 + 4 * n)).toInt ≤ 9) ∧ M (k + 3) n = w (336 + 4 * n) ∧ (w (335 + 4 * n)).toInt = zFrom w n ∧ zFrom w n ≤ (w (336 + 4 * n)).toInt ∧ (w (336 + 4 * n)).toInt ≤ 400 ∧
  (∀ i : Nat, zFrom w n ≤ i → (i : Int) < (w (336 + 4 * n)).toInt → zSt (M (k + 4) i) (w (381 + 2 * i)) (w (382 + 2 * i))) ∧
  (zFrom w n < (w (336 + 4 * n)).toInt → zTyR w ((w (336 + 4 * n)).toInt - zFrom w n).toNat (zFrom w n).toNat [] = some [true])
def zLw (M : zM) (k : Nat) (w : Nat → Int32) : Prop := M k 0 = w 332 ∧ 0 ≤ (w 332).toInt ∧ (w 332).toInt ≤ 12 ∧ ∀ n : Nat, (n : Int) < (w 332).toInt → 0 ≤ zFrom w n ∧ zLn M k w n
def zLaw (M : zM) (k : Nat) (w : Nat → Int32) : Prop := (w 3 = 0 → M k 0 = -1) ∧ (w 3 = 1 → zLw M k w)
def zTape (M N : zM) : Prop := M 1 1 = N 0 9 ∧ 0 ≤ (N 0 9).toInt ∧ (N 0 9).toInt ≤ 400 ∧ ∀ j, j < 400 → 0 ≤ (M 2 j).toInt ∧ (M 2 j).toInt ≤ 255 ∧ N 6 j = (M 2 j).toInt8.toInt32
def zImg (T : Int) (M N : zM) : Prop := M 0 14 = N 0 6 ∧ (N 0 6 = 0 ∨ N 0 6 = 1 ∧ zWr T M 15 (N 2) ∧ zOk (N 2) ∧ zLaw M 33 (N 2))
def zPs (M : zM) (i : Nat) : Nat := 53 + 6 * (((M 51 1).toInt.toNat + i) % 12)
def zPast (T : Int) (M N : zM) : Prop := M 51 2 = N 0 7 ∧ 0 ≤ (N 0 7).toInt ∧ (N 0 7).toInt ≤ 12 ∧ 0 ≤ (M 51 1).toInt ∧ (M 51 1).toInt < 12 ∧ ∀ i : Nat, (i : Int) < (N 0 7).toInt → zWr T M (zPs M i) (fun j => N 5 (332 * i + j)) ∧ zOk (fun j => N 5 (332 * i + j)) ∧ N 5 (332 * i + 3) = N 1 3
def zWds : List Int32 := "ground period round range duty storm edition error pace goal from to more less wade wait tire if or and not monk place depth step tired hour rising there ".toList.map (fun c => Int32.ofNat c.toNat)
def zRel (t : Nat) (M N : zM) : Prop := zWr (1200 * t) M 3 (N 1) ∧ zOk (N 1) ∧ zLaw M 21 (N 1) ∧ zTape M N ∧ M 0 13 = N 0 14 ∧ zImg (1200 * t) M N ∧ zPast (1200 * t) M N ∧ (∀ j, j < 154 → M 40 j = zWds.getD j 0)
section
variable {t : Nat} {M M' N N' : zM}
theorem zRel.w (h : zRel t M N) : zWr (1200 * t) M 3 (N 1) := h.1
theorem zRel.ok (h : zRel t M N) : zOk (N 1) := h.2.1
theorem zRel.law (h : zRel t M N) : zLaw M 21 (N 1) := h.2.2.1
theorem zRel.tape (h : zRel t M N) : zTape M N := h.2.2.2.1
theorem zRel.fault (h : zRel t M N) : M 0 13 = N 0 14 := h.2.2.2.2.1
theorem zRel.img (h : zRel t M N) : zImg (1200 * t) M N := h.2.2.2.2.2.1
theorem zRel.past (h : zRel t M N) : zPast (1200 * t) M N := h.2.2.2.2.2.2.1
theorem zRel.words (h : zRel t M N) : ∀ j, j < 154 → M 40 j = zWds.getD j 0 := h.2.2.2.2.2.2.2
theorem zImg.more {T T' : Int} (h : zImg T M N) (hT : T ≤ T') : zImg T' M N := ⟨h.1, h.2.elim Or.inl (fun q => Or.inr ⟨q.1, q.2.1.more hT, q.2.2⟩)⟩
theorem zPast.more {T T' : Int} (h : zPast T M N) (hT : T ≤ T') : zPast T' M N := ⟨h.1, h.2.1, h.2.2.1, h.2.2.2.1, h.2.2.2.2.1, fun i hi => ⟨(h.2.2.2.2.2 i hi).1.more hT, (h.2.2.2.2.2 i hi).2⟩⟩
theorem zRel.more (h : zRel t M N) : zRel (t + 1) M N := ⟨h.w.more (by omega), h.ok, h.law, h.tape, h.fault, h.img.more (by omega), h.past.more (by omega), h.words⟩
theorem zRel.ref (h : zRel t M N) (h1 : N' 1 = N 1) (h2 : N' 2 = N 2) (h5 : N' 5 = N 5) (h6 : N' 6 = N 6) (h06 : N' 0 6 = N 0 6) (h07 : N' 0 7 = N 0 7) (h09 : N' 0 9 = N 0 9) (h014 : N' 0 14 = N 0 14) : zRel t M N' := by
  unfold zRel zTape zImg zPast
  rw [h1, h2, h5, h6, h06, h07, h09, h014]
  exact h
theorem zLaw.eq {k : Nat} {w : Nat → Int32} (h : zLaw M k w) (h0 : M' k 0 = M k 0) (h1 : M' (k + 1) = M (k + 1)) (h2 : M' (k + 2) = M (k + 2)) (h3 : M' (k + 3) = M (k + 3)) (h4 : M' (k + 4) = M (k + 4)) : zLaw M' k w := by
  unfold zLaw zLw zLn
  rw [h0, h1, h2, h3, h4]
  exact h
def zDull (q : Nat) : Bool := (9 ≤ q && q < 15) || (26 ≤ q && q < 33) || q == 38 || q == 39 || (41 ≤ q && q < 51)
theorem zRel.cls (h : zRel t M N) (hq : ∀ q, q < 125 → zDull q = false → q ≠ 21 → M' q = M q) (h21 : M' 21 0 = M 21 0) : zRel t M' N := by
  have e : ∀ q, q < 125 → zDull q = false → q ≠ 21 → M' q = M q := hq
  refine ⟨h.w.eq (e _ (by decide) rfl (by decide)) (e _ (by decide) rfl (by decide)) (e _ (by decide) rfl (by decide)) (e _ (by decide) rfl (by decide)) (e _ (by decide) rfl (by decide)) (e _ (by decide) rfl (by decide)), h.ok, h.law.eq h21 (e _ (by decide) rfl (by decide)) (e _ (by decide) rfl (by decide)) (e _ (by decide) rfl (by decide)) (e _ (by decide) rfl (by decide)), ?_, ?_, ?_, ?_, ?_⟩
  · unfold zTape; rw [e 1 (by decide) rfl (by decide), e 2 (by decide) rfl (by decide)]; exact h.tape
  · rw [e 0 (by decide) rfl (by decide)]; exact h.fault
  · unfold zImg
    rw [e 0 (by decide) rfl (by decide)]
    refine ⟨h.img.1, h.img.2.elim Or.inl (fun q => Or.inr ⟨q.1, q.2.1.eq (e _ (by decide) rfl (by decide)) (e _ (by decide) rfl (by decide)) (e _ (by decide) rfl (by decide)) (e _ (by decide) rfl (by decide)) (e _ (by decide) rfl (by decide)) (e _ (by decide) rfl (by decide)), q.2.2.1, q.2.2.2.eq (by rw [e 33 (by decide) rfl (by decide)]) (e _ (by decide) rfl (by decide)) (e _ (by decide) rfl (by decide)) (e _ (by decide) rfl (by decide)) (e _ (by decide) rfl (by decide))⟩)⟩
  · have e51 := e 51 (by decide) rfl (by decide)
    have hps : ∀ i, zPs M' i = zPs M i := fun i => by unfold zPs; rw [e51]
    have hd : ∀ q, 51 ≤ q → zDull q = false := fun q hq => by simp [zDull]; omega
    unfold zPast
    rw [e51]
    refine ⟨h.past.1, h.past.2.1, h.past.2.2.1, h.past.2.2.2.1, h.past.2.2.2.2.1, fun i hi => ⟨?_, (h.past.2.2.2.2.2 i hi).2⟩⟩
    rw [hps i]
    have hb : 53 ≤ zPs M i ∧ zPs M i ≤ 119 := by unfold zPs; omega
    exact (h.past.2.2.2.2.2 i hi).1.eq (e _ (by omega) (hd _ (by omega)) (by omega)) (e _ (by omega) (hd _ (by omega)) (by omega)) (e _ (by omega) (hd _ (by omega)) (by omega)) (e _ (by omega) (hd _ (by omega)) (by omega)) (e _ (by omega) (hd _ (by omega)) (by omega)) (e _ (by omega) (hd _ (by omega)) (by omega))
  · rw [e 40 (by decide) rfl (by decide)]; exact h.words
theorem zTyR_eq {w w' : Nat → Int32} : ∀ (n i : Nat) (ts : List Bool), (∀ j, i ≤ j → j < i + n → w' (381 + 2 * j) = w (381 + 2 * j)) → zTyR w' n i ts = zTyR w n i ts := by
  intro n
  induction n with
  | zero => intro i ts _; rfl
  | succ n ih =>
    intro i ts h
    unfold zTyR
    rw [h i (by omega) (by omega)]
    congr 1
    funext ts'
    exact ih (i + 1) ts' (fun j h1 h2 => h j (by omega) (by omega))
theorem zLaw.row {k : Nat} {w w' : Nat → Int32} (h : zLaw M k w) (h3 : w' 3 = w 3) (hj : ∀ j, 332 ≤ j → j < 1181 → w' j = w j) : zLaw M k w' := by
  refine ⟨fun q => h.1 (by rw [← h3]; exact q), fun q => ?_⟩
  obtain ⟨a1, a2, a3, a4⟩ := h.2 (by rw [← h3]; exact q)
  have e332 := hj 332 (by decide) (by decide)
  refine ⟨by rw [e332]; exact a1, by rw [e332]; exact a2, by rw [e332]; exact a3, fun n hn => ?_⟩
  rw [e332] at hn
  have hf : zFrom w' n = zFrom w n := by
    unfold zFrom
    by_cases h0 : n = 0
    · simp [h0]
    · simp only [h0, if_false]; rw [hj _ (by omega) (by omega)]
  obtain ⟨b0, b1, b2, b3, b4, b5, b6, b7, b8, b9, b10⟩ := a4 n hn
  have c0 := hj (333 + 4 * n) (by omega) (by omega)
  have c1 := hj (334 + 4 * n) (by omega) (by omega)
  have c2 := hj (335 + 4 * n) (by omega) (by omega)
  have c3 := hj (336 + 4 * n) (by omega) (by omega)
  unfold zLn
  rw [hf, c0, c1, c2, c3]
  refine ⟨b0, b1, b2, b3, b4, b5, b6, b7, b8, fun i h1 h2 => ?_, fun hlt => ?_⟩
  · rw [hj _ (by omega) (by omega), hj _ (by omega) (by omega)]; exact b9 i h1 h2
  · rw [zTyR_eq (w := w) (w' := w')]
    · exact b10 hlt
    · intro j h1 h2; exact hj _ (by omega) (by omega)
theorem zRel.step {t' : Nat} (h : zRel t M N) (ht : t ≤ t') (hw : zWr (1200 * t') M' 3 (N' 1)) (ok : zOk (N' 1)) (hq : ∀ q, q < 125 → zDull q = false → q ≠ 21 → ¬ (3 ≤ q ∧ q < 9) → M' q = M q) (h21 : M' 21 0 = M 21 0) (h3 : N' 1 3 = N 1 3) (hj : ∀ j, 332 ≤ j → j < 1181 → N' 1 j = N 1 j) (h2 : N' 2 = N 2) (h5 : N' 5 = N 5) (h6 : N' 6 = N 6) (h06 : N' 0 6 = N 0 6) (h07 : N' 0 7 = N 0 7) (h09 : N' 0 9 = N 0 9) (h014 : N' 0 14 = N 0 14) : zRel t' M' N' := by
  have e : ∀ q, q < 125 → zDull q = false → q ≠ 21 → ¬ (3 ≤ q ∧ q < 9) → M' q = M q := hq
  have e51 := e 51 (by decide) rfl (by decide) (by decide)
  refine ⟨hw, ok, (h.law.eq h21 (e _ (by decide) rfl (by decide) (by decide)) (e _ (by decide) rfl (by decide) (by decide)) (e _ (by decide) rfl (by decide) (by decide)) (e _ (by decide) rfl (by decide) (by decide))).row h3 hj, ?_, ?_, ?_, ?_, ?_⟩
  · unfold zTape; rw [e 1 (by decide) rfl (by decide) (by decide), e 2 (by decide) rfl (by decide) (by decide), h09, h6]; exact h.tape
  · rw [e 0 (by decide) rfl (by decide) (by decide), h014]; exact h.fault
  · unfold zImg
    rw [e 0 (by decide) rfl (by decide) (by decide), h06, h2]
    refine ⟨h.img.1, h.img.2.elim Or.inl (fun q => Or.inr ⟨q.1, (q.2.1.eq (e _ (by decide) rfl (by decide) (by decide)) (e _ (by decide) rfl (by decide) (by decide)) (e _ (by decide) rfl (by decide) (by decide)) (e _ (by decide) rfl (by decide) (by decide)) (e _ (by decide) rfl (by decide) (by decide)) (e _ (by decide) rfl (by decide) (by decide))).more (by omega), q.2.2.1, q.2.2.2.eq (by rw [e 33 (by decide) rfl (by decide) (by decide)]) (e _ (by decide) rfl (by decide) (by decide)) (e _ (by decide) rfl (by decide) (by decide)) (e _ (by decide) rfl (by decide) (by decide)) (e _ (by decide) rfl (by decide) (by decide))⟩)⟩
  · have hps : ∀ i, zPs M' i = zPs M i := fun i => by unfold zPs; rw [e51]
    have hd : ∀ q, 51 ≤ q → zDull q = false := fun q hq => by simp [zDull]; omega
    unfold zPast
    rw [e51, h07, h5, h3]
    refine ⟨h.past.1, h.past.2.1, h.past.2.2.1, h.past.2.2.2.1, h.past.2.2.2.2.1, fun i hi => ⟨?_, (h.past.2.2.2.2.2 i hi).2⟩⟩
    rw [hps i]
    have hb : 53 ≤ zPs M i ∧ zPs M i ≤ 119 := by unfold zPs; omega
    exact ((h.past.2.2.2.2.2 i hi).1.eq (e _ (by omega) (hd _ (by omega)) (by omega) (by omega)) (e _ (by omega) (hd _ (by omega)) (by omega) (by omega)) (e _ (by omega) (hd _ (by omega)) (by omega) (by omega)) (e _ (by omega) (hd _ (by omega)) (by omega) (by omega)) (e _ (by omega) (hd _ (by omega)) (by omega) (by omega)) (e _ (by omega) (hd _ (by omega)) (by omega) (by omega))).more (by omega)
  · rw [e 40 (by decide) rfl (by decide) (by decide)]; exact h.words
theorem zu00_row {c : Int32} {q : Nat} (h : q ≠ 0) : zu N 0 0 c q = N q := zu_row h
theorem zu00_0 {c : Int32} {j : Nat} (h : j ≠ 0) : zu N 0 0 c 0 j = N 0 j := by rw [zu_at, if_neg (by omega)]
theorem zu00_c {c : Int32} : zu N 0 0 c 0 0 = c := by rw [zu_at, if_pos ⟨rfl, rfl⟩]
theorem zRel.thr (h : zRel t M N) (c : Int32) : zRel t M (zu N 0 0 c) := h.ref (zu_row (by decide)) (zu_row (by decide)) (zu_row (by decide)) (zu_row (by decide)) (zu00_0 (by decide)) (zu00_0 (by decide)) (zu00_0 (by decide)) (zu00_0 (by decide))
variable {R' : zM → zM → Prop} {fx : Option zT1} {fr : Option (Int32 × zM)} {al : Nat → Prop} {codes : Nat → Int32} {M1 N1 : zM} {b : Int32} {k : Nat}
theorem zsT_ex (h1 : fx = some (M1, .inl k)) (h2 : fr = some (b, N1)) (h3 : al k) (h4 : N1 0 0 = codes k) (h5 : R' M1 N1) : zsT R' fx fr al codes := ⟨M1, b, N1, h2, h5, Or.inl ⟨k, h1, h3, h4⟩⟩
theorem zsT_ok (h1 : fx = some (M1, .inr b)) (h2 : fr = some (b, N1)) (h4 : N1 0 0 = 0) (h5 : R' M1 N1) : zsT R' fx fr al codes := ⟨M1, b, N1, h2, h5, Or.inr ⟨h1, h4⟩⟩
theorem zbt_i (v : Int32) (G : zM → Int32 → Option zT1) : zbt (some (M, .inr v)) G = G M v := rfl
theorem zbt_x (k : Nat) (G : zM → Int32 → Option zT1) : zbt (some (M, .inl k)) G = some (M, .inl k) := rfl
theorem g_within {x a b : Int32} : f_X10_needWithin M x a b = some (M, if a.toInt ≤ x.toInt ∧ x.toInt ≤ b.toInt then .inr 0 else .inl 1) := by
  unfold f_X10_needWithin b_X10_needWithin_10
  simp only [i_lt, i_le]
  by_cases h1 : x.toInt < a.toInt
  · rw [if_pos h1, if_neg (by omega)]
  · rw [if_neg h1]
    by_cases h2 : x.toInt ≤ b.toInt
    · rw [if_pos h2, if_pos (by omega)]
    · rw [if_neg h2, if_neg (by omega)]
theorem i_lit12 : (12 : Int32).toInt = 12 := by decide
theorem g_place {x : Int32} : f_X10_needPlace M x = some (M, if 0 ≤ x.toInt ∧ x.toInt ≤ 11 then .inr 0 else .inl 0) := by
  unfold f_X10_needPlace b_X10_needPlace_10
  simp only [i_lt, i_lit0, i_lit12]
  by_cases h1 : x.toInt < 0
  · rw [if_pos h1, if_neg (by omega)]
  · rw [if_neg h1]
    by_cases h2 : x.toInt < 12
    · rw [if_pos h2, if_pos (by omega)]
    · rw [if_neg h2, if_neg (by omega)]
theorem g_monk {x : Int32} : f_X10_needMonk M x = some (M, if 0 ≤ x.toInt ∧ x.toInt < (M 3 10).toInt then .inr 0 else .inl 0) := by
  unfold f_X10_needMonk b_X10_needMonk_15
  simp only [i_lt, i_lit0]
  by_cases h1 : x.toInt < 0
  · rw [if_pos h1, if_neg (by omega)]
  · rw [if_neg h1]
    by_cases h2 : x.toInt < (M 3 10).toInt
    · rw [if_pos h2, if_pos (by omega)]
    · rw [if_neg h2, if_neg (by omega)]
theorem g_duty {x : Int32} : f_X10_needDuty M x = some (M, if 0 ≤ x.toInt ∧ x.toInt < (M 3 11).toInt then .inr 0 else .inl 0) := by
  unfold f_X10_needDuty b_X10_needDuty_15
  simp only [i_lt, i_lit0]
  by_cases h1 : x.toInt < 0
  · rw [if_pos h1, if_neg (by omega)]
  · rw [if_neg h1]
    by_cases h2 : x.toInt < (M 3 11).toInt
    · rw [if_pos h2, if_pos (by omega)]
    · rw [if_neg h2, if_neg (by omega)]
theorem nI_get {x : Int32} (h : 0 ≤ x.toInt) : ∃ j : Nat, (j : Int) = x.toInt ∧ x = nI j := ⟨x.toInt.toNat, by omega, by rw [i_eq, nI_toInt (by have := i_hi x; omega)]; omega⟩
end
