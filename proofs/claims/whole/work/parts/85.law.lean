def zSk (S : Nat → Int32) : List Int32 → Prop
  | [] => True
  | v :: vs => S vs.length = v ∧ zSk S vs
def zV : List Bool → List Int32 → Prop
  | [], [] => True
  | b :: bs, v :: vs => (b = true → v = 0 ∨ v = 1) ∧ zV bs vs
  | _, _ => False
theorem zSk_up {S : Nat → Int32} : ∀ (vs : List Int32) {j : Nat} {x : Int32}, vs.length ≤ j → zSk S vs → zSk (upd S j x) vs
  | [], _, _, _, _ => trivial
  | v :: vs, j, x, hj, h => by
    simp only [List.length_cons] at hj
    exact ⟨by rw [upd_at, if_neg (by omega)]; exact h.1, zSk_up vs (by omega) h.2⟩
theorem zV_len : ∀ {ts : List Bool} {vs : List Int32}, zV ts vs → ts.length = vs.length
  | [], [], _ => rfl
  | _ :: _, _ :: _, h => by simp only [List.length_cons]; rw [zV_len h.2]
section
variable {T : Int} {M N : zM} {k m : Nat} {wt : Int32}
def zKs (M : zM) (vs : List Int32) : Prop := M 21 7 = nI vs.length ∧ zSk (M 26) vs ∧ vs.length ≤ 40
def zFr (M M' : zM) : Prop := (∀ q, q ≠ 21 → q ≠ 26 → M' q = M q) ∧ ∀ j, j ≠ 7 → M' 21 j = M 21 j
theorem zFr.refl : zFr M M := ⟨fun _ _ _ => rfl, fun _ _ => rfl⟩
theorem zFr.trans {M' M'' : zM} (h : zFr M M') (h' : zFr M' M'') : zFr M M'' := ⟨fun q h1 h2 => (h'.1 q h1 h2).trans (h.1 q h1 h2), fun j hj => (h'.2 j hj).trans (h.2 j hj)⟩
theorem x_push {vs : List Int32} (h : zKs M vs) (hl : vs.length < 40) (v : Int32) : ∃ M', f_X3_push M 21 v = some M' ∧ zKs M' (v :: vs) ∧ zFr M M' := by
  obtain ⟨h1, h2, h3⟩ := h
  have e1 : ¬ nI vs.length < 0 := by rw [i_lt, i_nI (by omega), i_lit0]; omega
  have e2 : ¬ (40 : Int32) ≤ nI vs.length := by rw [i_le, i_nI (by omega)]; show ¬ (40 : Int) ≤ _; omega
  refine ⟨zu (zu M 26 vs.length v) 21 7 (nI (vs.length + 1)), ?_, ⟨?_, ⟨?_, ?_⟩, ?_⟩, ⟨fun q a b => ?_, fun j hj => ?_⟩⟩
  · rw [f_X3_push, h1, if_neg e1, if_neg e2, zck_t (nI_lt_i (by omega) (by omega)), nI_cl (by omega), znm_e, znm_e, zu_row (by decide), h1, nI_p1]
  · rw [zu_at, if_pos ⟨rfl, rfl⟩]; rfl
  · rw [zu_row (by decide), zu_at, if_pos ⟨rfl, rfl⟩]
  · rw [zu_row (by decide), zu_self]; exact zSk_up vs (Nat.le_refl _) h2
  · simp only [List.length_cons]; omega
  · rw [zu_row a, zu_row b]
  · rw [zu_at, if_neg (by omega), zu_row (by decide)]
theorem x_pop {v : Int32} {vs : List Int32} (h : zKs M (v :: vs)) : ∃ M', f_X3_pop M 21 = some (v, M') ∧ zKs M' vs ∧ zFr M M' := by
  obtain ⟨h1, ⟨h2, h4⟩, h3⟩ := h
  simp only [List.length_cons] at h1 h3
  have e1 : ¬ nI (vs.length + 1) ≤ 0 := by rw [i_le, i_nI (by omega), i_lit0]; omega
  have e2 : nI (vs.length + 1) ≤ (40 : Int32) := by rw [i_le, i_nI (by omega)]; show _ ≤ (40 : Int); omega
  have e3 : zu M 21 7 (nI vs.length) 21 7 = nI vs.length := by rw [zu_at, if_pos ⟨rfl, rfl⟩]
  refine ⟨zu M 21 7 (nI vs.length), ?_, ⟨e3, ?_, by omega⟩, ⟨fun q a b => zu_row a, fun j hj => by rw [zu_at, if_neg (by omega)]⟩⟩
  · rw [f_X3_pop, h1, if_neg e1, if_pos e2, znm_e, nI_m1, e3, zck_t (nI_lt_i (by omega) (by omega)), nI_cl (by omega), zu_row (by decide)]
    show some (M 26 vs.length, _) = _
    rw [h2]
  · rw [zu_row (by decide)]; exact h4
def zE2 (c a b : Int32) : Int32 := if c = 9 then a + b else if c = 10 then (if a < b then 1 else 0) else if c = 11 then (if b < a then 1 else 0) else if c = 13 then (if a + b = 2 then 1 else 0) else (if 0 < a + b then 1 else 0)
theorem and01 {a b : Int32} (ha : a = 0 ∨ a = 1) (hb : b = 0 ∨ b = 1) : a &&& b = (if a + b = 2 then 1 else 0) ∧ a ||| b = (if 0 < a + b then 1 else 0) := by
  rcases ha with rfl | rfl <;> rcases hb with rfl | rfl <;> decide
theorem lt_ite {a b : Int32} {α : Type} {x y : α} : (if b ≤ a then x else y) = if a < b then y else x := by
  by_cases h : b ≤ a
  · rw [if_pos h, if_neg (by rw [i_lt]; rw [i_le] at h; omega)]
  · rw [if_neg h, if_pos (by rw [i_lt]; rw [i_le] at h; omega)]
theorem s_fact (h : zWr T M k (N 1)) (hx : xw k) (ok : zOk (N 1)) (hw : wt = sWater (N 1) (N 1 4) (N 1 9)) (hm : m < 6) {q : Nat} (hq : q < 8) (n : Int32) : ∃ v, f_X3_termOf M (nI (21 + q)) k (nI m) wt = some v ∧ f_X11_factOf N (nI q) n (nI m) = some v ∧ (q = 6 ∨ q = 7 → v = 0 ∨ v = 1) := by
  have hp := ok.m hm (c := 0) (by omega)
  obtain ⟨p, p1, p2⟩ := nI_get (x := N 1 (38 + 5 * m + 0)) hp.1
  have h11 : (N 1 (38 + 5 * m + 0)).toInt ≤ 11 := hp.2
  have hp12 : p < 12 := by omega
  have c4 := ok.c4
  have c5 := ok.c5
  have hwi := sWater_i ok (x := N 1 4) (wind := N 1 9) c4.1 ok.c9
  have z0 : (0 : Int32) = nI 0 := rfl
  have z1 : (1 : Int32) = nI 1 := rfl
  have z3 : (3 : Int32) = nI 3 := rfl
  have t0 : ∀ x0 : Int32, f_X3_termOf M x0 k (nI m) wt = (if x0 = 21 then (some (nI m)) else if x0 = 22 then (some (nI p)) else if x0 = 23 then (zbn (f_X9_depthBy M k wt (nI p)) (fun u_5 => some u_5)) else if x0 = 24 then (some (sStep (N 1) (N 1 4))) else if x0 = 25 then (zbn (f_X9_monkCell M k (nI m) 3) (fun u_6 => some u_6)) else if x0 = 26 then (zck (decide (¬ (24 : Int32) = 0)) (some ((N 1 4) - (N 1 4) / 24 * 24))) else if x0 = 27 then (if (2 * (sStep (N 1) (N 1 4))) < (N 1 5) then (some 0) else (some 1)) else (zbn (f_X9_monkCell M k (nI m) 1) (fun u_3 => if nI p = u_3 then (some 1) else (some 0)))) := by
    intro x0
    have e0 : f_X9_monkCell M k (nI m) 0 = some (nI p) := by rw [z0, x_monkCell h hm (by omega), p2]
    rw [f_X3_termOf, e0, zbn_s, h.hour, x_stepOf h ok, zbn_s, h.period]
  have y4 : (N 1 (4 : Int32).toNatClampNeg) = N 1 4 := rfl
  have y5 : (N 1 (5 : Int32).toNatClampNeg) = N 1 5 := rfl
  have r0 : f_X11_of N (nI m) 0 = some (nI p) := by rw [z0, r_of hm (by omega), p2]
  rcases (show q = 0 ∨ q = 1 ∨ q = 2 ∨ q = 3 ∨ q = 4 ∨ q = 5 ∨ q = 6 ∨ q = 7 by omega) with e | e | e | e | e | e | e | e <;> subst e
  · exact ⟨nI m, by rw [t0, if_pos (by decide)], by rw [f_X11_factOf, if_pos (by decide)], fun hh => by omega⟩
  · exact ⟨nI p, by rw [t0, if_neg (by decide), if_pos (by decide)], by rw [f_X11_factOf, if_neg (by decide), if_pos (by decide), r0, zbn_s], fun hh => by omega⟩
  · refine ⟨sDepth (N 1) p (N 1 4), ?_, ?_, fun hh => by omega⟩
    · rw [t0, if_neg (by decide), if_neg (by decide), if_pos (by decide), hw, x_depthBy h ok (by omega) hp12, zbn_s]; rfl
    · rw [f_X11_factOf, if_neg (by decide), if_neg (by decide), if_pos (by decide), r0, zbn_s, r_depthNow ok hp12, zbn_s]
  · refine ⟨sStep (N 1) (N 1 4), ?_, ?_, fun hh => by omega⟩
    · rw [t0, if_neg (by decide), if_neg (by decide), if_neg (by decide), if_pos (by decide)]
    · rw [f_X11_factOf, if_neg (by decide), if_neg (by decide), if_neg (by decide), if_pos (by decide), zck_t (by decide), y4, r_stepOf ok, zbn_s]
  · refine ⟨N 1 (38 + 5 * m + 3), ?_, ?_, fun hh => by omega⟩
    · rw [t0, if_neg (by decide), if_neg (by decide), if_neg (by decide), if_neg (by decide), if_pos (by decide), z3, x_monkCell h hm (by omega), zbn_s]
    · rw [f_X11_factOf, if_neg (by decide), if_neg (by decide), if_neg (by decide), if_neg (by decide), if_pos (by decide), z3, r_of hm (by omega), zbn_s]
  · refine ⟨N 1 4 - N 1 4 / 24 * 24, ?_, ?_, fun hh => by omega⟩
    · rw [t0, if_neg (by decide), if_neg (by decide), if_neg (by decide), if_neg (by decide), if_neg (by decide), if_pos (by decide), zck_t (by decide)]
    · rw [f_X11_factOf, if_neg (by decide), if_neg (by decide), if_neg (by decide), if_neg (by decide), if_neg (by decide), if_pos (by decide), zck_t (by decide), zck_t (by decide)]; rfl
  · refine ⟨if (2 * (sStep (N 1) (N 1 4))) < (N 1 5) then 0 else 1, ?_, ?_, fun _ => by split <;> simp⟩
    · rw [t0, if_neg (by decide), if_neg (by decide), if_neg (by decide), if_neg (by decide), if_neg (by decide), if_neg (by decide), if_pos (by decide)]; split <;> rfl
    · rw [f_X11_factOf, if_neg (by decide), if_neg (by decide), if_neg (by decide), if_neg (by decide), if_neg (by decide), if_neg (by decide), if_pos (by decide), zck_t (by decide), y4, r_stepOf ok, zbn_s, zck_t (by decide), y5]; split <;> rfl
  · refine ⟨if nI p = N 1 (38 + 5 * m + 1) then 1 else 0, ?_, ?_, fun _ => by split <;> simp⟩
    · rw [t0, if_neg (by decide), if_neg (by decide), if_neg (by decide), if_neg (by decide), if_neg (by decide), if_neg (by decide), if_neg (by decide), z1, x_monkCell h hm (by omega), zbn_s]; split <;> rfl
    · rw [f_X11_factOf, if_neg (by decide), if_neg (by decide), if_neg (by decide), if_neg (by decide), if_neg (by decide), if_neg (by decide), if_neg (by decide), if_pos (by decide), f_X11_isThere, r0, zbn_s, z1, r_of hm (by omega), zbn_s]
      split <;> rfl
end
