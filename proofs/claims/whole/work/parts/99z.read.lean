section
variable {L : Nat} {M M' N N' : zM} {b : Nat}
theorem read_loop {K : Nat} {x1 : Int32} (hK : x1 = 0 ∧ K = 12 ∨ x1 = 1 ∧ K = 14) {F : Nat → zM → Int32 → Option (Int32 × zM)} {line : zM → Option (Int32 × zM)} {I : Nat → zM → zM → Nat → Prop} {Q : zM → zM → Prop}
    (hF : ∀ n M x, F (n + 1) M x = if nI K < x then (some (M 39 6, M)) else (if x = nI K then (zbn (f_X7_miss M) (fun u_1 => some (u_1.2 39 6, u_1.2))) else (zbn (line M) (fun u_2 => if u_2.1 = 0 then (some (u_2.2 39 6, u_2.2)) else (zbn (f_X7_ended u_2.2) (fun u_3 => if u_3 = 0 then (zbn (f_X7_takeSign u_2.2 59) (fun u_4 => if u_4.1 = 0 then (some (u_4.2 39 6, u_4.2)) else (F n u_4.2 (x + 1)))) else (some (u_2.2 39 6, u_2.2))))))))
    (hI : ∀ n M N b, I n M N b → zPr L M N b)
    (hmove : ∀ n M N b M' N' b', I n M N b → zPr L M' N' b' → b ≤ b' → zMf M M' → zNf N N' → N' 1 = N 1 → I n M' N' b')
    (hQ : ∀ n M N b M' N', I n M N b → zMf M M' → zNf N N' → N' 1 = N 1 → Q M' N')
    (hline : ∀ n M N b, I n M N b → n < K → (∃ M' N' b', line M = some (1, M') ∧ f_X11_readLine N x1 (nI n) = some (1, N') ∧ I (n + 1) M' N' b') ∨ (∃ M' N' bf, line M = some (0, M') ∧ f_X11_readLine N x1 (nI n) = some (0, N') ∧ M' 39 6 = nI bf ∧ zBf (N' 0 12) bf ∧ Q M' N')) :
    ∀ (r n k k' : Nat) (M N : zM) (b : Nat), n + r = K → r < k → r < k' → I n M N b → (∃ M' N' b' m, F k M (nI n) = some (-1, M') ∧ b_X11_readAll_28 x1 k' N (nI n) = some (nI m, N') ∧ I m M' N' b' ∧ m ≤ K) ∨ (∃ M' N' bf, F k M (nI n) = some (nI bf, M') ∧ b_X11_readAll_28 x1 k' N (nI n) = some (-1, N') ∧ zBf (N' 0 12) bf ∧ Q M' N') := by
  have hK14 : K ≤ 14 := by omega
  intro r
  induction r with
  | zero =>
    intro n k k' M N b hn hk hk' hi
    obtain ⟨k, rfl⟩ : ∃ j, k = j + 1 := ⟨k - 1, by omega⟩
    obtain ⟨k', rfl⟩ : ∃ j, k' = j + 1 := ⟨k' - 1, by omega⟩
    have p := hI n M N b hi
    have en : n = K := by omega
    right
    refine ⟨zu M 39 6 (nI b), zNb N b (zle L M b), b, ?_, ?_, ⟨zNb_12, p.b4⟩, hQ n M N b _ _ hi miss_f zNb_f zNb_1⟩
    · rw [hF, en, if_neg (by rw [i_lt]; omega), if_pos rfl, p.miss, zbn_s]
      dsimp only
      rw [zu_at, if_pos ⟨rfl, rfl⟩]
    · rw [b_X11_readAll_28, f_X11_readLine, r_let p, zbn_s, en]
      rcases hK with ⟨e1, e2⟩ | ⟨e1, e2⟩
      · rw [e1, e2, if_pos rfl, b_X11_readLine_16, if_pos (by decide), zbn_s, if_pos rfl]
      · rw [e1, e2, if_neg n10, b_X11_readLine_16, if_pos (by decide), zbn_s, if_pos rfl]
  | succ r ih =>
    intro n k k' M N b hn hk hk' hi
    obtain ⟨k, rfl⟩ : ∃ j, k = j + 1 := ⟨k - 1, by omega⟩
    obtain ⟨k', rfl⟩ : ∃ j, k' = j + 1 := ⟨k' - 1, by omega⟩
    have hX : F (k + 1) M (nI n) = (zbn (line M) (fun u_2 => if u_2.1 = 0 then (some (u_2.2 39 6, u_2.2)) else (zbn (f_X7_ended u_2.2) (fun u_3 => if u_3 = 0 then (zbn (f_X7_takeSign u_2.2 59) (fun u_4 => if u_4.1 = 0 then (some (u_4.2 39 6, u_4.2)) else (F k u_4.2 (nI n + 1)))) else (some (u_2.2 39 6, u_2.2)))))) := by
      rw [hF, if_neg (by rw [i_lt, i_nI (by omega), i_nI (by omega)]; omega), if_neg (fun z => by rw [i_eq, i_nI (by omega), i_nI (by omega)] at z; omega)]
    rw [hX, b_X11_readAll_28]
    rcases hline n M N b hi (by omega) with ⟨M1, N1, b1, c1, c2, c3⟩ | ⟨M1, N1, bf, c1, c2, c3, c4, c5⟩
    · have p1 := hI _ _ _ _ c3
      have hb1 := p1.bL
      have hL := p1.1.1
      have e11 : zNb N1 b1 b1 0 11 = nI L := by rw [zNb_16 (by decide) (by decide)]; exact p1.1.2.2.1
      rw [c1, zbn_s, c2, zbn_s]
      dsimp only
      rw [if_neg n10, if_neg n10, x_ended p1, zbn_s, r_bl p1, zbn_s, zNb_10, e11]
      by_cases q : b1 = L
      · left
        rw [if_pos q, if_neg n10, if_pos (by rw [q]), b_X11_readAll_54]
        exact ⟨M1, _, b1, n + 1, by rw [p1.2.2.2.1], by rw [nI_p1], hmove _ _ _ _ _ _ _ c3 p1.bb (Nat.le_refl _) (fun _ _ => rfl) zNb_f zNb_1, by omega⟩
      · rw [if_neg q, if_pos rfl, if_neg (fun z => q (by rw [i_eq, i_nI (by omega), i_nI (by omega)] at z; omega)), show (59 : Int32) = nI 59 from rfl, r_at p1 (by omega), zbn_s, f_X7_takeSign]
        obtain ⟨x1', x2⟩ := x_isSign p1 (c := 59) (by omega) (by omega)
        rw [x1', zbn_s]
        by_cases a : b1 < L ∧ zby M1 b1 = 59
        · obtain ⟨M2, g1, g2, g3⟩ := j_gos p1 a.1 (x2 a)
          have hsk := (zsk_le (M := M1) (L := L) (p := b1 + 1) (by omega)).1
          rw [if_pos a, if_neg n10, if_neg n10, g1, zbn_s, zbn_s]
          dsimp only
          rw [if_neg n10, znm_e, nI_p1, znm_e, nI_p1, zNb_set]
          exact ih (n + 1) k k' M2 _ _ (by omega) (by omega) (by omega) (hmove _ _ _ _ _ _ _ c3 g3 (by omega) g2 zNb_f zNb_1)
        · right
          rw [if_neg a, if_pos rfl, if_pos rfl, p1.miss, zbn_s, zck_t (show zbl 0 = true by decide), zbn_s]
          dsimp only
          rw [if_pos rfl]
          exact ⟨_, _, b1, by rw [zu_at, if_pos ⟨rfl, rfl⟩], rfl, ⟨zNb_12, p1.b4⟩, hQ _ _ _ _ _ _ c3 miss_f zNb_f zNb_1⟩
    · right
      refine ⟨M1, N1, bf, ?_, ?_, c4, c5⟩
      · rw [c1, zbn_s]
        dsimp only
        rw [if_pos rfl, c3]
      · rw [c2, zbn_s, if_pos rfl]
theorem j_open (hL : L ≤ 400) (h11 : M 1 1 = nI L) (hb : ∀ j, j < 400 → 0 ≤ (M 2 j).toInt ∧ (M 2 j).toInt ≤ 255 ∧ N 6 j = (M 2 j).toInt8.toInt32) (hw : ∀ j, j < 154 → M 40 j = zWds.getD j 0) (n11 : N 0 11 = nI L) (h10 : N 0 10 = 0) : ∃ M', f_X7_open M = some M' ∧ zMf M M' ∧ zPr L M' N (zsk L M 0) := by
  have hZ : zMf M (zu (zu M 39 6 (-1)) 39 5 0) := fun q hq => by rw [zu_row hq, zu_row hq]
  obtain ⟨Z, eZ⟩ : ∃ Z, Z = zu (zu M 39 6 (-1)) 39 5 0 := ⟨_, rfl⟩
  rw [← eZ] at hZ
  have hby : zby Z = zby M := by funext j; unfold zby; rw [hZ 2 (by decide)]
  have hx : zTx L Z N := ⟨hL, by rw [hZ 1 (by decide)]; exact h11, n11, fun j hj => by rw [hZ 2 (by decide)]; exact hb j hj⟩
  obtain ⟨M', a1, a2, a3⟩ := x_next hx (by rw [hZ 40 (by decide)]; exact hw) (p := 0) (by rw [eZ, zu_at, if_pos ⟨rfl, rfl⟩]; rfl) (by omega)
  rw [zsk_eq hby] at a3
  refine ⟨M', by rw [f_X7_open, znm_e, znm_e, ← eZ, a1, zbn_s], fun q hq => by rw [a2.1 q hq, hZ q hq], hx.tf a2, by rw [a2.1 40 (by decide), hZ 40 (by decide)]; exact hw, a3, ?_, 0, h10, by omega, ?_⟩
  · rw [a2.2, eZ, zu_at, if_neg (by decide), zu_at, if_pos ⟨rfl, rfl⟩]
  · rw [zsk_eq a2.zby, zsk_eq hby]
def zUz (N : zM) (L : Nat) : zM := zu (zu (zu (zu (zu N 0 0 0) 0 11 (nI L)) 0 9 0) 0 10 0) 0 16 0
theorem zUz_q {q : Nat} (h : q ≠ 0) : zUz N L q = N q := by unfold zUz; rw [zu_row h, zu_row h, zu_row h, zu_row h, zu_row h]
theorem zUz_0 {j : Nat} : zUz N L 0 j = if j = 16 then 0 else if j = 10 then 0 else if j = 9 then 0 else if j = 11 then nI L else if j = 0 then 0 else N 0 j := by
  unfold zUz
  simp only [zu_at, true_and]
theorem r_readAll (h9 : N 0 9 = nI L) {x1 : Int32} : f_X11_readAll N x1 = zbn (f_X11_blanks (zUz N L)) (fun u_11 => if (u_11 0 10) = (u_11 0 11) then (some (0, u_11)) else (b_X11_readAll_28 x1 6000 u_11 0)) := by
  rw [f_X11_readAll, f_X11_uses, znm_e, zu00_0 (by decide), h9, znm_e, znm_e, znm_e, zbn_s, znm_e]; rfl
theorem zRel.read {t : Nat} {v : Int32} (h : zRel t M N) (hq : ∀ q, q < 125 → zDull q = false → q ≠ 0 → q ≠ 1 → M' q = M q) (h14 : M' 0 14 = M 0 14) (h13 : M' 0 13 = v) (h11 : M' 1 1 = 0) (n1 : ∀ j, j < 1181 → N' 1 j = N 1 j) (n2 : N' 2 = N 2) (n5 : N' 5 = N 5) (n6 : N' 6 = N 6) (n06 : N' 0 6 = N 0 6) (n07 : N' 0 7 = N 0 7) (n09 : N' 0 9 = 0) (n014 : N' 0 14 = v) : zRel (t + 1) M' N' := by
  have hd : ∀ q, 51 ≤ q → zDull q = false := fun q hq => by simp [zDull]; omega
  refine ⟨?_, ?_, ?_, ?_, ?_, ?_, ?_, ?_⟩
  · exact ((h.w.more (by omega)).eq6 (fun q h1 h2 => hq q (by omega) (by simp [zDull]; omega) (by omega) (by omega))).row (fun j hj => n1 j (by omega))
  · exact h.ok.row (fun j hj => n1 j (by omega))
  · exact (h.law.eq (M' := M') (by rw [hq 21 (by decide) rfl (by decide) (by decide)]) (hq _ (by decide) rfl (by decide) (by decide)) (hq _ (by decide) rfl (by decide) (by decide)) (hq _ (by decide) rfl (by decide) (by decide)) (hq _ (by decide) rfl (by decide) (by decide))).row (n1 3 (by decide)) (fun j _ hj => n1 j hj)
  · refine ⟨by rw [h11, n09], by rw [n09]; decide, by rw [n09]; decide, fun j hj => ?_⟩
    rw [hq 2 (by decide) rfl (by decide) (by decide), n6]; exact h.tape.2.2.2 j hj
  · rw [h13, n014]
  · exact (h.img.more (by omega)).eq h14 (fun q h1 h2 => hq q (by omega) (by simp [zDull]; omega) (by omega) (by omega)) (fun q h1 h2 => hq q (by omega) (by simp [zDull]; omega) (by omega) (by omega)) n06 n2
  · exact (h.past.more (by omega)).eq (hq 51 (by decide) rfl (by decide) (by decide)) (fun q h1 h2 => hq q h2 (hd q (by omega)) (by omega) (by omega)) n07 n5 (n1 3 (by decide))
  · rw [hq 40 (by decide) rfl (by decide) (by decide)]; exact h.words
end
