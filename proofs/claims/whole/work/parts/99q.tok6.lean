section
variable {L : Nat} {M N : zM} {b : Nat}
def zPr (L : Nat) (M N : zM) (b : Nat) : Prop := zTx L M N ∧ (∀ j, j < 154 → M 40 j = zWds.getD j 0) ∧ zTk L M b ∧ M 39 6 = -1 ∧ ∃ q, N 0 10 = nI q ∧ q ≤ L ∧ zsk L M q = b
def zNf (N N' : zM) : Prop := (∀ q, q ≠ 0 → q ≠ 1 → N' q = N q) ∧ ∀ j, j ≠ 10 → j ≠ 12 → N' 0 j = N 0 j
theorem zNf.refl : zNf N N := ⟨fun _ _ _ => rfl, fun _ _ _ => rfl⟩
theorem zNf.trans {N' N'' : zM} (h : zNf N N') (h' : zNf N' N'') : zNf N N'' := ⟨fun q a b => (h'.1 q a b).trans (h.1 q a b), fun j a b => (h'.2 j a b).trans (h.2 j a b)⟩
theorem zNb_f {p : Nat} : zNf N (zNb N b p) := ⟨fun q h0 _ => by unfold zNb; rw [zu_row h0, zu_row h0], fun j h1 h2 => by unfold zNb; rw [zu_at, if_neg (by omega), zu_at, if_neg (by omega)]⟩
theorem zNb_1 {p : Nat} : zNb N b p 1 = N 1 := by unfold zNb; rw [zu_row (by decide), zu_row (by decide)]
theorem zPr.bL (h : zPr L M N b) : b ≤ L := h.2.2.1.1
theorem zPr.next (h : zPr L M N b) {M' N' : zM} {e : Nat} (he : e ≤ L) (f : zTf M M') (hk : zTk L M' (zsk L M e)) (h10 : N' 0 10 = nI e) (h11 : N' 0 11 = N 0 11) (h6 : N' 6 = N 6) : zPr L M' N' (zsk L M e) := by
  obtain ⟨h1, h2, h3, h4, h5⟩ := h
  have hx := h1.tf f
  refine ⟨⟨hx.1, hx.2.1, by rw [h11]; exact hx.2.2.1, fun j hj => by rw [h6]; exact hx.2.2.2 j hj⟩, by rw [f.1 40 (by decide)]; exact h2, hk, by rw [f.2]; exact h4, e, h10, he, by rw [zsk_eq f.zby]⟩
theorem zPr.same (h : zPr L M N b) {N' : zM} {q : Nat} (h10 : N' 0 10 = nI q) (hq : q ≤ L) (hs : zsk L M q = b) (h11 : N' 0 11 = N 0 11) (h6 : N' 6 = N 6) : zPr L M N' b := by
  obtain ⟨h1, h2, h3, h4, h5⟩ := h
  exact ⟨⟨h1.1, h1.2.1, by rw [h11]; exact h1.2.2.1, fun j hj => by rw [h6]; exact h1.2.2.2 j hj⟩, h2, h3, h4, q, h10, hq, hs⟩
theorem zPr.skb (h : zPr L M N b) : zsk L M b = b := h.2.2.1.2.1
theorem zPr.nx (h : zPr L M N b) : ∃ M', f_X7_next M = some M' ∧ zTf M M' ∧ zTk L M' (zsk L M (zen L M b)) := by
  obtain ⟨h1, h2, h3, h4, h5⟩ := h
  have hb := h3.1
  have he : zen L M b ≤ L := by
    unfold zen
    by_cases a : L ≤ b
    · rw [if_pos a]; exact hb
    · rw [if_neg a]
      by_cases c : zir M 97 122 b = true
      · rw [if_pos c]; exact (zle_le hb).2
      · rw [if_neg c]
        by_cases d : zir M 48 57 b = true
        · rw [if_pos d]; exact (zde_le hb).2
        · rw [if_neg d]; omega
  exact x_next h1 h2 h3.2.2.2.2.1 he
theorem zPr.miss (h : zPr L M N b) : f_X7_miss M = some (0, zu M 39 6 (nI b)) := by
  rw [f_X7_miss, h.2.2.2.1, if_pos rfl, znm_e, h.2.2.1.2.2.1]
def zMf (M M' : zM) : Prop := ∀ q, q ≠ 39 → M' q = M q
theorem zTf.mf {M' : zM} (h : zTf M M') : zMf M M' := h.1
theorem miss_f {v : Int32} : zMf M (zu M 39 6 v) := fun q hq => zu_row hq
theorem zkd_cases : zkd L M b = 0 ∧ L ≤ b ∨ b < L ∧ zkd L M b = 1 ∧ zir M 97 122 b = true ∧ zen L M b = zle L M b ∨ b < L ∧ zkd L M b = 2 ∧ zir M 97 122 b = false ∧ zir M 48 57 b = true ∧ zen L M b = zde L M b ∨ b < L ∧ zkd L M b = 3 ∧ zir M 97 122 b = false ∧ zir M 48 57 b = false ∧ zen L M b = b + 1 := by
  unfold zkd zen
  by_cases a : L ≤ b
  · left; rw [if_pos a]; exact ⟨rfl, a⟩
  · right
    rw [if_neg a, if_neg a]
    cases c : zir M 97 122 b
    · right
      cases d : zir M 48 57 b
      · right; simp; omega
      · left; simp; omega
    · left; simp; omega
theorem zde_b (h : b < L → zir M 48 57 b = false) : zde L M b = b := by
  unfold zde
  by_cases q : b < L
  · rw [show L - b = (L - (b + 1)) + 1 by omega]
    show (if zir M 48 57 b then _ else _) = b
    rw [h q]; rfl
  · rw [show L - b = 0 by omega]; rfl
theorem zle_b (h : b < L → zir M 97 122 b = false) : zle L M b = b := by
  unfold zle
  by_cases q : b < L
  · rw [show L - b = (L - (b + 1)) + 1 by omega]
    show (if zir M 97 122 b then _ else _) = b
    rw [h q]; rfl
  · rw [show L - b = 0 by omega]; rfl
theorem x_plain (h : zPr L M N b) : f_X7_plainNumber M = some (zpn L M b) ∧ (¬ zpn L M b = -1 → zen L M b = zde L M b) := by
  obtain ⟨h1, h2, h3, h4, h5⟩ := h
  have hk := h3.2.2.2.1
  rw [f_X7_plainNumber, hk]
  rcases zkd_cases (L := L) (M := M) (b := b) with ⟨k, c⟩ | ⟨c, k, k1, k2⟩ | ⟨c, k, k1, k2, k3⟩ | ⟨c, k, k1, k2, k3⟩
  · have : zpn L M b = -1 := by unfold zpn; rw [zde_b (fun q => by omega), if_neg (by omega)]
    rw [k, if_neg (by decide), this]; exact ⟨rfl, fun z => absurd rfl z⟩
  · have hd : zir M 48 57 b = false := by unfold zir at k1 ⊢; simp at k1 ⊢; omega
    have : zpn L M b = -1 := by unfold zpn; rw [zde_b (fun _ => hd), if_neg (by omega)]
    rw [k, if_neg (by decide), this]; exact ⟨rfl, fun z => absurd rfl z⟩
  · have hv := (h3.2.2.2.2.2 (by rw [k]; decide)).2.1 k
    rw [k, if_pos (show nI 2 = 2 from rfl), hv]; exact ⟨rfl, fun _ => k3⟩
  · have : zpn L M b = -1 := by unfold zpn; rw [zde_b (fun _ => k2), if_neg (by omega)]
    rw [k, if_neg (by decide), this]; exact ⟨rfl, fun z => absurd rfl z⟩
def zBf (v : Int32) (bf : Nat) : Prop := v = nI bf ∧ bf ≤ 400
theorem zPr.b4 (h : zPr L M N b) : b ≤ 400 := by have := h.bL; have := h.1.1; omega
theorem j_num (h : zPr L M N b) {lo hi : Int32} (hlo : 0 ≤ lo.toInt) : (∃ M' N' b', f_X7_takeNumber M lo hi = some (zpn L M b, M') ∧ f_X11_number N lo hi = some (zpn L M b, N') ∧ (lo.toInt ≤ (zpn L M b).toInt ∧ (zpn L M b).toInt ≤ hi.toInt) ∧ zPr L M' N' b' ∧ zMf M M' ∧ zNf N N' ∧ N' 1 = N 1) ∨ (f_X7_takeNumber M lo hi = some (-1, zu M 39 6 (nI b)) ∧ ∃ N', f_X11_number N lo hi = some (-1, N') ∧ zBf (N' 0 12) b ∧ zNf N N' ∧ N' 1 = N 1) := by
  have h0 := h
  obtain ⟨h1, h2, h3, h4, q, q1, q2, q3⟩ := h0
  obtain ⟨p1, p2⟩ := x_plain h
  have hr := r_number h1 q1 q2 (lo := lo) (hi := hi) hlo
  rw [q3] at hr
  have lm : (-1 : Int32).toInt = -1 := rfl
  have hde := zde_le (M := M) (p := b) (L := L) h.bL
  by_cases c : lo.toInt ≤ (zpn L M b).toInt ∧ (zpn L M b).toInt ≤ hi.toInt
  · left
    have hne : ¬ zpn L M b = -1 := fun z => by rw [z, lm] at c; omega
    obtain ⟨M', n1, n2, n3⟩ := h.nx
    rw [p2 hne] at n3
    rw [if_pos c] at hr
    refine ⟨M', _, _, ?_, hr, c, h.next hde.2 n2 n3 zNb_10 (by unfold zNb; rw [zu_at, if_neg (by decide), zu_at, if_neg (by decide)]) (by unfold zNb; rw [zu_row (by decide), zu_row (by decide)]), n2.mf, zNb_f, zNb_1⟩
    rw [f_X7_takeNumber, p1, zbn_s, if_neg hne, if_neg (by rw [i_lt]; omega), if_pos (by rw [i_le]; omega), n1, zbn_s]
  · right
    rw [if_neg c] at hr
    refine ⟨?_, _, hr, ⟨zNb_12, h.b4⟩, zNb_f, zNb_1⟩
    have e20 : b_X7_takeNumber_20 M = some (-1, zu M 39 6 (nI b)) := by rw [b_X7_takeNumber_20, h.miss, zbn_s]
    rw [f_X7_takeNumber, p1, zbn_s, e20]
    by_cases d : zpn L M b = -1
    · rw [if_pos d]
    · rw [if_neg d]
      by_cases e : zpn L M b < lo
      · rw [if_pos e]
      · rw [if_neg e, if_neg (by rw [i_le]; rw [i_lt] at e; omega)]
theorem x_word (h : zPr L M N b) : ∃ u, f_X7_word M = some u ∧ (∀ i, i < 29 → (u = nI i ↔ zwm M b (zle L M b) (zwi i) = true)) ∧ (u = -1 ∨ 0 ≤ u.toInt ∧ u.toInt < 29) ∧ (¬ u = -1 → zen L M b = zle L M b) := by
  obtain ⟨h1, h2, h3, h4, h5⟩ := h
  have hk := h3.2.2.2.1
  rw [f_X7_word, hk]
  have none : zle L M b = b → ∀ i, i < 29 → ((-1 : Int32) = nI i ↔ zwm M b (zle L M b) (zwi i) = true) := by
    intro hz i hi
    have hl : ∀ i, i < 29 → 0 < zLen.getD (zwi i) 0 := by decide
    have := hl i hi
    constructor
    · intro z; rw [i_eq, i_nI (by omega)] at z; exact absurd z (by show ¬ (-1 : Int) = _; omega)
    · intro z; unfold zwm at z; rw [hz, decide_eq_false (by omega)] at z; simp at z
  rcases zkd_cases (L := L) (M := M) (b := b) with ⟨k, c⟩ | ⟨c, k, k1, k2⟩ | ⟨c, k, k1, k2, k3⟩ | ⟨c, k, k1, k2, k3⟩
  · rw [k, if_neg (by decide)]
    exact ⟨-1, rfl, none (zle_b (fun q => by omega)), Or.inl rfl, fun z => absurd rfl z⟩
  · have hv := (h3.2.2.2.2.2 (by rw [k]; decide)).1 k
    rw [k, if_pos (show nI 1 = 1 from rfl)]
    exact ⟨_, rfl, hv.1, hv.2, fun _ => k2⟩
  · rw [k, if_neg (by decide)]
    exact ⟨-1, rfl, none (zle_b (fun _ => k1)), Or.inl rfl, fun z => absurd rfl z⟩
  · rw [k, if_neg (by decide)]
    exact ⟨-1, rfl, none (zle_b (fun _ => k1)), Or.inl rfl, fun z => absurd rfl z⟩
theorem r_let (h : zPr L M N b) : f_X11_letters N = some (zNb N b (zle L M b)) := by
  obtain ⟨h1, h2, h3, h4, q, q1, q2, q3⟩ := h
  have := r_letters h1 q1 q2
  rw [q3] at this
  exact this
theorem r_isw (h : zPr L M N b) {i : Nat} (hi : i < 29) : f_X11_isWord (zNb N b (zle L M b)) (zwi i) = some (if zwm M b (zle L M b) (zwi i) then 1 else 0) := by
  have hle := zle_le (M := M) (p := b) (L := L) h.bL
  exact r_isWord h.1 ((zof_e i hi).2.2.1) hle.1 hle.2
theorem j_go (h : zPr L M N b) {i : Nat} (hi : i < 29) (hm : zwm M b (zle L M b) (zwi i) = true) : ∃ M', f_X7_next M = some M' ∧ zMf M M' ∧ zPr L M' (zNb N b (zle L M b)) (zsk L M (zle L M b)) := by
  obtain ⟨u, u1, u2, u3, u4⟩ := x_word h
  have hne : ¬ u = -1 := fun z => by
    have := (u2 i hi).mpr hm
    rw [z, i_eq, i_nI (by omega)] at this
    exact absurd this (by show ¬ (-1 : Int) = _; omega)
  obtain ⟨M', n1, n2, n3⟩ := h.nx
  rw [u4 hne] at n3
  have hle := zle_le (M := M) (p := b) (L := L) h.bL
  exact ⟨M', n1, n2.mf, h.next hle.2 n2 n3 zNb_10 (by unfold zNb; rw [zu_at, if_neg (by decide), zu_at, if_neg (by decide)]) (by unfold zNb; rw [zu_row (by decide), zu_row (by decide)])⟩
theorem j_after (h : zPr L M N b) {i : Nat} (hi : i < 29) {lo hi' : Int32} (hlo : 0 ≤ lo.toInt) : (∃ M1 M' N' b1 b', f_X7_takeWord M (nI i) = some (1, M1) ∧ f_X7_takeNumber M1 lo hi' = some (zpn L M b1, M') ∧ f_X11_after N (zwi i) lo hi' = some (zpn L M b1, N') ∧ (lo.toInt ≤ (zpn L M b1).toInt ∧ (zpn L M b1).toInt ≤ hi'.toInt) ∧ zPr L M' N' b' ∧ zMf M M' ∧ zNf N N' ∧ N' 1 = N 1) ∨ (∃ M1 bf N', f_X11_after N (zwi i) lo hi' = some (-1, N') ∧ zBf (N' 0 12) bf ∧ zNf N N' ∧ N' 1 = N 1 ∧ ((f_X7_takeWord M (nI i) = some (0, M1) ∧ M1 39 6 = nI bf ∧ zMf M M1) ∨ ∃ M2, f_X7_takeWord M (nI i) = some (1, M2) ∧ f_X7_takeNumber M2 lo hi' = some (-1, M1) ∧ M1 39 6 = nI bf ∧ zMf M M1)) := by
  obtain ⟨u, u1, u2, u3, u4⟩ := x_word h
  have hr0 : f_X11_after N (zwi i) lo hi' = (if (if zwm M b (zle L M b) (zwi i) then (1 : Int32) else 0) = 0 then (some ((-1), zNb N b (zle L M b))) else (zbn (f_X11_number (zNb N b (zle L M b)) lo hi') (fun u_3 => some (u_3.1, u_3.2)))) := by
    rw [f_X11_after, r_let h, zbn_s, r_isw h hi, zbn_s]
  cases hm : zwm M b (zle L M b) (zwi i) with
  | true =>
    rw [hm, if_neg (by decide)] at hr0
    obtain ⟨M1, g1, g2, g3⟩ := j_go h hi hm
    have htw : f_X7_takeWord M (nI i) = some (1, M1) := by rw [f_X7_takeWord, u1, zbn_s, if_pos ((u2 i hi).mpr hm), g1, zbn_s]
    have eb : zby M1 = zby M := by funext j; unfold zby; rw [g2 2 (by decide)]
    have ep : ∀ c, zpn L M1 c = zpn L M c := by
      intro c
      have : ∀ n, znv M1 c n = znv M c n := by
        intro n
        induction n with
        | zero => rfl
        | succ n ih => show 10 * znv _ c n + _ = 10 * znv M c n + _; rw [ih, eb]
      unfold zpn; rw [zde_eq eb, this]
    rcases j_num g3 (lo := lo) (hi := hi') hlo with ⟨M', N', b', c1, c2, c3, c4, c5, c6, c7⟩ | ⟨c1, N', c2, c3, c4, c5⟩
    · rw [ep] at c1 c2 c3
      exact Or.inl ⟨M1, M', N', _, b', htw, c1, by rw [hr0, c2, zbn_s], c3, c4, fun q hq => by rw [c5 q hq, g2 q hq], zNb_f.trans c6, by rw [c7, zNb_1]⟩
    · exact Or.inr ⟨zu M1 39 6 _, _, N', by rw [hr0, c2, zbn_s], c3, zNb_f.trans c4, by rw [c5, zNb_1], Or.inr ⟨M1, htw, c1, by rw [zu_at, if_pos ⟨rfl, rfl⟩], fun q hq => by rw [zu_row hq, g2 q hq]⟩⟩
  | false =>
    rw [hm, if_pos (by decide)] at hr0
    refine Or.inr ⟨zu M 39 6 (nI b), b, _, hr0, ⟨zNb_12, h.b4⟩, zNb_f, zNb_1, Or.inl ⟨?_, by rw [zu_at, if_pos ⟨rfl, rfl⟩], miss_f⟩⟩
    rw [f_X7_takeWord, u1, zbn_s, if_neg (fun z => by have := (u2 i hi).mp z; rw [hm] at this; exact absurd this (by decide)), h.miss, zbn_s]
    exact zck_t (show zbl 0 = true by decide)
theorem j_pass (h : zPr L M N b) {i : Nat} (hi : i < 29) : (∃ M' N' b', f_X7_skipWord M (nI i) = some (1, M') ∧ f_X11_passes N (zwi i) = some (1, N') ∧ zPr L M' N' b' ∧ zMf M M' ∧ zNf N N' ∧ N' 1 = N 1 ∧ zwm M b (zle L M b) (zwi i) = true) ∨ (∃ N', f_X7_skipWord M (nI i) = some (0, M) ∧ f_X11_passes N (zwi i) = some (0, N') ∧ zPr L M N' b ∧ zNf N N' ∧ N' 1 = N 1 ∧ zwm M b (zle L M b) (zwi i) = false) := by
  obtain ⟨u, u1, u2, u3, u4⟩ := x_word h
  have hr0 : f_X11_passes N (zwi i) = (if (if zwm M b (zle L M b) (zwi i) then (1 : Int32) else 0) = 0 then (znm (zu (zNb N b (zle L M b)) 0 10 (nI b)) (fun M_3 => some (0, M_3))) else (some (1, zNb N b (zle L M b)))) := by
    rw [f_X11_passes, r_let h, zbn_s, r_isw h hi, zbn_s, zNb_12]
  cases hm : zwm M b (zle L M b) (zwi i) with
  | true =>
    rw [hm, if_neg (by decide)] at hr0
    obtain ⟨M1, g1, g2, g3⟩ := j_go h hi hm
    exact Or.inl ⟨M1, _, _, by rw [f_X7_skipWord, u1, zbn_s, if_pos ((u2 i hi).mpr hm), g1, zbn_s], hr0, g3, g2, zNb_f, zNb_1, rfl⟩
  | false =>
    rw [hm, if_pos (by decide), znm_e, zNb_set] at hr0
    refine Or.inr ⟨_, ?_, hr0, h.same zNb_10 h.bL h.skb (by unfold zNb; rw [zu_at, if_neg (by decide), zu_at, if_neg (by decide)]) (by unfold zNb; rw [zu_row (by decide), zu_row (by decide)]), zNb_f, zNb_1, rfl⟩
    rw [f_X7_skipWord, u1, zbn_s, if_neg (fun z => by have := (u2 i hi).mp z; rw [hm] at this; exact absurd this (by decide))]
theorem x_isSign (h : zPr L M N b) {c : Nat} (hc : c < 128) (hn : ¬ (97 ≤ c ∧ c ≤ 122) ∧ ¬ (48 ≤ c ∧ c ≤ 57)) : f_X7_isSign M (nI c) = some (if b < L ∧ zby M b = c then 1 else 0) ∧ (b < L ∧ zby M b = c → zen L M b = b + 1) := by
  obtain ⟨h1, h2, h3, h4, h5⟩ := h
  have hL := h1.1
  have hk := h3.2.2.2.1
  rw [f_X7_isSign, hk]
  rcases zkd_cases (L := L) (M := M) (b := b) with ⟨k, c'⟩ | ⟨c', k, k1, k2⟩ | ⟨c', k, k1, k2, k3⟩ | ⟨c', k, k1, k2, k3⟩
  · rw [k, if_neg (by decide), if_neg (by omega)]; exact ⟨rfl, fun z => by omega⟩
  · unfold zir at k1; simp at k1
    rw [k, if_neg (by decide), if_neg (by omega)]; exact ⟨rfl, fun z => by omega⟩
  · unfold zir at k2; simp at k2
    rw [k, if_neg (by decide), if_neg (by omega)]; exact ⟨rfl, fun z => by omega⟩
  · have hv := (h3.2.2.2.2.2 (by rw [k]; decide)).2.2 k
    have h256 := (h1.b (j := b) (by omega)).2
    rw [k, if_pos (show nI 3 = 3 from rfl), hv]
    refine ⟨?_, fun _ => k3⟩
    by_cases q : zby M b = c
    · rw [if_pos (by rw [q]), if_pos ⟨c', q⟩]
    · rw [if_neg (fun z => q (by rw [i_eq, i_nI (by omega), i_nI (by omega)] at z; omega)), if_neg (fun z => q z.2)]
theorem r_bl (h : zPr L M N b) : f_X11_blanks N = some (zNb N b b) := by
  obtain ⟨h1, h2, h3, h4, q, q1, q2, q3⟩ := h
  have := r_blanks h1 q1 q2
  rw [q3] at this
  exact this
theorem r_at (h : zPr L M N b) {c : Nat} (hc : c < 128) : f_X11_isAt (zNb N b b) (nI c) (nI c) = some (if b < L ∧ zby M b = c then 1 else 0) := by
  have := r_isAt (zNb_tx h.1 (b := b) (p := b)) (lo := c) (hi := c) zNb_10 h.bL hc hc
  rw [this]
  congr 1
  by_cases q : b < L ∧ zby M b = c
  · rw [if_pos q, if_pos ⟨q.1, by unfold zir; simp; omega⟩]
  · rw [if_neg q, if_neg (fun z => q ⟨z.1, by have := z.2; unfold zir at this; simp at this; omega⟩)]
theorem j_gos (h : zPr L M N b) (hb : b < L) (he : zen L M b = b + 1) : ∃ M', f_X7_next M = some M' ∧ zMf M M' ∧ zPr L M' (zNb N b (b + 1)) (zsk L M (b + 1)) := by
  obtain ⟨M', n1, n2, n3⟩ := h.nx
  rw [he] at n3
  exact ⟨M', n1, n2.mf, h.next (by omega) n2 n3 zNb_10 (by unfold zNb; rw [zu_at, if_neg (by decide), zu_at, if_neg (by decide)]) (by unfold zNb; rw [zu_row (by decide), zu_row (by decide)])⟩
theorem zPr.bb (h : zPr L M N b) : zPr L M (zNb N b b) b := h.same zNb_10 h.bL h.skb (by unfold zNb; rw [zu_at, if_neg (by decide), zu_at, if_neg (by decide)]) (by unfold zNb; rw [zu_row (by decide), zu_row (by decide)])
theorem j_sign (h : zPr L M N b) {c : Nat} (hc : c < 128) (hn : ¬ (97 ≤ c ∧ c ≤ 122) ∧ ¬ (48 ≤ c ∧ c ≤ 57)) : (∃ M' N' b', f_X7_isSign M (nI c) = some 1 ∧ f_X7_next M = some M' ∧ f_X11_sign N (nI c) = some (1, N') ∧ zPr L M' N' b' ∧ zMf M M' ∧ zNf N N' ∧ N' 1 = N 1) ∨ (f_X7_isSign M (nI c) = some 0 ∧ f_X11_sign N (nI c) = some (0, zNb N b b) ∧ zPr L M (zNb N b b) b) := by
  obtain ⟨x1, x2⟩ := x_isSign h hc hn
  have hr : f_X11_sign N (nI c) = (if (if b < L ∧ zby M b = c then (1 : Int32) else 0) = 0 then (some (0, zNb N b b)) else (znm (zu (zNb N b b) 0 10 (nI (b + 1))) (fun M_3 => some (1, M_3)))) := by
    rw [f_X11_sign, r_bl h, zbn_s, r_at h hc, zbn_s, zNb_10, nI_p1]
  by_cases q : b < L ∧ zby M b = c
  · rw [if_pos q] at x1 hr
    rw [if_neg n10, znm_e, zNb_set] at hr
    obtain ⟨M', g1, g2, g3⟩ := j_gos h q.1 (x2 q)
    exact Or.inl ⟨M', _, _, x1, g1, hr, g3, g2, zNb_f, zNb_1⟩
  · rw [if_neg q] at x1 hr
    rw [if_pos rfl] at hr
    exact Or.inr ⟨x1, hr, h.bb⟩
theorem x_ended (h : zPr L M N b) : f_X7_ended M = some (if b = L then 1 else 0) := by
  have hk := h.2.2.1.2.2.2.1
  have hb := h.bL
  have hk4 : zkd L M b < 4 := by unfold zkd; by_cases a : L ≤ b <;> by_cases c : zir M 97 122 b = true <;> by_cases d : zir M 48 57 b = true <;> simp [a, c, d]
  rw [f_X7_ended, hk]
  rcases zkd_cases (L := L) (M := M) (b := b) with ⟨k, c'⟩ | ⟨c', k, _⟩ | ⟨c', k, _⟩ | ⟨c', k, _⟩
  · rw [k, if_pos (show nI 0 = 0 from rfl), if_pos (by omega)]
  · rw [k, if_neg (by decide), if_neg (by omega)]
  · rw [k, if_neg (by decide), if_neg (by omega)]
  · rw [k, if_neg (by decide), if_neg (by omega)]
end
