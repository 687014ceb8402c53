section
variable {T : Int} {M M' N N' : zM} {k m : Nat}
theorem zu_id {c : Nat} {v : Int32} {q : Nat} (h : M q c = v) : zu M q c v = M := by
  funext a b
  rw [zu_at]
  split
  · rename_i e; rw [e.1, e.2, h]
  · rfl
theorem zu_zu {q c : Nat} {u v : Int32} : zu (zu M q c u) q c v = zu M q c v := by
  funext a b
  rw [zu_at, zu_at, zu_at]
  split <;> rfl
theorem sRange_eq {w w' : Nat → Int32} (h : ∀ j, j < 38 → w' j = w j) (x : Int32) : sRange w' x = sRange w x := by
  unfold sRange; rw [h 6 (by decide), h 7 (by decide), h 8 (by decide)]
theorem sStep_eq {w w' : Nat → Int32} (h : ∀ j, j < 38 → w' j = w j) (x : Int32) : sStep w' x = sStep w x := by
  unfold sStep; rw [h 5 (by decide)]
theorem sWater_eq {w w' : Nat → Int32} (h : ∀ j, j < 38 → w' j = w j) (x y : Int32) : sWater w' x y = sWater w x y := by
  unfold sWater; rw [sRange_eq h, sStep_eq h, h 5 (by decide)]
theorem sDepth_eq {w w' : Nat → Int32} (h : ∀ j, j < 38 → w' j = w j) {p : Nat} (hp : p < 12) (x : Int32) : sDepth w' p x = sDepth w p x := by
  unfold sDepth; rw [sWater_eq h, h 9 (by decide), h (14 + p) (by omega)]
theorem zOk.mp {w : Nat → Int32} (h : zOk w) {m : Nat} (hm : m < 6) (c : Nat) (hc : c < 2) : ∃ p : Nat, p < 12 ∧ w (38 + 5 * m + c) = nI p := by
  have h1 := h.m hm (c := c) (by omega)
  have h2 : (w (38 + 5 * m + c)).toInt ≤ 11 := by
    rcases (show c = 0 ∨ c = 1 by omega) with q | q <;> subst q <;> exact h1.2
  obtain ⟨p, p1, p2⟩ := nI_get h1.1
  exact ⟨p, by omega, p2⟩
theorem walk_loop (hx : xw k) (hm : m < 6) {wd wt : Int32} (h : zWr T M k (N 1)) (ok : zOk (N 1)) (hw : wt = sWater (N 1) (N 1 4) (N 1 9)) {g P : Nat} (hg : g < 12) (hg2 : N 1 (38 + 5 * m + 1) = nI g) (hP : N 1 (38 + 5 * m + 2) = nI P) (hP4 : P ≤ 4) : ∀ (d s p n j : Nat), s + d = P → p < 12 → d < n → d < j → ∃ p', p' < 12 ∧ b_X0_walk_27 k M (nI m) wd wt (nI g) (nI P) n (nI p) (nI s) = some (zu M (k + 3) (4 * m + 0) (nI p')) ∧ b_X11_walks_8 (nI m) wd j (zu N 1 (38 + 5 * m + 0) (nI p)) (nI s) = some (zu N 1 (38 + 5 * m + 0) (nI p')) := by
  have hwi := sWater_i ok (x := N 1 4) (wind := N 1 9) ok.c4.1 ok.c9
  have e85 : ∀ p, b_X0_walk_85 k M (nI m) (nI p) = some (zu M (k + 3) (4 * m + 0) (nI p)) := fun p => by rw [b_X0_walk_85, show (0 : Int32) = nI 0 from rfl, x_setMonk hx.2.2.1 hm (by omega), zbn_s]
  have hZ1 : ∀ p, zu N 1 (38 + 5 * m + 0) (nI p) 1 = upd (N 1) (38 + 5 * m + 0) (nI p) := fun p => zu_self
  have r0 : ∀ p, f_X11_of (zu N 1 (38 + 5 * m + 0) (nI p)) (nI m) 0 = some (nI p) := fun p => by rw [show (0 : Int32) = nI 0 from rfl, r_of hm (by omega), hZ1, upd_at, if_pos rfl]
  have r1 : ∀ p, f_X11_of (zu N 1 (38 + 5 * m + 0) (nI p)) (nI m) 1 = some (nI g) := fun p => by rw [show (1 : Int32) = nI 1 from rfl, r_of hm (by omega), hZ1, upd_at, if_neg (by omega), hg2]
  have r2 : ∀ p, f_X11_of (zu N 1 (38 + 5 * m + 0) (nI p)) (nI m) 2 = some (nI P) := fun p => by rw [show (2 : Int32) = nI 2 from rfl, r_of hm (by omega), hZ1, upd_at, if_neg (by omega), hP]
  have lo : ∀ p j, j < 38 → zu N 1 (38 + 5 * m + 0) (nI p) 1 j = N 1 j := fun p j hj => by rw [hZ1, upd_at, if_neg (by omega)]
  have okZ : ∀ p, p < 12 → zOk (zu N 1 (38 + 5 * m + 0) (nI p) 1) := fun p hp => by
    rw [hZ1]; exact ok.setM hm (by omega) (by rw [i_nI (by omega)]; exact ⟨by omega, by show (p : Int) ≤ 11; omega⟩)
  have rd : ∀ p q, p < 12 → q < 12 → f_X11_depthNow (zu N 1 (38 + 5 * m + 0) (nI p)) (nI q) = some (sDepth (N 1) q (N 1 4)) := fun p q hp hq => by
    rw [r_depthNow (okZ p hp) hq, sDepth_eq (lo p) hq, lo p 4 (by omega)]
  have xd : ∀ q, q < 12 → f_X9_depthBy M k wt (nI q) = some (sDepth (N 1) q (N 1 4)) := fun q hq => by rw [hw, x_depthBy h ok (by omega) hq]; rfl
  intro d
  induction d with
  | zero =>
    intro s p n j hs hp hn hj
    obtain ⟨n, rfl⟩ : ∃ k, n = k + 1 := ⟨n - 1, by omega⟩
    obtain ⟨j, rfl⟩ : ∃ k, j = k + 1 := ⟨j - 1, by omega⟩
    have e : s = P := by omega
    subst e
    have hle : nI s ≤ nI s := by rw [i_le]; omega
    exact ⟨p, hp, by rw [b_X0_walk_27, if_pos hle, e85], by rw [b_X11_walks_8, r2, zbn_s, if_pos hle]⟩
  | succ d ih =>
    intro s p n j hs hp hn hj
    obtain ⟨n, rfl⟩ : ∃ k, n = k + 1 := ⟨n - 1, by omega⟩
    obtain ⟨j, rfl⟩ : ∃ k, j = k + 1 := ⟨j - 1, by omega⟩
    have hle : ¬ nI P ≤ nI s := by rw [nI_leN (by omega) (by omega)]; omega
    have hth : f_X11_isThere (zu N 1 (38 + 5 * m + 0) (nI p)) (nI m) = if nI p = nI g then some 1 else some 0 := by rw [f_X11_isThere, r0, zbn_s, r1, zbn_s]
    by_cases q : p = g
    · have q' : nI p = nI g := by rw [q]
      exact ⟨p, hp, by rw [b_X0_walk_27, if_neg hle, if_pos q', e85], by rw [b_X11_walks_8, r2, zbn_s, if_neg hle, hth, if_pos q', zbn_s, if_neg n10]⟩
    · have q' : ¬ nI p = nI g := fun z => q (by rw [i_eq, i_nI (by omega), i_nI (by omega)] at z; omega)
      have step : ∀ (t0 t1 : Int32) (r : Nat), r < 12 → t1 + t0 = nI r → b_X0_walk_27 k M (nI m) wd wt (nI g) (nI P) (n + 1) (nI p) (nI s) = b_X0_walk_59 (fun x4 x7 => b_X0_walk_27 k M (nI m) wd wt (nI g) (nI P) n x4 x7) k M (nI m) wd wt (nI p) (nI g) (nI P) (nI s) (nI r) → b_X11_walks_8 (nI m) wd (j + 1) (zu N 1 (38 + 5 * m + 0) (nI p)) (nI s) = b_X11_walks_52 (fun M x3 => b_X11_walks_8 (nI m) wd j M x3) (zu N 1 (38 + 5 * m + 0) (nI p)) (nI m) wd (nI s) t0 t1 → ∃ p', p' < 12 ∧ b_X0_walk_27 k M (nI m) wd wt (nI g) (nI P) (n + 1) (nI p) (nI s) = some (zu M (k + 3) (4 * m + 0) (nI p')) ∧ b_X11_walks_8 (nI m) wd (j + 1) (zu N 1 (38 + 5 * m + 0) (nI p)) (nI s) = some (zu N 1 (38 + 5 * m + 0) (nI p')) := by
        intro t0 t1 r hr ht ex er
        rw [ex, er, b_X0_walk_59, xd r hr, zbn_s, b_X11_walks_52, ht, znm_e, znm_e, rd p r hp hr, zbn_s]
        by_cases qd : sDepth (N 1) r (N 1 4) ≤ wd
        · rw [if_pos qd, if_pos qd, show (0 : Int32) = nI 0 from rfl, r_monkAt, zbn_s, zck_t (nI_lt_i (by omega) (by omega)), nI_cl (by omega), znm_e, znm_e, zu_zu, nI_p1]
          exact ih (s + 1) r n j (by omega) hr (by omega) (by omega)
        · rw [if_neg qd, if_neg qd, b_X0_walk_72, e85]
          exact ⟨p, hp, rfl, rfl⟩
      have ex0 : b_X0_walk_27 k M (nI m) wd wt (nI g) (nI P) (n + 1) (nI p) (nI s) = (if nI g ≤ nI p then (b_X0_walk_59 (fun x4 x7 => b_X0_walk_27 k M (nI m) wd wt (nI g) (nI P) n x4 x7) k M (nI m) wd wt (nI p) (nI g) (nI P) (nI s) (nI p - 1)) else (b_X0_walk_59 (fun x4 x7 => b_X0_walk_27 k M (nI m) wd wt (nI g) (nI P) n x4 x7) k M (nI m) wd wt (nI p) (nI g) (nI P) (nI s) (nI p + 1))) := by
        rw [b_X0_walk_27, if_neg hle, if_neg q']
      have er0 : b_X11_walks_8 (nI m) wd (j + 1) (zu N 1 (38 + 5 * m + 0) (nI p)) (nI s) = (if nI g ≤ nI p then (b_X11_walks_52 (fun M x3 => b_X11_walks_8 (nI m) wd j M x3) (zu N 1 (38 + 5 * m + 0) (nI p)) (nI m) wd (nI s) (-1) (nI p)) else (b_X11_walks_52 (fun M x3 => b_X11_walks_8 (nI m) wd j M x3) (zu N 1 (38 + 5 * m + 0) (nI p)) (nI m) wd (nI s) 1 (nI p))) := by
        rw [b_X11_walks_8, r2, zbn_s, if_neg hle, hth, if_neg q', zbn_s, if_pos rfl, r0, zbn_s, r1, zbn_s, zbn_s]
      by_cases qg : nI g ≤ nI p
      · have qg2 : g ≤ p := by rw [nI_leN (by omega) (by omega)] at qg; exact qg
        obtain ⟨r, rfl⟩ : ∃ r, p = r + 1 := ⟨p - 1, by omega⟩
        rw [if_pos qg, nI_m1] at ex0
        rw [if_pos qg] at er0
        exact step (-1) (nI (r + 1)) r (by omega) (by rw [i_m1, nI_m1]) ex0 er0
      · have qg2 : ¬ g ≤ p := by rw [nI_leN (by omega) (by omega)] at qg; exact qg
        rw [if_neg qg, nI_p1] at ex0
        rw [if_neg qg] at er0
        exact step 1 (nI p) (p + 1) (by omega) (by rw [nI_p1]) ex0 er0
def zCf (k : Nat) (P : Nat → Prop) (M M' N N' : zM) : Prop := (∀ q, ¬ (k ≤ q ∧ q < k + 6) → q ≠ 21 → q ≠ 26 → M' q = M q) ∧ (∀ j, j ≠ 7 → M' 21 j = M 21 j) ∧ (∀ q, q ≠ 1 → q ≠ 8 → N' q = N q) ∧ (∀ j, ¬ P j → N' 1 j = N 1 j)
theorem zCf.refl {P : Nat → Prop} : zCf k P M M N N := ⟨fun _ _ _ _ => rfl, fun _ _ => rfl, fun _ _ _ => rfl, fun _ _ => rfl⟩
theorem zCf.trans {P : Nat → Prop} {M'' N'' : zM} (h : zCf k P M M' N N') (h' : zCf k P M' M'' N' N'') : zCf k P M M'' N N'' := ⟨fun q a b c => (h'.1 q a b c).trans (h.1 q a b c), fun j hj => (h'.2.1 j hj).trans (h.2.1 j hj), fun q a b => (h'.2.2.1 q a b).trans (h.2.2.1 q a b), fun j hj => (h'.2.2.2 j hj).trans (h.2.2.2 j hj)⟩
theorem zCf.mono {P Q : Nat → Prop} (h : zCf k P M M' N N') (hp : ∀ j, P j → Q j) : zCf k Q M M' N N' := ⟨h.1, h.2.1, h.2.2.1, fun j hj => h.2.2.2 j (fun z => hj (hp j z))⟩
theorem zCf.law {P : Nat → Prop} (f : zFr M M') (g : zFn N N') : zCf k P M M' N N' := ⟨fun q _ a b => f.1 q a b, f.2, fun q _ b => g q b, fun j _ => by rw [g 1 (by decide)]⟩
theorem zCf.set {P : Nat → Prop} {o j c : Nat} {u v : Int32} (hk : k + 6 ≤ 21) (ho : k ≤ o ∧ o < k + 6) (hc : P c) : zCf k P M (zu M o j u) N (zu N 1 c v) :=
  ⟨fun q a b c => zu_row (by omega), fun j hj => by rw [zu_row (by omega)], fun q a b => zu_row a, fun j hj => by rw [zu_self, upd_at, if_neg (fun e => hj (by rw [e]; exact hc))]⟩
theorem zLxp.law {P : Nat → Prop} (hk : k + 6 ≤ 21) (hP : ∀ j, P j → 4 ≤ j ∧ j < 332) (h : zLaw M 21 (N 1)) (c : zCf k P M M' N N') : zLaw M' 21 (N' 1) := by
  have c1 : ∀ q, 22 ≤ q → q < 26 → M' q = M q := fun q a b => c.1 q (by omega) (by omega) (by omega)
  refine (h.eq (M' := M') (c.2.1 0 (by decide)) (c1 _ (by decide) (by decide)) (c1 _ (by decide) (by decide)) (c1 _ (by decide) (by decide)) (c1 _ (by decide) (by decide))).row ?_ (fun j h1 h2 => ?_)
  · exact c.2.2.2 3 (fun z => by have := hP 3 z; omega)
  · exact c.2.2.2 j (fun z => by have := hP j z; omega)
def zPw (j : Nat) : Prop := 38 ≤ j ∧ j < 68
theorem zPw_ok : ∀ j, zPw j → 4 ≤ j ∧ j < 332 := fun j h => by unfold zPw at h; omega
theorem s_walk (hk : k + 6 ≤ 21) (hx : xw k) (hm : m < 6) {wd wt : Int32} (h : zLxp T k M N) (hw : wt = sWater (N 1) (N 1 4) (N 1 9)) : ∃ M' N', f_X0_walk M k (nI m) wd wt = some M' ∧ b_X11_walks_8 (nI m) wd 6000 N 0 = some N' ∧ zLxp T k M' N' ∧ zCf k zPw M M' N N' := by
  obtain ⟨h1, ok, h3⟩ := h
  obtain ⟨p, hp, p2⟩ := ok.mp hm 0 (by omega)
  obtain ⟨g, hg, g2⟩ := ok.mp hm 1 (by omega)
  have hpc := ok.m hm (c := 2) (by omega)
  have hpc4 : (N 1 (38 + 5 * m + 2)).toInt ≤ 4 := hpc.2
  obtain ⟨P, P1, P2⟩ := nI_get hpc.1
  obtain ⟨p', hp', a1, a2⟩ := walk_loop (wd := wd) hx hm h1 ok hw hg g2 P2 (by omega) P 0 p 6000 6000 (by omega) hp (by omega) (by omega)
  rw [zu_id p2] at a2
  have hc : zCf k zPw M (zu M (k + 3) (4 * m + 0) (nI p')) N (zu N 1 (38 + 5 * m + 0) (nI p')) := zCf.set hk (by omega) (by unfold zPw; omega)
  refine ⟨_, _, ?_, a2, ⟨?_, ?_, zLxp.law hk zPw_ok h3 hc⟩, hc⟩
  · have m0 : f_X9_monkCell M k (nI m) 0 = some (nI p) := by rw [show (0 : Int32) = nI 0 from rfl, x_monkCell h1 hm (by omega), p2]
    have m1 : f_X9_monkCell M k (nI m) 1 = some (nI g) := by rw [show (1 : Int32) = nI 1 from rfl, x_monkCell h1 hm (by omega), g2]
    have m2 : f_X9_monkCell M k (nI m) 2 = some (nI P) := by rw [show (2 : Int32) = nI 2 from rfl, x_monkCell h1 hm (by omega), P2]
    rw [f_X0_walk, m0, zbn_s, m1, zbn_s, m2, zbn_s]; exact a1
  · rw [zu_self]; exact h1.putM hm (by omega) _
  · rw [zu_self]; exact ok.setM hm (by omega) (by rw [i_nI (by omega)]; exact ⟨by omega, by show (p' : Int) ≤ 11; omega⟩)
end
