section
variable {t : Nat} {M N : zM}
theorem zBt_uniq {v v' : Int32} {f : Nat → Int32} {n : Nat} (h : zBt v f n) (h' : zBt v' f n) : v = v' := tb_ext (fun j hj => (h j hj).trans (h' j hj).symm)
theorem nI_leN {a b : Nat} (ha : a < 2147483648) (hb : b < 2147483648) : nI a ≤ nI b ↔ a ≤ b := nI_leI ha hb
theorem nI_ltN {a b : Nat} (ha : a < 2147483648) (hb : b < 2147483648) : nI a < nI b ↔ a < b := nI_ltI ha hb
theorem z01 {x : Int32} (h : 0 ≤ x.toInt ∧ x.toInt ≤ 1) : x = 0 ∨ x = 1 := by
  rcases (show x.toInt = 0 ∨ x.toInt = 1 by omega) with q | q
  · left; rw [i_eq, q]; rfl
  · right; rw [i_eq, q]; rfl
theorem zOk.k01 {w : Nat → Int32} (h : zOk w) {d : Nat} (hd : d < 6) : w (71 + 4 * d) = 0 ∨ w (71 + 4 * d) = 1 := by
  have h1 := h.d hd (c := 3) (by omega)
  have he : 68 + 4 * d + 3 = 71 + 4 * d := by omega
  rw [he] at h1
  exact z01 h1
theorem zOk.m01 {w : Nat → Int32} (h : zOk w) {d : Nat} (hd : d < 6) : w (42 + 5 * d) = 0 ∨ w (42 + 5 * d) = 1 := by
  have h1 := h.m hd (c := 4) (by omega)
  have he : 38 + 5 * d + 4 = 42 + 5 * d := by omega
  rw [he] at h1
  exact z01 h1
theorem x_isKept {T : Int} {k : Nat} {w : Nat → Int32} (h : zWr T M k w) (ok : zOk w) {d : Nat} (hd : d < 6) : f_X9_isKept M k (nI d) = some (w (71 + 4 * d)) := by
  unfold f_X9_isKept
  rw [zbn_e (x_has _ (by omega)), h.kept d (by omega)]
  rcases ok.k01 hd with q | q <;> simp [q, hd, zck, zbl]
theorem x_isDrowned {T : Int} {k : Nat} {w : Nat → Int32} (h : zWr T M k w) (ok : zOk w) {d : Nat} (hd : d < 6) : f_X9_isDrowned M k (nI d) = some (w (42 + 5 * d)) := by
  unfold f_X9_isDrowned
  rw [zbn_e (x_has _ (by omega)), h.drowned d (by omega)]
  rcases ok.m01 hd with q | q <;> simp [q, hd, zck, zbl]
theorem r_isKept' (ok : zOk (N 1)) {m : Nat} (hm : m < 6) : f_X11_isKept N (nI m) = some (N 1 (71 + 4 * m)) := by
  rw [r_isKept hm]; rcases ok.k01 hm with q | q <;> simp [q]
theorem r_isDrowned' (ok : zOk (N 1)) {m : Nat} (hm : m < 6) : f_X11_isDrowned N (nI m) = some (N 1 (42 + 5 * m)) := by
  rw [r_isDrowned hm]; rcases ok.m01 hm with q | q <;> simp [q]
def zGa (v : Int32) (f : Nat → Bool) (n : Nat) : Prop := ∀ j, j < 32 → tb v j = decide (j < n ∧ f j = true)
theorem zGa_0 (f : Nat → Bool) : zGa 0 f 0 := fun j hj => by simp [tb_0]
theorem zGa_y {v : Int32} {f : Nat → Bool} {n : Nat} (h : zGa v f n) (hn : n < 32) (hf : f n = true) : zGa (v ||| ((1 : Int32) <<< (nI n &&& 31))) f (n + 1) := fun j hj => by
  rw [tb_or, h j hj, tb_shl1 hn]
  by_cases e : j = n
  · subst e; simp [hf]
  · by_cases e2 : j < n
    · simp [e2, e, show j < n + 1 by omega]
    · simp [e2, e, show ¬ j < n + 1 by omega]
theorem zGa_n {v : Int32} {f : Nat → Bool} {n : Nat} (h : zGa v f n) (hf : f n = false) : zGa v f (n + 1) := fun j hj => by
  rw [h j hj]
  by_cases e : j = n
  · subst e; simp [hf]
  · by_cases e2 : j < n
    · simp [e2, show j < n + 1 by omega]
    · simp [e2, show ¬ j < n + 1 by omega]
theorem or_0 (x : Int32) : x ||| 0 = x := tb_ext (fun j _ => by rw [tb_or, tb_0]; simp)
theorem r_keptLoop (ok : zOk (N 1)) {D : Nat} (hD : N 1 1 = nI D) (hD6 : D ≤ 6) : ∀ (d i n : Nat) (v : Int32), i + d = D → d < n → zGa v (fun j => decide (N 1 (71 + 4 * j) = 1)) i → ∃ v', b_X11_keptOnes_4 N n v (nI i) = some v' ∧ zGa v' (fun j => decide (N 1 (71 + 4 * j) = 1)) D := by
  intro d
  induction d with
  | zero =>
    intro i n v hi hn hv
    obtain ⟨n, rfl⟩ : ∃ k, n = k + 1 := ⟨n - 1, by omega⟩
    have e : i = D := by omega
    subst e
    refine ⟨v, ?_, hv⟩
    simp [b_X11_keptOnes_4, r_duties, zbn_s, hD]
  | succ d ih =>
    intro i n v hi hn hv
    obtain ⟨n, rfl⟩ : ∃ k, n = k + 1 := ⟨n - 1, by omega⟩
    have hle : ¬ nI D ≤ nI i := by rw [nI_leN (by omega) (by omega)]; omega
    rcases ok.k01 (show i < 6 by omega) with q | q
    · obtain ⟨v', h1, h2⟩ := ih (i + 1) n v (by omega) (by omega) (zGa_n hv (by simp [q]))
      refine ⟨v', ?_, h2⟩
      simp [b_X11_keptOnes_4, r_duties, zbn_s, hD, hle, r_isKept' ok (show i < 6 by omega), q, b_X11_keptOnes_28, znm_e, or_0, nI_1, h1]
    · obtain ⟨v', h1, h2⟩ := ih (i + 1) n _ (by omega) (by omega) (zGa_y hv (by omega) (by simp [q]))
      refine ⟨v', ?_, h2⟩
      simp [b_X11_keptOnes_4, r_duties, zbn_s, hD, hle, r_isKept' ok (show i < 6 by omega), q, b_X11_keptOnes_28, znm_e, nI_1, h1]
theorem r_keptOnes (ok : zOk (N 1)) {v : Int32} (hv : zBt v (fun d => N 1 (71 + 4 * d)) 6) : f_X11_keptOnes N = some v := by
  obtain ⟨D, e1, e2⟩ := nI_get (x := N 1 1) ok.c1.1
  have hD := ok.c1
  obtain ⟨v', h1, h2⟩ := r_keptLoop ok e2 (by omega) D 0 6000 0 (by omega) (by omega) (zGa_0 _)
  unfold f_X11_keptOnes
  rw [show (0 : Int32) = nI 0 from rfl] at h1 ⊢
  rw [h1]
  congr 1
  apply tb_ext
  intro j hj
  rw [h2 j hj, hv j hj]
  by_cases q : j < D
  · simp [q, show j < 6 by omega]
  · by_cases q6 : j < 6
    · have h0 := ok.2.2.2 j q6 (by omega)
      simp [q, h0]
    · simp [q, q6]
theorem r_drownedLoop (ok : zOk (N 1)) {D : Nat} (hD : N 1 0 = nI D) (hD6 : D ≤ 6) : ∀ (d i n : Nat) (v : Int32), i + d = D → d < n → zGa v (fun j => decide (N 1 (42 + 5 * j) = 1)) i → ∃ v', b_X11_drownedOnes_4 N n v (nI i) = some v' ∧ zGa v' (fun j => decide (N 1 (42 + 5 * j) = 1)) D := by
  intro d
  induction d with
  | zero =>
    intro i n v hi hn hv
    obtain ⟨n, rfl⟩ : ∃ k, n = k + 1 := ⟨n - 1, by omega⟩
    have e : i = D := by omega
    subst e
    refine ⟨v, ?_, hv⟩
    simp [b_X11_drownedOnes_4, r_monks, zbn_s, hD]
  | succ d ih =>
    intro i n v hi hn hv
    obtain ⟨n, rfl⟩ : ∃ k, n = k + 1 := ⟨n - 1, by omega⟩
    have hle : ¬ nI D ≤ nI i := by rw [nI_leN (by omega) (by omega)]; omega
    rcases ok.m01 (show i < 6 by omega) with q | q
    · obtain ⟨v', h1, h2⟩ := ih (i + 1) n v (by omega) (by omega) (zGa_n hv (by simp [q]))
      refine ⟨v', ?_, h2⟩
      simp [b_X11_drownedOnes_4, r_monks, zbn_s, hD, hle, r_isDrowned' ok (show i < 6 by omega), q, b_X11_drownedOnes_28, znm_e, or_0, nI_1, h1]
    · obtain ⟨v', h1, h2⟩ := ih (i + 1) n _ (by omega) (by omega) (zGa_y hv (by omega) (by simp [q]))
      refine ⟨v', ?_, h2⟩
      simp [b_X11_drownedOnes_4, r_monks, zbn_s, hD, hle, r_isDrowned' ok (show i < 6 by omega), q, b_X11_drownedOnes_28, znm_e, nI_1, h1]
theorem r_drownedOnes (ok : zOk (N 1)) {v : Int32} (hv : zBt v (fun d => N 1 (42 + 5 * d)) 6) : f_X11_drownedOnes N = some v := by
  obtain ⟨D, e1, e2⟩ := nI_get (x := N 1 0) ok.c0.1
  have hD := ok.c0
  obtain ⟨v', h1, h2⟩ := r_drownedLoop ok e2 (by omega) D 0 6000 0 (by omega) (by omega) (zGa_0 _)
  unfold f_X11_drownedOnes
  rw [show (0 : Int32) = nI 0 from rfl] at h1 ⊢
  rw [h1]
  congr 1
  apply tb_ext
  intro j hj
  rw [h2 j hj, hv j hj]
  by_cases q : j < D
  · simp [q, show j < 6 by omega]
  · by_cases q6 : j < 6
    · have h0 := ok.2.2.1 j q6 (by omega)
      simp [q, h0]
    · simp [q, q6]
theorem s_duty (t : Nat) : zs_duty (zRel t) (zRel (t + 1)) := by
  intro M N h x1 x2
  have hdu := h.ok.c1
  by_cases hp : 0 ≤ x1.toInt ∧ x1.toInt < (N 1 1).toInt
  · obtain ⟨p, e1, rfl⟩ := nI_get hp.1
    have hp12 : p < 6 := by omega
    have hx2 : ∀ c : Nat, c < 4 → f_X11_duty N (nI p) (nI c) = some (N 1 (68 + 4 * p + c), zu N 0 0 0) := by
      intro c hc
      have hi := i_nI (n := c) (by omega)
      simp [f_X11_duty, b_X11_duty_33, znm_e, zbn_s, r_noDuty (ok0 h.ok), zu00_1, hp, r_thr0, r_in, hi, show (c : Int) ≤ 3 by omega, r_ofDuty hp12 hc]
    by_cases q0 : x2 = 0
    · subst q0
      refine zsT_ok (M1 := M) ?_ (hx2 0 (by omega)) zu00_c (h.thr 0).more
      simp [f_X10_duty, g_duty, h.w.duties, hp, zbt_i]
      rw [show (0 : Int32) = nI 0 from rfl, x_dutyCell rfl h.w hp12 (by omega), zbn_s]
      rfl
    by_cases q1 : x2 = 1
    · subst q1
      refine zsT_ok (M1 := M) ?_ (hx2 1 (by omega)) zu00_c (h.thr 0).more
      simp [f_X10_duty, g_duty, h.w.duties, hp, zbt_i]
      rw [show (1 : Int32) = nI 1 from rfl, x_dutyCell rfl h.w hp12 (by omega), zbn_s]
    by_cases q2 : x2 = 2
    · subst q2
      refine zsT_ok (M1 := M) ?_ (hx2 2 (by omega)) zu00_c (h.thr 0).more
      simp [f_X10_duty, g_duty, h.w.duties, hp, zbt_i]
      rw [show (2 : Int32) = nI 2 from rfl, x_dutyCell rfl h.w hp12 (by omega), zbn_s]
    by_cases q3 : x2 = 3
    · subst q3
      refine zsT_ok (M1 := M) ?_ (hx2 3 (by omega)) zu00_c (h.thr 0).more
      have he : 68 + 4 * p + 3 = 71 + 4 * p := by omega
      simp [f_X10_duty, g_duty, h.w.duties, hp, zbt_i, x_isKept h.w h.ok hp12, zbn_s, he]
      rcases h.ok.k01 hp12 with q | q <;> simp [q]
    · refine zsT_ex (M1 := M) (k := 3) (b := 0) (N1 := zu N 0 0 2) ?_ ?_ (Or.inr rfl) zu00_c (h.thr 2).more
      · simp [f_X10_duty, g_duty, h.w.duties, hp, zbt_i, q0, q1, q2, q3]
      · have hr : ¬ (0 ≤ x2.toInt ∧ x2.toInt ≤ 3) := by
          rw [i_eq] at q0 q1 q2 q3
          have e0 : (0 : Int32).toInt = 0 := rfl
          have e1 : (1 : Int32).toInt = 1 := rfl
          have e2 : (2 : Int32).toInt = 2 := rfl
          have e3 : (3 : Int32).toInt = 3 := rfl
          omega
        simp [f_X11_duty, b_X11_duty_33, znm_e, zbn_s, r_noDuty (ok0 h.ok), zu00_1, hp, r_thr0, r_thr1, r_in, hr, zu00_00]
  · refine zsT_ex (M1 := M) (k := 0) (b := 0) (N1 := zu N 0 0 1) ?_ ?_ (Or.inl rfl) zu00_c (h.thr 1).more
    · simp [f_X10_duty, g_duty, h.w.duties, hp, zbt_x]
    · simp [f_X11_duty, znm_e, zbn_s, r_noDuty (ok0 h.ok), zu00_1, hp, r_thr1, zu00_00]
end
