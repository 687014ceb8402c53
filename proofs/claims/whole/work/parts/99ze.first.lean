section
def zM0 : zM := fun k j => if xk k = 8 then ([0, 0, 1, 0, 0, 12, 14, 6, 12] : List Int32).getD j 0 else if xk k = 2 then (if j = 0 then -1 else 0) else if k = 0 then (if j = 13 then -1 else 0) else if k = 39 then (if j = 6 then -1 else 0) else if k = 40 then zch j else 0
def zrow0 : Nat → Int32 := upd (upd (upd (upd (upd (fun _ => 0) (5 : Int32).toNatClampNeg 12) (6 : Int32).toNatClampNeg 14) (7 : Int32).toNatClampNeg 6) (8 : Int32).toNatClampNeg 12) (13 : Int32).toNatClampNeg 1
def zN0 : zM := fun k j => if k = 0 then (if j = 14 then -1 else 0) else if k = 1 then zrow0 j else 0
theorem zrow0_e (j : Nat) : zrow0 j = if j = 13 then 1 else if j = 8 then 12 else if j = 7 then 6 else if j = 6 then 14 else if j = 5 then 12 else 0 := rfl
theorem zM0_w {k j : Nat} (h : xk k = 8) : zM0 k j = ([0, 0, 1, 0, 0, 12, 14, 6, 12] : List Int32).getD j 0 := by unfold zM0; rw [if_pos h]
theorem zM0_i {k j : Nat} (h : xk k = 20) : zM0 k j = 0 := by
  have h0 : k ≠ 0 := fun z => by rw [z] at h; exact absurd h (by decide)
  have h1 : k ≠ 39 := fun z => by rw [z] at h; exact absurd h (by decide)
  have h2 : k ≠ 40 := fun z => by rw [z] at h; exact absurd h (by decide)
  unfold zM0
  rw [if_neg (by rw [h]; decide), if_neg (by rw [h]; decide), if_neg h0, if_neg h1, if_neg h2]
theorem zrow0_0 {j : Nat} (h : j ≠ 5 ∧ j ≠ 6 ∧ j ≠ 7 ∧ j ≠ 8 ∧ j ≠ 13) : zrow0 j = 0 := by
  rw [zrow0_e, if_neg (by omega), if_neg (by omega), if_neg (by omega), if_neg (by omega), if_neg (by omega)]
theorem zRel_0 : zRel 0 zM0 zN0 := by
  have e1 : zN0 1 = zrow0 := by funext j; rfl
  have ew : ∀ j, zM0 3 j = ([0, 0, 1, 0, 0, 12, 14, 6, 12] : List Int32).getD j 0 := fun j => zM0_w (by decide +kernel)
  have ei : ∀ k, 4 ≤ k → k < 9 → ∀ j, zM0 k j = 0 := fun k h1 h2 j => by
    have : ∀ k, k < 9 → 4 ≤ k → xk k = 20 := by decide +kernel
    exact zM0_i (this k h2 h1)
  refine ⟨?_, ?_, ?_, ?_, ?_, ?_, ?_, ?_⟩
  · rw [e1]
    refine ⟨⟨?_, ?_, ?_, ?_, ?_, ?_, ?_, ?_, ?_, ?_, ?_, ?_⟩, ⟨?_, ?_⟩, ⟨?_, ?_, ?_⟩, ?_, ?_, ?_, ?_, ?_⟩
    · rw [ew]; rfl
    · rw [ew]; rfl
    · rw [ew]; rfl
    · rw [ew]; rfl
    · rw [ew]; rfl
    · rw [ew]; rfl
    · rw [ew]; rfl
    · rw [ew]; rfl
    · rw [ew]; rfl
    · rw [ew]; rfl
    · rw [ew]; rfl
    · rw [ew]; rfl
    · intro j hj
      rw [ew, show ([0, 0, 1, 0, 0, 12, 14, 6, 12] : List Int32).getD 12 0 = 0 from rfl, tb_0]
      symm
      rw [decide_eq_false_iff_not]
      intro z
      have z1 := z.1
      have : zrow0 (42 + 5 * j) = 1 := z.2
      rw [zrow0_0 (by omega)] at this
      exact absurd this (by decide)
    · intro j hj
      rw [ew, show ([0, 0, 1, 0, 0, 12, 14, 6, 12] : List Int32).getD 13 0 = 0 from rfl, tb_0]
      symm
      rw [decide_eq_false_iff_not]
      intro z
      have z1 := z.1
      have : zrow0 (71 + 4 * j) = 1 := z.2
      rw [zrow0_0 (by omega)] at this
      exact absurd this (by decide)
    · rw [ew]; decide
    · rw [ew]; decide
    · rw [ew, zrow0_0 (by omega)]; decide
    · intro p hp; rw [ei _ (by omega) (by omega), zrow0_0 (by omega)]
    · intro p hp; rw [ei _ (by omega) (by omega), zrow0_0 (by omega)]
    · intro m hm c hc; rw [ei _ (by omega) (by omega), zrow0_0 (by omega)]
    · intro m hm c hc; rw [ei _ (by omega) (by omega), zrow0_0 (by omega)]
    · intro a ha hl
      rw [ew] at hl
      have : (a : Int) < 0 := hl
      omega
  · rw [e1]
    refine ⟨?_, ?_, fun m hm _ => zrow0_0 (by omega), fun d hd _ => zrow0_0 (by omega)⟩
    · have key : ∀ j, j < 332 → decide (zlo j ≤ (zrow0 j).toInt) = true ∧ decide ((zrow0 j).toInt ≤ zhi j) = true := by decide +kernel
      intro j hj
      have := key j hj
      simpa using this
    · decide
  · rw [e1]
    refine ⟨fun _ => ?_, fun z => ?_⟩
    · have : xk 21 = 2 := by decide +kernel
      unfold zM0
      rw [this]; rfl
    · rw [zrow0_0 (by omega)] at z; exact absurd z (by decide)
  · have h1 : zM0 1 1 = 0 := rfl
    have h9 : zN0 0 9 = 0 := rfl
    refine ⟨by rw [h1, h9], by rw [h9]; decide, by rw [h9]; decide, fun j hj => ?_⟩
    have h2 : zM0 2 j = 0 := zM0_i (by decide +kernel)
    have h6 : zN0 6 j = 0 := rfl
    rw [h2, h6]; decide
  · rfl
  · exact ⟨rfl, Or.inl rfl⟩
  · exact zPast.none rfl rfl ⟨by decide, by decide⟩
  · intro j hj
    have e : zM0 40 j = zch j := rfl
    have key : ∀ j, j < 154 → zch j = zWds.getD j 0 := by decide +kernel
    rw [e, key j hj]
/-- all the calls -/
theorem zSteps_all (t : Nat) (ht : t < 512) : zSteps (zRel t) (zRel (t + 1)) := ⟨s_feed t, s_end t, s_coast t, s_law t, s_fault t, s_ground t, s_monk t, s_duty t, s_range t, s_water t, s_depth t, s_printed t, s_goal t, s_rest t, s_error t, s_edition t, s_wind t, s_anew t, s_hours t ht, s_high t, s_low t, s_dry t, s_highest t, s_way t, s_start t, s_safe t, s_fetch t, s_send t, s_most t, s_came t, s_amends t, s_witness t, s_clash t, s_blank t, s_neaps t, s_stranded t, s_ahead t ht, s_doomed t ht, s_done t ht, s_lost t, s_odds t, s_risk t, s_trial t ht, s_span t ht, s_led t, s_log t, s_seed t, s_undo t, s_image t, s_back t, s_count t⟩
end
