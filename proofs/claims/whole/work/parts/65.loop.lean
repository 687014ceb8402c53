/-! THE LAW'S LOOP -/
def zSteps (Rel Rel' : zM → zM → Prop) : Prop := zs_feed Rel Rel' ∧ zs_end Rel Rel' ∧ zs_coast Rel Rel' ∧ zs_law Rel Rel' ∧ zs_fault Rel Rel' ∧ zs_ground Rel Rel' ∧ zs_monk Rel Rel' ∧ zs_duty Rel Rel' ∧ zs_range Rel Rel' ∧ zs_water Rel Rel' ∧ zs_depth Rel Rel' ∧ zs_printed Rel Rel' ∧ zs_goal Rel Rel' ∧ zs_rest Rel Rel' ∧ zs_error Rel Rel' ∧ zs_edition Rel Rel' ∧ zs_wind Rel Rel' ∧ zs_anew Rel Rel' ∧ zs_hours Rel Rel' ∧ zs_high Rel Rel' ∧ zs_low Rel Rel' ∧ zs_dry Rel Rel' ∧ zs_highest Rel Rel' ∧ zs_way Rel Rel' ∧ zs_start Rel Rel' ∧ zs_safe Rel Rel' ∧ zs_fetch Rel Rel' ∧ zs_send Rel Rel' ∧ zs_most Rel Rel' ∧ zs_came Rel Rel' ∧ zs_amends Rel Rel' ∧ zs_witness Rel Rel' ∧ zs_clash Rel Rel' ∧ zs_blank Rel Rel' ∧ zs_neaps Rel Rel' ∧ zs_stranded Rel Rel' ∧ zs_ahead Rel Rel' ∧ zs_doomed Rel Rel' ∧ zs_done Rel Rel' ∧ zs_lost Rel Rel' ∧ zs_odds Rel Rel' ∧ zs_risk Rel Rel' ∧ zs_trial Rel Rel' ∧ zs_span Rel Rel' ∧ zs_led Rel Rel' ∧ zs_log Rel Rel' ∧ zs_seed Rel Rel' ∧ zs_undo Rel Rel' ∧ zs_image Rel Rel' ∧ zs_back Rel Rel' ∧ zs_count Rel Rel'
section LAWL
variable {p : Program} {l : Launch} {e : Env} {s : State} {m : MethodId} {args : Array Value} {below : List Frame} {meth : Method} {c : Code} {H : Heap} {locs : List Loc} {cells slots : Nat} {Q : State → Prop}
variable {ls : Array Slot} {gx gr : zG} {cO : ClassId} {qo b L : Nat} {xs : Nat → Int32} {M N : zM} {v : Int64} {Ts : List Cond} {i : Int32} {Rel Rel' : zM → zM → Prop}

theorem zL_in {a L : Nat} (h : a < L) (hL : L ≤ 3072) : vp_in (nI a) L := vp_in_nI h (by omega)
set_option maxRecDepth 100000 in
set_option maxHeartbeats 8000000 in
theorem l_turn (C : zLC p l s m args c gx gr cO qo b L xs Ts) (hz : zSteps Rel Rel') (hm : ∀ M N, Rel M N → Rel' M N) (hR : Rel M N) (hZ : zLS gx gr cO qo s H locs M N v) (hl : lv_has ls 7 (zLl b gx gr qo i)) (hi0 : vp_in i L) (hi1 : vp_in (i + 1) L) (hi2 : vp_in (i + 2) L) (hi3 : vp_in (i + 3) L) (hi4 : vp_in (i + 4) L) (hi5 : vp_in (i + 5) L) (hc : cells + 60 ≤ 601024) (hsl : slots + 360 ≤ 7293033) (kk : zLK p l e s m args below meth c Q Rel' gx gr cO qo b i cells slots) : W p l e room_1 s m args below meth c H locs cells slots Q (F0 m 33 ls []) := by
  have hx := C.2.1.1.1
  have hb := C.2.1.1.2.1
  have hl0 := hl
  have hl : lv_has ls 7 [(0, .ref b), (1, .ref (gx.2.2 0)), (2, .ref (gr.2.2 0)), (3, .ref qo), (4, .int i)] := hl
  refine lv_aload_n hx hb dL_law__33 rfl (lv_at hl 0 rfl) ?_
  refine lv_iload hx hb dL_law__34 (lv_at hl 4 rfl) ?_
  refine va_sld hx hb C.2.2.2.2.2.2.2.2.1 C.2.2.2.2.2.2.2.2.2 (Nat.not_le.mpr C.2.2.2.2.2.2.2.2.2) hZ.2.2.2 hi0 dL_law__36 ?_
  refine lv_bipush (v := 63) hx hb dL_law__37 (by decide) ?_
  refine lv_iand hx hb dL_law__39 ?_
  generalize (xs i.toNatClampNeg &&& 63 : Int32) = z
  by_cases h0 : z = 0
  · refine lv_tableIn (tgt := 260) hx hb dL_law__40 (by rw [h0]; decide) (by rw [h0]; decide) (by rw [h0]; rfl) (by decide) ?_
    exact lc_feed C hz.1 hR hZ hl0 hi1 hi2 hi3 hi4 hi5 hc hsl kk
  by_cases h1 : z = 1
  · refine lv_tableIn (tgt := 333) hx hb dL_law__40 (by rw [h1]; decide) (by rw [h1]; decide) (by rw [h1]; rfl) (by decide) ?_
    exact lc_end C hz.2.1 hR hZ hl0 hi1 hi2 hi3 hi4 hi5 hc hsl kk
  by_cases h2 : z = 2
  · refine lv_tableIn (tgt := 358) hx hb dL_law__40 (by rw [h2]; decide) (by rw [h2]; decide) (by rw [h2]; rfl) (by decide) ?_
    exact lc_coast C hz.2.2.1 hR hZ hl0 hi1 hi2 hi3 hi4 hi5 hc hsl kk
  by_cases h3 : z = 3
  · refine lv_tableIn (tgt := 402) hx hb dL_law__40 (by rw [h3]; decide) (by rw [h3]; decide) (by rw [h3]; rfl) (by decide) ?_
    exact lc_law C hz.2.2.2.1 hR hZ hl0 hi1 hi2 hi3 hi4 hi5 hc hsl kk
  by_cases h4 : z = 4
  · refine lv_tableIn (tgt := 446) hx hb dL_law__40 (by rw [h4]; decide) (by rw [h4]; decide) (by rw [h4]; rfl) (by decide) ?_
    exact lc_fault C hz.2.2.2.2.1 hR hZ hl0 hi1 hi2 hi3 hi4 hi5 hc hsl kk
  by_cases h5 : z = 5
  · refine lv_tableIn (tgt := 459) hx hb dL_law__40 (by rw [h5]; decide) (by rw [h5]; decide) (by rw [h5]; rfl) (by decide) ?_
    exact lc_ground C hz.2.2.2.2.2.1 hR hZ hl0 hi1 hi2 hi3 hi4 hi5 hc hsl kk
  by_cases h6 : z = 6
  · refine lv_tableIn (tgt := 515) hx hb dL_law__40 (by rw [h6]; decide) (by rw [h6]; decide) (by rw [h6]; rfl) (by decide) ?_
    exact lc_monk C hz.2.2.2.2.2.2.1 hR hZ hl0 hi1 hi2 hi3 hi4 hi5 hc hsl kk
  by_cases h7 : z = 7
  · refine lv_tableIn (tgt := 583) hx hb dL_law__40 (by rw [h7]; decide) (by rw [h7]; decide) (by rw [h7]; rfl) (by decide) ?_
    exact lc_duty C hz.2.2.2.2.2.2.2.1 hR hZ hl0 hi1 hi2 hi3 hi4 hi5 hc hsl kk
  by_cases h8 : z = 8
  · refine lv_tableIn (tgt := 651) hx hb dL_law__40 (by rw [h8]; decide) (by rw [h8]; decide) (by rw [h8]; rfl) (by decide) ?_
    exact lc_range C hz.2.2.2.2.2.2.2.2.1 hR hZ hl0 hi1 hi2 hi3 hi4 hi5 hc hsl kk
  by_cases h9 : z = 9
  · refine lv_tableIn (tgt := 707) hx hb dL_law__40 (by rw [h9]; decide) (by rw [h9]; decide) (by rw [h9]; rfl) (by decide) ?_
    exact lc_water C hz.2.2.2.2.2.2.2.2.2.1 hR hZ hl0 hi1 hi2 hi3 hi4 hi5 hc hsl kk
  by_cases h10 : z = 10
  · refine lv_tableIn (tgt := 763) hx hb dL_law__40 (by rw [h10]; decide) (by rw [h10]; decide) (by rw [h10]; rfl) (by decide) ?_
    exact lc_depth C hz.2.2.2.2.2.2.2.2.2.2.1 hR hZ hl0 hi1 hi2 hi3 hi4 hi5 hc hsl kk
  by_cases h11 : z = 11
  · refine lv_tableIn (tgt := 831) hx hb dL_law__40 (by rw [h11]; decide) (by rw [h11]; decide) (by rw [h11]; rfl) (by decide) ?_
    exact lc_printed C hz.2.2.2.2.2.2.2.2.2.2.2.1 hR hZ hl0 hi1 hi2 hi3 hi4 hi5 hc hsl kk
  by_cases h12 : z = 12
  · refine lv_tableIn (tgt := 887) hx hb dL_law__40 (by rw [h12]; decide) (by rw [h12]; decide) (by rw [h12]; rfl) (by decide) ?_
    exact lc_goal C hz.2.2.2.2.2.2.2.2.2.2.2.2.1 hR hZ hl0 hi1 hi2 hi3 hi4 hi5 hc hsl kk
  by_cases h13 : z = 13
  · refine lv_tableIn (tgt := 955) hx hb dL_law__40 (by rw [h13]; decide) (by rw [h13]; decide) (by rw [h13]; rfl) (by decide) ?_
    exact lc_rest C hz.2.2.2.2.2.2.2.2.2.2.2.2.2.1 hR hZ hl0 hi1 hi2 hi3 hi4 hi5 hc hsl kk
  by_cases h14 : z = 14
  · refine lv_tableIn (tgt := 1011) hx hb dL_law__40 (by rw [h14]; decide) (by rw [h14]; decide) (by rw [h14]; rfl) (by decide) ?_
    exact lc_error C hz.2.2.2.2.2.2.2.2.2.2.2.2.2.2.1 hR hZ hl0 hi1 hi2 hi3 hi4 hi5 hc hsl kk
  by_cases h15 : z = 15
  · refine lv_tableIn (tgt := 1079) hx hb dL_law__40 (by rw [h15]; decide) (by rw [h15]; decide) (by rw [h15]; rfl) (by decide) ?_
    exact lc_edition C hz.2.2.2.2.2.2.2.2.2.2.2.2.2.2.2.1 hR hZ hl0 hi1 hi2 hi3 hi4 hi5 hc hsl kk
  by_cases h16 : z = 16
  · refine lv_tableIn (tgt := 1135) hx hb dL_law__40 (by rw [h16]; decide) (by rw [h16]; decide) (by rw [h16]; rfl) (by decide) ?_
    exact lc_wind C hz.2.2.2.2.2.2.2.2.2.2.2.2.2.2.2.2.1 hR hZ hl0 hi1 hi2 hi3 hi4 hi5 hc hsl kk
  by_cases h17 : z = 17
  · refine lv_tableIn (tgt := 1191) hx hb dL_law__40 (by rw [h17]; decide) (by rw [h17]; decide) (by rw [h17]; rfl) (by decide) ?_
    exact lc_anew C hz.2.2.2.2.2.2.2.2.2.2.2.2.2.2.2.2.2.1 hR hZ hl0 hi1 hi2 hi3 hi4 hi5 hc hsl kk
  by_cases h18 : z = 18
  · refine lv_tableIn (tgt := 1254) hx hb dL_law__40 (by rw [h18]; decide) (by rw [h18]; decide) (by rw [h18]; rfl) (by decide) ?_
    exact lc_hours C hz.2.2.2.2.2.2.2.2.2.2.2.2.2.2.2.2.2.2.1 hR hZ hl0 hi1 hi2 hi3 hi4 hi5 hc hsl kk
  by_cases h19 : z = 19
  · refine lv_tableIn (tgt := 1310) hx hb dL_law__40 (by rw [h19]; decide) (by rw [h19]; decide) (by rw [h19]; rfl) (by decide) ?_
    exact lc_high C hz.2.2.2.2.2.2.2.2.2.2.2.2.2.2.2.2.2.2.2.1 hR hZ hl0 hi1 hi2 hi3 hi4 hi5 hc hsl kk
  by_cases h20 : z = 20
  · refine lv_tableIn (tgt := 1366) hx hb dL_law__40 (by rw [h20]; decide) (by rw [h20]; decide) (by rw [h20]; rfl) (by decide) ?_
    exact lc_low C hz.2.2.2.2.2.2.2.2.2.2.2.2.2.2.2.2.2.2.2.2.1 hR hZ hl0 hi1 hi2 hi3 hi4 hi5 hc hsl kk
  by_cases h21 : z = 21
  · refine lv_tableIn (tgt := 1422) hx hb dL_law__40 (by rw [h21]; decide) (by rw [h21]; decide) (by rw [h21]; rfl) (by decide) ?_
    exact lc_dry C hz.2.2.2.2.2.2.2.2.2.2.2.2.2.2.2.2.2.2.2.2.2.1 hR hZ hl0 hi1 hi2 hi3 hi4 hi5 hc hsl kk
  by_cases h22 : z = 22
  · refine lv_tableIn (tgt := 1490) hx hb dL_law__40 (by rw [h22]; decide) (by rw [h22]; decide) (by rw [h22]; rfl) (by decide) ?_
    exact lc_highest C hz.2.2.2.2.2.2.2.2.2.2.2.2.2.2.2.2.2.2.2.2.2.2.1 hR hZ hl0 hi1 hi2 hi3 hi4 hi5 hc hsl kk
  by_cases h23 : z = 23
  · refine lv_tableIn (tgt := 1546) hx hb dL_law__40 (by rw [h23]; decide) (by rw [h23]; decide) (by rw [h23]; rfl) (by decide) ?_
    exact lc_way C hz.2.2.2.2.2.2.2.2.2.2.2.2.2.2.2.2.2.2.2.2.2.2.2.1 hR hZ hl0 hi1 hi2 hi3 hi4 hi5 hc hsl kk
  by_cases h24 : z = 24
  · refine lv_tableIn (tgt := 1650) hx hb dL_law__40 (by rw [h24]; decide) (by rw [h24]; decide) (by rw [h24]; rfl) (by decide) ?_
    exact lc_start C hz.2.2.2.2.2.2.2.2.2.2.2.2.2.2.2.2.2.2.2.2.2.2.2.2.1 hR hZ hl0 hi1 hi2 hi3 hi4 hi5 hc hsl kk
  by_cases h25 : z = 25
  · refine lv_tableIn (tgt := 1754) hx hb dL_law__40 (by rw [h25]; decide) (by rw [h25]; decide) (by rw [h25]; rfl) (by decide) ?_
    exact lc_safe C hz.2.2.2.2.2.2.2.2.2.2.2.2.2.2.2.2.2.2.2.2.2.2.2.2.2.1 hR hZ hl0 hi1 hi2 hi3 hi4 hi5 hc hsl kk
  by_cases h26 : z = 26
  · refine lv_tableIn (tgt := 1846) hx hb dL_law__40 (by rw [h26]; decide) (by rw [h26]; decide) (by rw [h26]; rfl) (by decide) ?_
    exact lc_fetch C hz.2.2.2.2.2.2.2.2.2.2.2.2.2.2.2.2.2.2.2.2.2.2.2.2.2.2.1 hR hZ hl0 hi1 hi2 hi3 hi4 hi5 hc hsl kk
  by_cases h27 : z = 27
  · refine lv_tableIn (tgt := 1902) hx hb dL_law__40 (by rw [h27]; decide) (by rw [h27]; decide) (by rw [h27]; rfl) (by decide) ?_
    exact lc_send C hz.2.2.2.2.2.2.2.2.2.2.2.2.2.2.2.2.2.2.2.2.2.2.2.2.2.2.2.1 hR hZ hl0 hi1 hi2 hi3 hi4 hi5 hc hsl kk
  by_cases h28 : z = 28
  · refine lv_tableIn (tgt := 1958) hx hb dL_law__40 (by rw [h28]; decide) (by rw [h28]; decide) (by rw [h28]; rfl) (by decide) ?_
    exact lc_most C hz.2.2.2.2.2.2.2.2.2.2.2.2.2.2.2.2.2.2.2.2.2.2.2.2.2.2.2.2.1 hR hZ hl0 hi1 hi2 hi3 hi4 hi5 hc hsl kk
  by_cases h29 : z = 29
  · refine lv_tableIn (tgt := 2026) hx hb dL_law__40 (by rw [h29]; decide) (by rw [h29]; decide) (by rw [h29]; rfl) (by decide) ?_
    exact lc_came C hz.2.2.2.2.2.2.2.2.2.2.2.2.2.2.2.2.2.2.2.2.2.2.2.2.2.2.2.2.2.1 hR hZ hl0 hi1 hi2 hi3 hi4 hi5 hc hsl kk
  by_cases h30 : z = 30
  · refine lv_tableIn (tgt := 2098) hx hb dL_law__40 (by rw [h30]; decide) (by rw [h30]; decide) (by rw [h30]; rfl) (by decide) ?_
    exact lc_amends C hz.2.2.2.2.2.2.2.2.2.2.2.2.2.2.2.2.2.2.2.2.2.2.2.2.2.2.2.2.2.2.1 hR hZ hl0 hi1 hi2 hi3 hi4 hi5 hc hsl kk
  by_cases h31 : z = 31
  · refine lv_tableIn (tgt := 2170) hx hb dL_law__40 (by rw [h31]; decide) (by rw [h31]; decide) (by rw [h31]; rfl) (by decide) ?_
    exact lc_witness C hz.2.2.2.2.2.2.2.2.2.2.2.2.2.2.2.2.2.2.2.2.2.2.2.2.2.2.2.2.2.2.2.1 hR hZ hl0 hi1 hi2 hi3 hi4 hi5 hc hsl kk
  by_cases h32 : z = 32
  · refine lv_tableIn (tgt := 2214) hx hb dL_law__40 (by rw [h32]; decide) (by rw [h32]; decide) (by rw [h32]; rfl) (by decide) ?_
    exact lc_clash C hz.2.2.2.2.2.2.2.2.2.2.2.2.2.2.2.2.2.2.2.2.2.2.2.2.2.2.2.2.2.2.2.2.1 hR hZ hl0 hi1 hi2 hi3 hi4 hi5 hc hsl kk
  by_cases h33 : z = 33
  · refine lv_tableIn (tgt := 2282) hx hb dL_law__40 (by rw [h33]; decide) (by rw [h33]; decide) (by rw [h33]; rfl) (by decide) ?_
    exact lc_blank C hz.2.2.2.2.2.2.2.2.2.2.2.2.2.2.2.2.2.2.2.2.2.2.2.2.2.2.2.2.2.2.2.2.2.1 hR hZ hl0 hi1 hi2 hi3 hi4 hi5 hc hsl kk
  by_cases h34 : z = 34
  · refine lv_tableIn (tgt := 2295) hx hb dL_law__40 (by rw [h34]; decide) (by rw [h34]; decide) (by rw [h34]; rfl) (by decide) ?_
    exact lc_neaps C hz.2.2.2.2.2.2.2.2.2.2.2.2.2.2.2.2.2.2.2.2.2.2.2.2.2.2.2.2.2.2.2.2.2.2.1 hR hZ hl0 hi1 hi2 hi3 hi4 hi5 hc hsl kk
  by_cases h35 : z = 35
  · refine lv_tableIn (tgt := 2308) hx hb dL_law__40 (by rw [h35]; decide) (by rw [h35]; decide) (by rw [h35]; rfl) (by decide) ?_
    exact lc_stranded C hz.2.2.2.2.2.2.2.2.2.2.2.2.2.2.2.2.2.2.2.2.2.2.2.2.2.2.2.2.2.2.2.2.2.2.2.1 hR hZ hl0 hi1 hi2 hi3 hi4 hi5 hc hsl kk
  by_cases h36 : z = 36
  · refine lv_tableIn (tgt := 2321) hx hb dL_law__40 (by rw [h36]; decide) (by rw [h36]; decide) (by rw [h36]; rfl) (by decide) ?_
    exact lc_ahead C hz.2.2.2.2.2.2.2.2.2.2.2.2.2.2.2.2.2.2.2.2.2.2.2.2.2.2.2.2.2.2.2.2.2.2.2.2.1 hR hZ hl0 hi1 hi2 hi3 hi4 hi5 hc hsl kk
  by_cases h37 : z = 37
  · refine lv_tableIn (tgt := 2389) hx hb dL_law__40 (by rw [h37]; decide) (by rw [h37]; decide) (by rw [h37]; rfl) (by decide) ?_
    exact lc_doomed C hz.2.2.2.2.2.2.2.2.2.2.2.2.2.2.2.2.2.2.2.2.2.2.2.2.2.2.2.2.2.2.2.2.2.2.2.2.2.1 hR hZ hl0 hi1 hi2 hi3 hi4 hi5 hc hsl kk
  by_cases h38 : z = 38
  · refine lv_tableIn (tgt := 2445) hx hb dL_law__40 (by rw [h38]; decide) (by rw [h38]; decide) (by rw [h38]; rfl) (by decide) ?_
    exact lc_done C hz.2.2.2.2.2.2.2.2.2.2.2.2.2.2.2.2.2.2.2.2.2.2.2.2.2.2.2.2.2.2.2.2.2.2.2.2.2.2.1 hR hZ hl0 hi1 hi2 hi3 hi4 hi5 hc hsl kk
  by_cases h39 : z = 39
  · refine lv_tableIn (tgt := 2501) hx hb dL_law__40 (by rw [h39]; decide) (by rw [h39]; decide) (by rw [h39]; rfl) (by decide) ?_
    exact lc_lost C hz.2.2.2.2.2.2.2.2.2.2.2.2.2.2.2.2.2.2.2.2.2.2.2.2.2.2.2.2.2.2.2.2.2.2.2.2.2.2.2.1 hR hZ hl0 hi1 hi2 hi3 hi4 hi5 hc hsl kk
  by_cases h40 : z = 40
  · refine lv_tableIn (tgt := 2514) hx hb dL_law__40 (by rw [h40]; decide) (by rw [h40]; decide) (by rw [h40]; rfl) (by decide) ?_
    exact lc_odds C hz.2.2.2.2.2.2.2.2.2.2.2.2.2.2.2.2.2.2.2.2.2.2.2.2.2.2.2.2.2.2.2.2.2.2.2.2.2.2.2.2.1 hR hZ hl0 hi1 hi2 hi3 hi4 hi5 hc hsl kk
  by_cases h41 : z = 41
  · refine lv_tableIn (tgt := 2582) hx hb dL_law__40 (by rw [h41]; decide) (by rw [h41]; decide) (by rw [h41]; rfl) (by decide) ?_
    exact lc_risk C hz.2.2.2.2.2.2.2.2.2.2.2.2.2.2.2.2.2.2.2.2.2.2.2.2.2.2.2.2.2.2.2.2.2.2.2.2.2.2.2.2.2.1 hR hZ hl0 hi1 hi2 hi3 hi4 hi5 hc hsl kk
  by_cases h42 : z = 42
  · refine lv_tableIn (tgt := 2662) hx hb dL_law__40 (by rw [h42]; decide) (by rw [h42]; decide) (by rw [h42]; rfl) (by decide) ?_
    exact lc_trial C hz.2.2.2.2.2.2.2.2.2.2.2.2.2.2.2.2.2.2.2.2.2.2.2.2.2.2.2.2.2.2.2.2.2.2.2.2.2.2.2.2.2.2.1 hR hZ hl0 hi1 hi2 hi3 hi4 hi5 hc hsl kk
  by_cases h43 : z = 43
  · refine lv_tableIn (tgt := 2746) hx hb dL_law__40 (by rw [h43]; decide) (by rw [h43]; decide) (by rw [h43]; rfl) (by decide) ?_
    exact lc_span C hz.2.2.2.2.2.2.2.2.2.2.2.2.2.2.2.2.2.2.2.2.2.2.2.2.2.2.2.2.2.2.2.2.2.2.2.2.2.2.2.2.2.2.2.1 hR hZ hl0 hi1 hi2 hi3 hi4 hi5 hc hsl kk
  by_cases h44 : z = 44
  · refine lv_tableIn (tgt := 2830) hx hb dL_law__40 (by rw [h44]; decide) (by rw [h44]; decide) (by rw [h44]; rfl) (by decide) ?_
    exact lc_led C hz.2.2.2.2.2.2.2.2.2.2.2.2.2.2.2.2.2.2.2.2.2.2.2.2.2.2.2.2.2.2.2.2.2.2.2.2.2.2.2.2.2.2.2.2.1 hR hZ hl0 hi1 hi2 hi3 hi4 hi5 hc hsl kk
  by_cases h45 : z = 45
  · refine lv_tableIn (tgt := 2914) hx hb dL_law__40 (by rw [h45]; decide) (by rw [h45]; decide) (by rw [h45]; rfl) (by decide) ?_
    exact lc_log C hz.2.2.2.2.2.2.2.2.2.2.2.2.2.2.2.2.2.2.2.2.2.2.2.2.2.2.2.2.2.2.2.2.2.2.2.2.2.2.2.2.2.2.2.2.2.1 hR hZ hl0 hi1 hi2 hi3 hi4 hi5 hc hsl kk
  by_cases h46 : z = 46
  · refine lv_tableIn (tgt := 2982) hx hb dL_law__40 (by rw [h46]; decide) (by rw [h46]; decide) (by rw [h46]; rfl) (by decide) ?_
    exact lc_seed C hz.2.2.2.2.2.2.2.2.2.2.2.2.2.2.2.2.2.2.2.2.2.2.2.2.2.2.2.2.2.2.2.2.2.2.2.2.2.2.2.2.2.2.2.2.2.2.1 hR hZ hl0 hi1 hi2 hi3 hi4 hi5 hc hsl kk
  by_cases h47 : z = 47
  · refine lv_tableIn (tgt := 3007) hx hb dL_law__40 (by rw [h47]; decide) (by rw [h47]; decide) (by rw [h47]; rfl) (by decide) ?_
    exact lc_undo C hz.2.2.2.2.2.2.2.2.2.2.2.2.2.2.2.2.2.2.2.2.2.2.2.2.2.2.2.2.2.2.2.2.2.2.2.2.2.2.2.2.2.2.2.2.2.2.2.1 hR hZ hl0 hi1 hi2 hi3 hi4 hi5 hc hsl kk
  by_cases h48 : z = 48
  · refine lv_tableIn (tgt := 3020) hx hb dL_law__40 (by rw [h48]; decide) (by rw [h48]; decide) (by rw [h48]; rfl) (by decide) ?_
    exact lc_image C hz.2.2.2.2.2.2.2.2.2.2.2.2.2.2.2.2.2.2.2.2.2.2.2.2.2.2.2.2.2.2.2.2.2.2.2.2.2.2.2.2.2.2.2.2.2.2.2.2.1 hR hZ hl0 hi1 hi2 hi3 hi4 hi5 hc hsl kk
  by_cases h49 : z = 49
  · refine lv_tableIn (tgt := 3031) hx hb dL_law__40 (by rw [h49]; decide) (by rw [h49]; decide) (by rw [h49]; rfl) (by decide) ?_
    exact lc_back C hz.2.2.2.2.2.2.2.2.2.2.2.2.2.2.2.2.2.2.2.2.2.2.2.2.2.2.2.2.2.2.2.2.2.2.2.2.2.2.2.2.2.2.2.2.2.2.2.2.2.1 hR hZ hl0 hi1 hi2 hi3 hi4 hi5 hc hsl kk
  by_cases h50 : z = 50
  · refine lv_tableIn (tgt := 3044) hx hb dL_law__40 (by rw [h50]; decide) (by rw [h50]; decide) (by rw [h50]; rfl) (by decide) ?_
    exact lc_count C hz.2.2.2.2.2.2.2.2.2.2.2.2.2.2.2.2.2.2.2.2.2.2.2.2.2.2.2.2.2.2.2.2.2.2.2.2.2.2.2.2.2.2.2.2.2.2.2.2.2.2 hR hZ hl0 hi1 hi2 hi3 hi4 hi5 hc hsl kk
  refine lv_tableOut (tgt := 3069) hx hb dL_law__40 (zsw_out [0, 1, 2, 3, 4, 5, 6, 7, 8, 9, 10, 11, 12, 13, 14, 15, 16, 17, 18, 19, 20, 21, 22, 23, 24, 25, 26, 27, 28, 29, 30, 31, 32, 33, 34, 35, 36, 37, 38, 39, 40, 41, 42, 43, 44, 45, 46, 47, 48, 49, 50] (by decide) (by simp [h0, h1, h2, h3, h4, h5, h6, h7, h8, h9, h10, h11, h12, h13, h14, h15, h16, h17, h18, h19, h20, h21, h22, h23, h24, h25, h26, h27, h28, h29, h30, h31, h32, h33, h34, h35, h36, h37, h38, h39, h40, h41, h42, h43, h44, h45, h46, h47, h48, h49, h50])) (by decide) ?_
  refine W.widen (k := cells + 60) (n := slots + 360) (by omega) (by omega) ?_
  exact kk _ _ _ _ _ _ (hm M N hR) hZ hl0
set_option maxRecDepth 100000 in
theorem l_loop {Rels : Nat → zM → zM → Prop} {c0 s0 : Nat} (C : zLC p l s m args c gx gr cO qo b L xs Ts) (hL : L ≤ 3072) (hz : ∀ t, t < 512 → zSteps (Rels t) (Rels (t + 1))) (hm : ∀ t M N, Rels t M N → Rels (t + 1) M N) (hc0 : c0 ≤ 10000) (hs0 : s0 ≤ 1000000)
    (hend : ∀ (H : Heap) (locs : List Loc) (ls : Array Slot), (∀ q ∈ locs, s.heap.size ≤ q.base) → W p l e room_1 s m args below meth c H locs (c0 + 60 * 512) (s0 + 360 * 512) Q (F0 m 3075 ls [])) :
    ∀ (n t : Nat) (H : Heap) (locs : List Loc) (ls : Array Slot) (M N : zM) (v : Int64), t + n = 512 → Rels t M N → zLS gx gr cO qo s H locs M N v → lv_has ls 7 (zLl b gx gr qo (nI (6 * t))) → W p l e room_1 s m args below meth c H locs (c0 + 60 * t) (s0 + 360 * t) Q (F0 m 23 ls []) := by
  intro n
  induction n with
  | zero =>
    intro t H locs ls M N v ht hR hZ hl
    have hx := C.2.1.1.1
    have hb := C.2.1.1.2.1
    have hl : lv_has ls 7 [(0, .ref b), (1, .ref (gx.2.2 0)), (2, .ref (gr.2.2 0)), (3, .ref qo), (4, .int (nI (6 * t)))] := hl
    refine lv_iload hx hb dL_law__23 (lv_at hl 4 rfl) ?_
    refine lv_aload_n hx hb dL_law__25 rfl (lv_at hl 0 rfl) ?_
    refine va_slen hx hb C.2.2.2.2.2.2.2.2.1 C.2.2.2.2.2.2.2.2.2 (Nat.not_le.mpr C.2.2.2.2.2.2.2.2.2) hZ.2.2.2 dL_law__26 ?_
    refine lv_bipush (v := 6) hx hb dL_law__27 (by decide) ?_
    refine lv_isub hx hb dL_law__29 ?_
    refine lv_icmp_gt (tgt := 3075) hx hb dL_law__30 (by decide) (fun _ => ?_) (fun hlt => ?_)
    · refine W.widen (k := c0 + 60 * 512) (n := s0 + 360 * 512) (by omega) (by omega) ?_
      exact hend H locs ls (fun q hq => hZ.2.2.2.2.2 q hq)
    · refine absurd ?_ hlt
      rw [Int32.lt_iff_toInt_lt, nI_toInt (by omega), Int32.toInt_sub]
      rw [show (Int32.ofNat L).toInt = (L : Int) from nI_toInt (by omega), show (6 : Int32).toInt = 6 from by decide]
      rw [Int.bmod_eq_of_le (by omega) (by omega)]
      omega
  | succ n ih =>
    intro t H locs ls M N v ht hR hZ hl
    have hx := C.2.1.1.1
    have hb := C.2.1.1.2.1
    have hl0 := hl
    have hl : lv_has ls 7 [(0, .ref b), (1, .ref (gx.2.2 0)), (2, .ref (gr.2.2 0)), (3, .ref qo), (4, .int (nI (6 * t)))] := hl
    refine lv_iload hx hb dL_law__23 (lv_at hl 4 rfl) ?_
    refine lv_aload_n hx hb dL_law__25 rfl (lv_at hl 0 rfl) ?_
    refine va_slen hx hb C.2.2.2.2.2.2.2.2.1 C.2.2.2.2.2.2.2.2.2 (Nat.not_le.mpr C.2.2.2.2.2.2.2.2.2) hZ.2.2.2 dL_law__26 ?_
    refine lv_bipush (v := 6) hx hb dL_law__27 (by decide) ?_
    refine lv_isub hx hb dL_law__29 ?_
    refine lv_icmp_gt (tgt := 3075) hx hb dL_law__30 (by decide) (fun _ => ?_) (fun hlt => ?_)
    · refine W.widen (k := c0 + 60 * 512) (n := s0 + 360 * 512) (by omega) (by omega) ?_
      exact hend H locs ls (fun q hq => hZ.2.2.2.2.2 q hq)
    · have hle : 6 * t + 6 ≤ L := by
        rw [Int32.lt_iff_toInt_lt, nI_toInt (by omega), Int32.toInt_sub] at hlt
        rw [show (Int32.ofNat L).toInt = (L : Int) from nI_toInt (by omega), show (6 : Int32).toInt = 6 from by decide] at hlt
        rw [Int.bmod_eq_of_le (by omega) (by omega)] at hlt
        omega
      have hk : ∀ k : Nat, k < 6 → vp_in (nI (6 * t) + nI k) L := fun k hk => by rw [nI_add]; exact zL_in (by omega) hL
      refine l_turn C (hz t (by omega)) (hm t) hR hZ hl0 (zL_in (by omega) hL) (hk 1 (by decide)) (hk 2 (by decide)) (hk 3 (by decide)) (hk 4 (by decide)) (hk 5 (by decide)) (by omega) (by omega) ?_
      intro H locs ls M N v hR hZ hl
      have hl : lv_has ls 7 [(0, .ref b), (1, .ref (gx.2.2 0)), (2, .ref (gr.2.2 0)), (3, .ref qo), (4, .int (nI (6 * t)))] := hl
      refine lv_iinc (v := nI (6 * (t + 1))) (lv' := [(4, .int (nI (6 * (t + 1)))), (0, .ref b), (1, .ref (gx.2.2 0)), (2, .ref (gr.2.2 0)), (3, .ref qo)]) hx hb dL_law__3069 hl (k := 4) rfl (nI_add (6 * t) 6) (by decide) rfl (fun ls hl => ?_)
      refine lv_goto (tgt := 23) hx hb dL_law__3072 (by decide) ?_
      rw [show c0 + 60 * t + 60 = c0 + 60 * (t + 1) by omega, show s0 + 360 * t + 360 = s0 + 360 * (t + 1) by omega]
      exact ih (t + 1) H locs ls M N v (by omega) hR hZ (lv_sub hl [1, 2, 3, 4, 0] rfl)
end LAWL
