section
variable {p : Program} {l : Launch} {e : Env} {s : State} {m : MethodId} {args : Array Value} {below : List Frame} {meth : Method} {c : Code} {Q : State → Prop}
theorem xx1_X10_117 : ∀ w ∈ (vx_at0 RX10 117 "java/lang/IllegalArgumentException" ["java/lang/RuntimeException", "java/lang/Exception"]).filter goodWord, w ∈ lw_tbl := by decide +kernel
theorem xx2_X10_117 : ∀ w ∈ (vx_at0 RX10 117 "java/lang/IllegalArgumentException" ["java/lang/RuntimeException", "java/lang/Exception"]).filter (fun w => !goodWord w), w ∈ zNl := by decide +kernel
theorem xx3_X10_117 : ∀ w ∈ Cond.classLink RX10 115 "java/lang/IllegalArgumentException" :: Cond.initialized "java/lang/IllegalArgumentException" :: vx_at0 RX10 117 "java/lang/IllegalArgumentException" ["java/lang/RuntimeException", "java/lang/Exception"], vx_ot w = true := by decide +kernel
theorem xx1_X10_123 : ∀ w ∈ (vx_at0 RX10 123 "java/lang/UnsupportedOperationException" ["java/lang/RuntimeException", "java/lang/Exception"]).filter goodWord, w ∈ lw_tbl := by decide +kernel
theorem xx2_X10_123 : ∀ w ∈ (vx_at0 RX10 123 "java/lang/UnsupportedOperationException" ["java/lang/RuntimeException", "java/lang/Exception"]).filter (fun w => !goodWord w), w ∈ zNl := by decide +kernel
theorem xx3_X10_123 : ∀ w ∈ Cond.classLink RX10 121 "java/lang/UnsupportedOperationException" :: Cond.initialized "java/lang/UnsupportedOperationException" :: vx_at0 RX10 123 "java/lang/UnsupportedOperationException" ["java/lang/RuntimeException", "java/lang/Exception"], vx_ot w = true := by decide +kernel
theorem xx1_X10_182 : ∀ w ∈ (vx_at0 RX10 182 "java/util/NoSuchElementException" ["java/lang/RuntimeException", "java/lang/Exception"]).filter goodWord, w ∈ lw_tbl := by decide +kernel
theorem xx2_X10_182 : ∀ w ∈ (vx_at0 RX10 182 "java/util/NoSuchElementException" ["java/lang/RuntimeException", "java/lang/Exception"]).filter (fun w => !goodWord w), w ∈ zNl := by decide +kernel
theorem xx3_X10_182 : ∀ w ∈ Cond.classLink RX10 180 "java/util/NoSuchElementException" :: Cond.initialized "java/util/NoSuchElementException" :: vx_at0 RX10 182 "java/util/NoSuchElementException" ["java/lang/RuntimeException", "java/lang/Exception"], vx_ot w = true := by decide +kernel
theorem xx1_X10_366 : ∀ w ∈ (vx_at0 RX10 366 "java/lang/IndexOutOfBoundsException" ["java/lang/RuntimeException", "java/lang/Exception"]).filter goodWord, w ∈ lw_tbl := by decide +kernel
theorem xx2_X10_366 : ∀ w ∈ (vx_at0 RX10 366 "java/lang/IndexOutOfBoundsException" ["java/lang/RuntimeException", "java/lang/Exception"]).filter (fun w => !goodWord w), w ∈ zNl := by decide +kernel
theorem xx3_X10_366 : ∀ w ∈ Cond.classLink RX10 364 "java/lang/IndexOutOfBoundsException" :: Cond.initialized "java/lang/IndexOutOfBoundsException" :: vx_at0 RX10 366 "java/lang/IndexOutOfBoundsException" ["java/lang/RuntimeException", "java/lang/Exception"], vx_ot w = true := by decide +kernel
theorem xx1_X10_369 : ∀ w ∈ (vx_at0 RX10 369 "java/lang/IllegalStateException" ["java/lang/RuntimeException", "java/lang/Exception"]).filter goodWord, w ∈ lw_tbl := by decide +kernel
theorem xx2_X10_369 : ∀ w ∈ (vx_at0 RX10 369 "java/lang/IllegalStateException" ["java/lang/RuntimeException", "java/lang/Exception"]).filter (fun w => !goodWord w), w ∈ zNl := by decide +kernel
theorem xx3_X10_369 : ∀ w ∈ Cond.classLink RX10 367 "java/lang/IllegalStateException" :: Cond.initialized "java/lang/IllegalStateException" :: vx_at0 RX10 369 "java/lang/IllegalStateException" ["java/lang/RuntimeException", "java/lang/Exception"], vx_ot w = true := by decide +kernel
def f_X10_coast (M : zM)  : Option (zT1) :=
  zbn (f_X10_trialCopy M ) (fun u_1 => zmo u_1.1 (none) (fun k_2 => zck (decide (k_2 = 9)) (zbn (f_X1_read u_1.2 9) (fun u_3 => znm (zu u_3.2 0 13 u_3.1) (fun M_4 => znm (zu M_4 1 1 0) (fun M_5 => if (M_5 0 13) = ((-1)) then (if (M_5 3 9) < 12 then (zbn (f_X9_copyFrom M_5 3 9) (fun u_6 => znm (zu u_6 3 9 ((u_6 3 9) + 1)) (fun M_7 => zbn (f_X5_forget M_7 ) (fun u_8 => some (u_8, .inr (u_8 3 9)))))) else (some (M_5, .inl 4))) else (some (M_5, .inl 1))))))))
set_option maxRecDepth 100000 in
set_option maxHeartbeats 4000000 in
theorem w_X10_coast (g : zG)  {r : zT1} (E : zX g p m c cX10_coast 2 s args (zWs yX10_coast cX10_coast 2 (some .int)) RX10) (X : zXt g 125 l s c meth) (hret : zRti g xE 125 p l e (zrm 9 1 (6 * 1)) s m args below meth c 1 cX10_coast .int r) (M : zM)  (H : Heap) (locs : List Loc) (ls : Array Slot) (h : f_X10_coast M  = some r) (hZ : zS g xE 125 s H locs M) (hl : lv_has ls 2 [(0, .ref (g.2.2 0))]) : W p l e (zrm 9 1 (6 * 1)) s m args below meth c H locs 0 0 (zQt g xE 125 below args s 1 r) (F0 m 0 ls []) := by
  have hx := E.1.1
  have hb := E.1.2.1
  unfold f_X10_coast at h
  refine lv_aload_n hx hb dX10_coast_0 rfl (lv_at hl 0 rfl) ?_
  obtain ⟨u_1, qu_1, h⟩ := zbn_some h
  refine zceS h (zrunV E hZ (xb_X10 xs_0) ((xe_X10 xs_0) _) rfl rfl v_X10_trialCopy kw_581 (c_X10_trialCopy l g M   qu_1 _) rfl hl.1 rfl (Nat.le_of_ble_eq_true rfl) ⟨by decide, by decide⟩ ⟨by decide, by decide⟩ dX10_coast_1) hZ (fun h H locs hZ => ?_) (fun k_2 h H locs hZ => ?_)
  · cases h
  · replace h := zck_some h
    obtain ⟨hk_2, h⟩ := h
    have hk_2 := of_decide_eq_true hk_2
    subst hk_2
    refine lv_astore_n (lv' := [(1, .ref (g.2.2 9)), (0, .ref (g.2.2 0))]) hx hb dX10_coast_4 rfl hl (by decide) rfl (fun ls hl => ?_)
    refine lv_aload_n hx hb dX10_coast_5 rfl (lv_at hl 1 rfl) ?_
    refine lv_aload_n hx hb dX10_coast_6 rfl (lv_at hl 1 rfl) ?_
    refine zg (v := .ref (g.2.2 41)) E hZ (xb_X10 xs_0) ((xe_X10 xs_0) _) kc_X10 8 (by decide) kw_360 rfl rfl dX10_coast_7 ?_
    refine lv_aload_n hx hb dX10_coast_10 rfl (lv_at hl 0 rfl) ?_
    obtain ⟨u_3, qu_3, h⟩ := zbn_some h
    refine zciS (zrunV E hZ (xb_X1 xs_41) ((xe_X1 xs_41) _) rfl rfl v_X1_read kw_585 (c_X1_read l g u_1.2 9 xs_9  qu_3 _) rfl hl.1 rfl (Nat.le_of_ble_eq_true rfl) ⟨by decide, by decide⟩ ⟨by decide, by decide⟩ dX10_coast_11) hZ (fun H locs hZ => ?_)
    refine zp h E hZ (xb_X10 xs_0) ((xe_X10 xs_0) _) (((xe_X10 xs_0) _).trans (congrArg (fun z => Sum.inr (9, z)) (fs_X10_13 g _ _ _))) kc_X10 (by decide) kw_365 rfl rfl rfl (Nat.le_of_ble_eq_true rfl) dX10_coast_14 (fun M_4 H locs eM_4 h hZ => ?_)
    refine lv_aload_n hx hb dX10_coast_17 rfl (lv_at hl 1 rfl) ?_
    refine zg (v := .ref (g.2.2 1)) E hZ (xb_X10 xs_0) ((xe_X10 xs_0) _) kc_X10 0 (by decide) kw_352 rfl rfl dX10_coast_18 ?_
    refine lv_iconst (v := 0) hx hb dX10_coast_21 (by decide) ?_
    refine zp h E hZ (xb_X6 xs_1) ((xe_X6 xs_1) _) (((xe_X6 xs_1) _).trans (congrArg (fun z => Sum.inr (5, z)) (fs_X6_1 g _ _ _))) kc_X6 (by decide) kw_46 rfl rfl rfl (Nat.le_of_ble_eq_true rfl) dX10_coast_22 (fun M_5 H locs eM_5 h hZ => ?_)
    refine lv_aload_n hx hb dX10_coast_25 rfl (lv_at hl 1 rfl) ?_
    refine zg (v := .int (M_5 0 13)) E hZ (xb_X10 xs_0) ((xe_X10 xs_0) _) kc_X10 13 (by decide) kw_365 rfl rfl dX10_coast_26 ?_
    refine lv_iconst (v := (-1)) hx hb dX10_coast_29 (by decide) ?_
    refine zic_eq (tgt := 41) h E dX10_coast_30 (by decide) (fun c_10 h => ?_) (fun c_10 h => ?_)
    · refine lv_aload_n hx hb dX10_coast_41 rfl (lv_at hl 1 rfl) ?_
      refine zg (v := .ref (g.2.2 3)) E hZ (xb_X10 xs_0) ((xe_X10 xs_0) _) kc_X10 1 (by decide) kw_353 rfl rfl dX10_coast_42 ?_
      refine zg (v := .int (M_5 3 9)) E hZ (xb_X9 xs_3) ((xe_X9 xs_3) _) kc_X9 9 (by decide) kw_91 rfl rfl dX10_coast_45 ?_
      refine lv_bipush (v := 12) hx hb dX10_coast_48 (by decide) ?_
      refine zic_lt (tgt := 61) h E dX10_coast_50 (by decide) (fun c_9 h => ?_) (fun c_9 h => ?_)
      · refine lv_aload_n hx hb dX10_coast_61 rfl (lv_at hl 1 rfl) ?_
        refine zg (v := .ref (g.2.2 3)) E hZ (xb_X10 xs_0) ((xe_X10 xs_0) _) kc_X10 1 (by decide) kw_353 rfl rfl dX10_coast_62 ?_
        refine lv_aload_n hx hb dX10_coast_65 rfl (lv_at hl 0 rfl) ?_
        obtain ⟨u_6, qu_6, h⟩ := zbn_some h
        refine zcvS (zrunV E hZ (xb_X9 xs_3) ((xe_X9 xs_3) _) rfl rfl v_X9_copyFrom kw_549 (c_X9_copyFrom l g M_5 3 xs_3 9 xs_9  qu_6 _) rfl hl.1 rfl (Nat.le_of_ble_eq_true rfl) ⟨by decide, by decide⟩ ⟨by decide, by decide⟩ dX10_coast_66) hZ (fun H locs hZ => ?_)
        refine lv_aload_n hx hb dX10_coast_69 rfl (lv_at hl 1 rfl) ?_
        refine zg (v := .ref (g.2.2 3)) E hZ (xb_X10 xs_0) ((xe_X10 xs_0) _) kc_X10 1 (by decide) kw_353 rfl rfl dX10_coast_70 ?_
        refine lv_dup hx hb dX10_coast_73 rfl ?_
        refine zg (v := .int (u_6 3 9)) E hZ (xb_X9 xs_3) ((xe_X9 xs_3) _) kc_X9 9 (by decide) kw_91 rfl rfl dX10_coast_74 ?_
        refine lv_iconst (v := 1) hx hb dX10_coast_77 (by decide) ?_
        refine lv_iadd hx hb dX10_coast_78 ?_
        refine zp h E hZ (xb_X9 xs_3) ((xe_X9 xs_3) _) (((xe_X9 xs_3) _).trans (congrArg (fun z => Sum.inr (8, z)) (fs_X9_9 g _ _ _))) kc_X9 (by decide) kw_91 rfl rfl rfl (Nat.le_of_ble_eq_true rfl) dX10_coast_79 (fun M_7 H locs eM_7 h hZ => ?_)
        refine lv_aload_n hx hb dX10_coast_82 rfl (lv_at hl 1 rfl) ?_
        refine zg (v := .ref (g.2.2 51)) E hZ (xb_X10 xs_0) ((xe_X10 xs_0) _) kc_X10 12 (by decide) kw_364 rfl rfl dX10_coast_83 ?_
        obtain ⟨u_8, qu_8, h⟩ := zbn_some h
        refine zcvS (zrunV E hZ (xb_X5 xs_51) ((xe_X5 xs_51) _) rfl rfl v_X5_forget kw_559 (c_X5_forget l g M_7   qu_8 _) rfl hl.1 rfl (Nat.le_of_ble_eq_true rfl) ⟨by decide, by decide⟩ ⟨by decide, by decide⟩ dX10_coast_86) hZ (fun H locs hZ => ?_)
        refine lv_aload_n hx hb dX10_coast_89 rfl (lv_at hl 1 rfl) ?_
        refine zg (v := .ref (g.2.2 3)) E hZ (xb_X10 xs_0) ((xe_X10 xs_0) _) kc_X10 1 (by decide) kw_353 rfl rfl dX10_coast_90 ?_
        refine zg (v := .int (u_8 3 9)) E hZ (xb_X9 xs_3) ((xe_X9 xs_3) _) kc_X9 9 (by decide) kw_91 rfl rfl dX10_coast_93 ?_
        exact hret _ _ _ _ _ _ _ _ h rfl hZ dX10_coast_96 (by decide) (by decide)
      · exact zthrow 4 h E X hZ kw_771 kw_22 (by decide) xx1_X10_123 xx2_X10_123 xx3_X10_123 hl.1 dX10_coast_53 dX10_coast_56 dX10_coast_57 dX10_coast_60 ⟨by decide, Nat.le_of_ble_eq_true rfl⟩ (by decide) (by decide) (by decide) (by decide)
    · exact zthrow 1 h E X hZ kw_706 kw_21 (by decide) xx1_X10_117 xx2_X10_117 xx3_X10_117 hl.1 dX10_coast_33 dX10_coast_36 dX10_coast_37 dX10_coast_40 ⟨by decide, Nat.le_of_ble_eq_true rfl⟩ (by decide) (by decide) (by decide) (by decide)
theorem c_X10_coast (l : Launch) (hst : l.stackTraces = false) (g : zG) (M : zM)   {r : zT1} (h : f_X10_coast M  = some r) : zMt l g xE 125 yX10_coast (zWs yX10_coast cX10_coast 2 (some .int)) 9 1 [.ref (g.2.2 0)] M r :=
  zMt_of hst (by decide +kernel) (Nat.le_of_ble_eq_true rfl) (fun p e s m args below meth c ls E X hret hZ hl => w_X10_coast g  E X hret M  _ _ ls h hZ hl)
theorem v_X10_coast : zYV yX10_coast cX10_coast 2 (some .int) 0 := ⟨kw_580, kw_1, kw_578, kw_579, by decide +kernel⟩

def f_X10_law (M : zM)  : Option (zT1) :=
  zbn (f_X4_read M ) (fun u_1 => znm (zu u_1.2 0 13 u_1.1) (fun M_2 => znm (zu M_2 1 1 0) (fun M_3 => if (M_3 0 13) = ((-1)) then (zbn (f_X3_copyFrom M_3 21 27) (fun u_4 => zbn (f_X5_forget u_4 ) (fun u_5 => some (u_5, .inr (u_5 21 0))))) else (some (M_3, .inl 1)))))
set_option maxRecDepth 100000 in
set_option maxHeartbeats 4000000 in
theorem w_X10_law (g : zG)  {r : zT1} (E : zX g p m c cX10_law 1 s args (zWs yX10_law cX10_law 1 (some .int)) RX10) (X : zXt g 125 l s c meth) (hret : zRti g xE 125 p l e (zrm 219 1 (6 * 1)) s m args below meth c 1 cX10_law .int r) (M : zM)  (H : Heap) (locs : List Loc) (ls : Array Slot) (h : f_X10_law M  = some r) (hZ : zS g xE 125 s H locs M) (hl : lv_has ls 1 [(0, .ref (g.2.2 0))]) : W p l e (zrm 219 1 (6 * 1)) s m args below meth c H locs 0 0 (zQt g xE 125 below args s 1 r) (F0 m 0 ls []) := by
  have hx := E.1.1
  have hb := E.1.2.1
  unfold f_X10_law at h
  refine lv_aload_n hx hb dX10_law_0 rfl (lv_at hl 0 rfl) ?_
  refine lv_aload_n hx hb dX10_law_1 rfl (lv_at hl 0 rfl) ?_
  refine zg (v := .ref (g.2.2 42)) E hZ (xb_X10 xs_0) ((xe_X10 xs_0) _) kc_X10 9 (by decide) kw_361 rfl rfl dX10_law_2 ?_
  obtain ⟨u_1, qu_1, h⟩ := zbn_some h
  refine zciS (zrunV E hZ (xb_X4 xs_42) ((xe_X4 xs_42) _) rfl rfl v_X4_read kw_793 (c_X4_read l g M   qu_1 _) rfl hl.1 rfl (Nat.le_of_ble_eq_true rfl) ⟨by decide, by decide⟩ ⟨by decide, by decide⟩ dX10_law_5) hZ (fun H locs hZ => ?_)
  refine zp h E hZ (xb_X10 xs_0) ((xe_X10 xs_0) _) (((xe_X10 xs_0) _).trans (congrArg (fun z => Sum.inr (9, z)) (fs_X10_13 g _ _ _))) kc_X10 (by decide) kw_365 rfl rfl rfl (Nat.le_of_ble_eq_true rfl) dX10_law_8 (fun M_2 H locs eM_2 h hZ => ?_)
  refine lv_aload_n hx hb dX10_law_11 rfl (lv_at hl 0 rfl) ?_
  refine zg (v := .ref (g.2.2 1)) E hZ (xb_X10 xs_0) ((xe_X10 xs_0) _) kc_X10 0 (by decide) kw_352 rfl rfl dX10_law_12 ?_
  refine lv_iconst (v := 0) hx hb dX10_law_15 (by decide) ?_
  refine zp h E hZ (xb_X6 xs_1) ((xe_X6 xs_1) _) (((xe_X6 xs_1) _).trans (congrArg (fun z => Sum.inr (5, z)) (fs_X6_1 g _ _ _))) kc_X6 (by decide) kw_46 rfl rfl rfl (Nat.le_of_ble_eq_true rfl) dX10_law_16 (fun M_3 H locs eM_3 h hZ => ?_)
  refine lv_aload_n hx hb dX10_law_19 rfl (lv_at hl 0 rfl) ?_
  refine zg (v := .int (M_3 0 13)) E hZ (xb_X10 xs_0) ((xe_X10 xs_0) _) kc_X10 13 (by decide) kw_365 rfl rfl dX10_law_20 ?_
  refine lv_iconst (v := (-1)) hx hb dX10_law_23 (by decide) ?_
  refine zic_eq (tgt := 35) h E dX10_law_24 (by decide) (fun c_6 h => ?_) (fun c_6 h => ?_)
  · refine lv_aload_n hx hb dX10_law_35 rfl (lv_at hl 0 rfl) ?_
    refine zg (v := .ref (g.2.2 21)) E hZ (xb_X10 xs_0) ((xe_X10 xs_0) _) kc_X10 4 (by decide) kw_356 rfl rfl dX10_law_36 ?_
    refine lv_aload_n hx hb dX10_law_39 rfl (lv_at hl 0 rfl) ?_
    refine zg (v := .ref (g.2.2 27)) E hZ (xb_X10 xs_0) ((xe_X10 xs_0) _) kc_X10 5 (by decide) kw_357 rfl rfl dX10_law_40 ?_
    obtain ⟨u_4, qu_4, h⟩ := zbn_some h
    refine zcvS (zrunV E hZ (xb_X3 xs_21) ((xe_X3 xs_21) _) rfl rfl v_X3_copyFrom kw_550 (c_X3_copyFrom l g M_3 21 xs_21 27 xs_27  qu_4 _) rfl hl.1 rfl (Nat.le_of_ble_eq_true rfl) ⟨by decide, by decide⟩ ⟨by decide, by decide⟩ dX10_law_43) hZ (fun H locs hZ => ?_)
    refine lv_aload_n hx hb dX10_law_46 rfl (lv_at hl 0 rfl) ?_
    refine zg (v := .ref (g.2.2 51)) E hZ (xb_X10 xs_0) ((xe_X10 xs_0) _) kc_X10 12 (by decide) kw_364 rfl rfl dX10_law_47 ?_
    obtain ⟨u_5, qu_5, h⟩ := zbn_some h
    refine zcvS (zrunV E hZ (xb_X5 xs_51) ((xe_X5 xs_51) _) rfl rfl v_X5_forget kw_559 (c_X5_forget l g u_4   qu_5 _) rfl hl.1 rfl (Nat.le_of_ble_eq_true rfl) ⟨by decide, by decide⟩ ⟨by decide, by decide⟩ dX10_law_50) hZ (fun H locs hZ => ?_)
    refine lv_aload_n hx hb dX10_law_53 rfl (lv_at hl 0 rfl) ?_
    refine zg (v := .ref (g.2.2 21)) E hZ (xb_X10 xs_0) ((xe_X10 xs_0) _) kc_X10 4 (by decide) kw_356 rfl rfl dX10_law_54 ?_
    refine zg (v := .int (u_5 21 0)) E hZ (xb_X3 xs_21) ((xe_X3 xs_21) _) kc_X3 0 (by decide) kw_168 rfl rfl dX10_law_57 ?_
    exact hret _ _ _ _ _ _ _ _ h rfl hZ dX10_law_60 (by decide) (by decide)
  · exact zthrow 1 h E X hZ kw_706 kw_21 (by decide) xx1_X10_117 xx2_X10_117 xx3_X10_117 hl.1 dX10_law_27 dX10_law_30 dX10_law_31 dX10_law_34 ⟨by decide, Nat.le_of_ble_eq_true rfl⟩ (by decide) (by decide) (by decide) (by decide)
theorem c_X10_law (l : Launch) (hst : l.stackTraces = false) (g : zG) (M : zM)   {r : zT1} (h : f_X10_law M  = some r) : zMt l g xE 125 yX10_law (zWs yX10_law cX10_law 1 (some .int)) 219 1 [.ref (g.2.2 0)] M r :=
  zMt_of hst (by decide +kernel) (Nat.le_of_ble_eq_true rfl) (fun p e s m args below meth c ls E X hret hZ hl => w_X10_law g  E X hret M  _ _ ls h hZ hl)
theorem v_X10_law : zYV yX10_law cX10_law 1 (some .int) 0 := ⟨kw_792, kw_1, kw_790, kw_791, by decide +kernel⟩

def b_X10_needPlace_10  (M : zM) : Option (zT1) :=
  some (M, .inl 0)
set_option maxRecDepth 100000 in
set_option maxHeartbeats 4000000 in
theorem lb_X10_needPlace_10 (g : zG)  {r : zT1} (E : zX g p m c cX10_needPlace 2 s args (zWs yX10_needPlace cX10_needPlace 2 none) RX10) (X : zXt g 125 l s c meth) (hret : zRtv g xE 125 p l e (zrm 8 1 (6 * 1)) s m args below meth c 1 cX10_needPlace r) (M : zM)  (H : Heap) (locs : List Loc) (ls : Array Slot) (h : b_X10_needPlace_10  M = some r) (hZ : zS g xE 125 s H locs M) (hl : lv_has ls 2 []) : W p l e (zrm 8 1 (6 * 1)) s m args below meth c H locs 0 0 (zQtv g xE 125 below args s 1 r) (F0 m 10 ls []) := by
  have hx := E.1.1
  have hb := E.1.2.1
  unfold b_X10_needPlace_10 at h
  exact zthrow 0 h E X hZ kw_848 kw_23 (by decide) xx1_X10_366 xx2_X10_366 xx3_X10_366 hl.1 dX10_needPlace_10 dX10_needPlace_13 dX10_needPlace_14 dX10_needPlace_17 ⟨by decide, Nat.le_of_ble_eq_true rfl⟩ (by decide) (by decide) (by decide) (by decide)
def f_X10_needPlace (M : zM) (x1 : Int32) : Option (zT1) :=
  if x1 < 0 then (b_X10_needPlace_10  M) else (if x1 < 12 then (some (M, .inr 0)) else (b_X10_needPlace_10  M))
set_option maxRecDepth 100000 in
set_option maxHeartbeats 4000000 in
theorem w_X10_needPlace (g : zG)  {r : zT1} (E : zX g p m c cX10_needPlace 2 s args (zWs yX10_needPlace cX10_needPlace 2 none) RX10) (X : zXt g 125 l s c meth) (hret : zRtv g xE 125 p l e (zrm 8 1 (6 * 1)) s m args below meth c 1 cX10_needPlace r) (M : zM) (x1 : Int32) (H : Heap) (locs : List Loc) (ls : Array Slot) (h : f_X10_needPlace M x1 = some r) (hZ : zS g xE 125 s H locs M) (hl : lv_has ls 2 [(0, .ref (g.2.2 0)), (1, .int x1)]) : W p l e (zrm 8 1 (6 * 1)) s m args below meth c H locs 0 0 (zQtv g xE 125 below args s 1 r) (F0 m 0 ls []) := by
  have hx := E.1.1
  have hb := E.1.2.1
  unfold f_X10_needPlace at h
  refine lv_iload_n hx hb dX10_needPlace_0 rfl (lv_at hl 1 rfl) ?_
  refine zif_lt (tgt := 10) h E dX10_needPlace_1 (by decide) (fun c_2 h => ?_) (fun c_2 h => ?_)
  · exact lb_X10_needPlace_10 g  E X hret M  H locs ls h hZ (lv_sub hl [] rfl)
  · refine lv_iload_n hx hb dX10_needPlace_4 rfl (lv_at hl 1 rfl) ?_
    refine lv_bipush (v := 12) hx hb dX10_needPlace_5 (by decide) ?_
    refine zic_lt (tgt := 18) h E dX10_needPlace_7 (by decide) (fun c_1 h => ?_) (fun c_1 h => ?_)
    · exact hret _ _ _ _ _ _ _ h hZ dX10_needPlace_18 (by decide) (by decide)
    · exact lb_X10_needPlace_10 g  E X hret M  H locs ls h hZ (lv_sub hl [] rfl)
theorem c_X10_needPlace (l : Launch) (hst : l.stackTraces = false) (g : zG) (M : zM)  (x1 : Int32) {r : zT1} (h : f_X10_needPlace M x1 = some r) : zMtv l g xE 125 yX10_needPlace (zWs yX10_needPlace cX10_needPlace 2 none) 8 1 [.ref (g.2.2 0), .int x1] M r :=
  zMtv_of hst (by decide +kernel) (Nat.le_of_ble_eq_true rfl) (fun p e s m args below meth c ls E X hret hZ hl => w_X10_needPlace g  E X hret M x1 _ _ ls h hZ hl)
theorem v_X10_needPlace : zYV yX10_needPlace cX10_needPlace 2 none 1 := ⟨kw_847, kw_1, kw_846, kp_25, by decide +kernel⟩

def f_X10_ground (M : zM) (x1 : Int32) : Option (zT1) :=
  zbt (f_X10_needPlace M x1) (fun M_2 _ => zbn (f_X10_at M_2 (3 + 1) x1) (fun u_3 => some (M_2, .inr u_3)))
set_option maxRecDepth 100000 in
set_option maxHeartbeats 4000000 in
theorem w_X10_ground (g : zG)  {r : zT1} (E : zX g p m c cX10_ground 2 s args (zWs yX10_ground cX10_ground 2 (some .int)) RX10) (X : zXt g 125 l s c meth) (hret : zRti g xE 125 p l e (zrm 9 1 (6 * 1)) s m args below meth c 1 cX10_ground .int r) (M : zM) (x1 : Int32) (H : Heap) (locs : List Loc) (ls : Array Slot) (h : f_X10_ground M x1 = some r) (hZ : zS g xE 125 s H locs M) (hl : lv_has ls 2 [(0, .ref (g.2.2 0)), (1, .int x1)]) : W p l e (zrm 9 1 (6 * 1)) s m args below meth c H locs 0 0 (zQt g xE 125 below args s 1 r) (F0 m 0 ls []) := by
  have hx := E.1.1
  have hb := E.1.2.1
  unfold f_X10_ground at h
  refine lv_aload_n hx hb dX10_ground_0 rfl (lv_at hl 0 rfl) ?_
  refine lv_iload_n hx hb dX10_ground_1 rfl (lv_at hl 1 rfl) ?_
  obtain ⟨u_1, qu_1, h⟩ := zbt_some h
  refine zctv (zrunVt E X hZ (xb_X10 xs_0) ((xe_X10 xs_0) _) rfl rfl v_X10_needPlace kw_844 (c_X10_needPlace l X.1 g M  x1 qu_1 _) rfl hl.1 rfl (Nat.le_of_ble_eq_true rfl) ⟨by decide, by decide⟩ ⟨by decide, by decide⟩ dX10_ground_2) X hZ h (by decide) (by decide) (fun M_2 H locs eM_2 h hZ => ?_)
  refine W.widen (k := 1) (n := 6) (by decide) (by decide) ?_
  refine lv_aload_n hx hb dX10_ground_5 rfl (lv_at hl 0 rfl) ?_
  refine zg (v := .ref (g.2.2 3)) E hZ (xb_X10 xs_0) ((xe_X10 xs_0) _) kc_X10 1 (by decide) kw_353 rfl rfl dX10_ground_6 ?_
  refine zg (v := .ref (g.2.2 (3 + 1))) E hZ (xb_X9 xs_3) ((xe_X9 xs_3) _) kc_X9 15 (by decide) kw_113 rfl rfl dX10_ground_9 ?_
  refine lv_iload_n hx hb dX10_ground_12 rfl (lv_at hl 1 rfl) ?_
  obtain ⟨u_3, qu_3, h⟩ := zbn_some h
  refine zciR (zrunS E hZ v_X10_at kw_863 (c_X10_at l g M_2 (3 + 1) (xc_X9_ground xs_3).1 x1 qu_3 _) rfl hl.1 rfl (Nat.le_of_ble_eq_true rfl) ⟨by decide, by decide⟩ ⟨by decide, by decide⟩ dX10_ground_13) hZ (fun H locs hZ => ?_)
  exact hret _ _ _ _ _ _ _ _ h rfl hZ dX10_ground_16 (by decide) (by decide)
theorem c_X10_ground (l : Launch) (hst : l.stackTraces = false) (g : zG) (M : zM)  (x1 : Int32) {r : zT1} (h : f_X10_ground M x1 = some r) : zMt l g xE 125 yX10_ground (zWs yX10_ground cX10_ground 2 (some .int)) 9 1 [.ref (g.2.2 0), .int x1] M r :=
  zMt_of hst (by decide +kernel) (Nat.le_of_ble_eq_true rfl) (fun p e s m args below meth c ls E X hret hZ hl => w_X10_ground g  E X hret M x1 _ _ ls h hZ hl)
theorem v_X10_ground : zYV yX10_ground cX10_ground 2 (some .int) 1 := ⟨kw_843, kw_1, kw_841, kw_842, by decide +kernel⟩

def b_X10_needMonk_15  (M : zM) : Option (zT1) :=
  some (M, .inl 0)
set_option maxRecDepth 100000 in
set_option maxHeartbeats 4000000 in
theorem lb_X10_needMonk_15 (g : zG)  {r : zT1} (E : zX g p m c cX10_needMonk 2 s args (zWs yX10_needMonk cX10_needMonk 2 none) RX10) (X : zXt g 125 l s c meth) (hret : zRtv g xE 125 p l e (zrm 8 1 (6 * 1)) s m args below meth c 1 cX10_needMonk r) (M : zM)  (H : Heap) (locs : List Loc) (ls : Array Slot) (h : b_X10_needMonk_15  M = some r) (hZ : zS g xE 125 s H locs M) (hl : lv_has ls 2 []) : W p l e (zrm 8 1 (6 * 1)) s m args below meth c H locs 0 0 (zQtv g xE 125 below args s 1 r) (F0 m 15 ls []) := by
  have hx := E.1.1
  have hb := E.1.2.1
  unfold b_X10_needMonk_15 at h
  exact zthrow 0 h E X hZ kw_848 kw_23 (by decide) xx1_X10_366 xx2_X10_366 xx3_X10_366 hl.1 dX10_needMonk_15 dX10_needMonk_18 dX10_needMonk_19 dX10_needMonk_22 ⟨by decide, Nat.le_of_ble_eq_true rfl⟩ (by decide) (by decide) (by decide) (by decide)
def f_X10_needMonk (M : zM) (x1 : Int32) : Option (zT1) :=
  if x1 < 0 then (b_X10_needMonk_15  M) else (if x1 < (M 3 10) then (some (M, .inr 0)) else (b_X10_needMonk_15  M))
set_option maxRecDepth 100000 in
set_option maxHeartbeats 4000000 in
theorem w_X10_needMonk (g : zG)  {r : zT1} (E : zX g p m c cX10_needMonk 2 s args (zWs yX10_needMonk cX10_needMonk 2 none) RX10) (X : zXt g 125 l s c meth) (hret : zRtv g xE 125 p l e (zrm 8 1 (6 * 1)) s m args below meth c 1 cX10_needMonk r) (M : zM) (x1 : Int32) (H : Heap) (locs : List Loc) (ls : Array Slot) (h : f_X10_needMonk M x1 = some r) (hZ : zS g xE 125 s H locs M) (hl : lv_has ls 2 [(0, .ref (g.2.2 0)), (1, .int x1)]) : W p l e (zrm 8 1 (6 * 1)) s m args below meth c H locs 0 0 (zQtv g xE 125 below args s 1 r) (F0 m 0 ls []) := by
  have hx := E.1.1
  have hb := E.1.2.1
  unfold f_X10_needMonk at h
  refine lv_iload_n hx hb dX10_needMonk_0 rfl (lv_at hl 1 rfl) ?_
  refine zif_lt (tgt := 15) h E dX10_needMonk_1 (by decide) (fun c_2 h => ?_) (fun c_2 h => ?_)
  · exact lb_X10_needMonk_15 g  E X hret M  H locs ls h hZ (lv_sub hl [] rfl)
  · refine lv_iload_n hx hb dX10_needMonk_4 rfl (lv_at hl 1 rfl) ?_
    refine lv_aload_n hx hb dX10_needMonk_5 rfl (lv_at hl 0 rfl) ?_
    refine zg (v := .ref (g.2.2 3)) E hZ (xb_X10 xs_0) ((xe_X10 xs_0) _) kc_X10 1 (by decide) kw_353 rfl rfl dX10_needMonk_6 ?_
    refine zg (v := .int (M 3 10)) E hZ (xb_X9 xs_3) ((xe_X9 xs_3) _) kc_X9 10 (by decide) kw_96 rfl rfl dX10_needMonk_9 ?_
    refine zic_lt (tgt := 23) h E dX10_needMonk_12 (by decide) (fun c_1 h => ?_) (fun c_1 h => ?_)
    · exact hret _ _ _ _ _ _ _ h hZ dX10_needMonk_23 (by decide) (by decide)
    · exact lb_X10_needMonk_15 g  E X hret M  H locs ls h hZ (lv_sub hl [] rfl)
theorem c_X10_needMonk (l : Launch) (hst : l.stackTraces = false) (g : zG) (M : zM)  (x1 : Int32) {r : zT1} (h : f_X10_needMonk M x1 = some r) : zMtv l g xE 125 yX10_needMonk (zWs yX10_needMonk cX10_needMonk 2 none) 8 1 [.ref (g.2.2 0), .int x1] M r :=
  zMtv_of hst (by decide +kernel) (Nat.le_of_ble_eq_true rfl) (fun p e s m args below meth c ls E X hret hZ hl => w_X10_needMonk g  E X hret M x1 _ _ ls h hZ hl)
theorem v_X10_needMonk : zYV yX10_needMonk cX10_needMonk 2 none 1 := ⟨kw_875, kw_1, kw_874, kp_26, by decide +kernel⟩

def f_X10_monk (M : zM) (x1 : Int32) (x2 : Int32) : Option (zT1) :=
  zbt (f_X10_needMonk M x1) (fun M_2 _ => zbn (f_X9_waterIn M_2 3 (M_2 3 0)) (fun u_3 => if x2 = 0 then (zbn (f_X9_monkCell M_2 3 x1 0) (fun u_4 => some (M_2, .inr u_4))) else if x2 = 1 then (zbn (f_X9_monkCell M_2 3 x1 1) (fun u_5 => some (M_2, .inr u_5))) else if x2 = 2 then (zbn (f_X9_monkCell M_2 3 x1 2) (fun u_6 => some (M_2, .inr u_6))) else if x2 = 3 then (zbn (f_X9_monkCell M_2 3 x1 3) (fun u_7 => some (M_2, .inr u_7))) else if x2 = 4 then (zbn (f_X9_isDrowned M_2 3 x1) (fun u_8 => if u_8 = 0 then (some (M_2, .inr 0)) else (some (M_2, .inr 1)))) else if x2 = 5 then (zbn (f_X3_wades M_2 21 3 x1 u_3) (fun u_10 => some (u_10.2, .inr u_10.1))) else if x2 = 6 then (zbn (f_X3_waits M_2 21 3 x1 u_3) (fun u_11 => if u_11.1 = 0 then (some (u_11.2, .inr 0)) else (some (u_11.2, .inr 1)))) else if x2 = 7 then (zbn (f_X3_tires M_2 21 3 x1 u_3) (fun u_13 => some (u_13.2, .inr u_13.1))) else (some (M_2, .inl 3))))
set_option maxRecDepth 100000 in
set_option maxHeartbeats 4000000 in
theorem w_X10_monk (g : zG)  {r : zT1} (E : zX g p m c cX10_monk 4 s args (zWs yX10_monk cX10_monk 4 (some .int)) RX10) (X : zXt g 125 l s c meth) (hret : zRti g xE 125 p l e (zrm 9 2 (6 * 2)) s m args below meth c 2 cX10_monk .int r) (M : zM) (x1 : Int32) (x2 : Int32) (H : Heap) (locs : List Loc) (ls : Array Slot) (h : f_X10_monk M x1 x2 = some r) (hZ : zS g xE 125 s H locs M) (hl : lv_has ls 4 [(0, .ref (g.2.2 0)), (1, .int x1), (2, .int x2)]) : W p l e (zrm 9 2 (6 * 2)) s m args below meth c H locs 0 0 (zQt g xE 125 below args s 2 r) (F0 m 0 ls []) := by
  have hx := E.1.1
  have hb := E.1.2.1
  unfold f_X10_monk at h
  refine lv_aload_n hx hb dX10_monk_0 rfl (lv_at hl 0 rfl) ?_
  refine lv_iload_n hx hb dX10_monk_1 rfl (lv_at hl 1 rfl) ?_
  obtain ⟨u_1, qu_1, h⟩ := zbt_some h
  refine zctv (zrunVt E X hZ (xb_X10 xs_0) ((xe_X10 xs_0) _) rfl rfl v_X10_needMonk kw_872 (c_X10_needMonk l X.1 g M  x1 qu_1 _) rfl hl.1 rfl (Nat.le_of_ble_eq_true rfl) ⟨by decide, by decide⟩ ⟨by decide, by decide⟩ dX10_monk_2) X hZ h (by decide) (by decide) (fun M_2 H locs eM_2 h hZ => ?_)
  refine W.widen (k := 1) (n := 6) (by decide) (by decide) ?_
  refine lv_aload_n hx hb dX10_monk_5 rfl (lv_at hl 0 rfl) ?_
  refine zg (v := .ref (g.2.2 3)) E hZ (xb_X10 xs_0) ((xe_X10 xs_0) _) kc_X10 1 (by decide) kw_353 rfl rfl dX10_monk_6 ?_
  refine lv_aload_n hx hb dX10_monk_9 rfl (lv_at hl 0 rfl) ?_
  refine zg (v := .ref (g.2.2 3)) E hZ (xb_X10 xs_0) ((xe_X10 xs_0) _) kc_X10 1 (by decide) kw_353 rfl rfl dX10_monk_10 ?_
  refine zg (v := .int (M_2 3 0)) E hZ (xb_X9 xs_3) ((xe_X9 xs_3) _) kc_X9 0 (by decide) kw_63 rfl rfl dX10_monk_13 ?_
  obtain ⟨u_3, qu_3, h⟩ := zbn_some h
  refine zciR (zrunV E hZ (xb_X9 xs_3) ((xe_X9 xs_3) _) rfl rfl v_X9_waterIn kw_440 (c_X9_waterIn l g M_2 3 xs_3 (M_2 3 0) qu_3 _) rfl hl.1 rfl (Nat.le_of_ble_eq_true rfl) ⟨by decide, by decide⟩ ⟨by decide, by decide⟩ dX10_monk_16) hZ (fun H locs hZ => ?_)
  refine lv_istore_n (lv' := [(3, .int u_3), (0, .ref (g.2.2 0)), (1, .int x1), (2, .int x2)]) hx hb dX10_monk_19 rfl hl (by decide) rfl (fun ls hl => ?_)
  refine lv_iload_n hx hb dX10_monk_20 rfl (lv_at hl 3 rfl) ?_
  rcases zsp h with ⟨c_14, h⟩ | ⟨c_14, h⟩
  · refine lv_tableIn (tgt := 68) hx hb dX10_monk_21 (by rw [c_14]; decide) (by rw [c_14]; decide) (by rw [c_14]; rfl) (by decide) ?_
    refine lv_aload_n hx hb dX10_monk_68 rfl (lv_at hl 1 rfl) ?_
    refine zg (v := .ref (g.2.2 3)) E hZ (xb_X10 xs_0) ((xe_X10 xs_0) _) kc_X10 1 (by decide) kw_353 rfl rfl dX10_monk_69 ?_
    refine lv_iload_n hx hb dX10_monk_72 rfl (lv_at hl 2 rfl) ?_
    refine lv_iconst (v := 0) hx hb dX10_monk_73 (by decide) ?_
    obtain ⟨u_4, qu_4, h⟩ := zbn_some h
    refine zciR (zrunV E hZ (xb_X9 xs_3) ((xe_X9 xs_3) _) rfl rfl v_X9_monkCell kw_455 (c_X9_monkCell l g M_2 3 xs_3 x1 0 qu_4 _) rfl hl.1 rfl (Nat.le_of_ble_eq_true rfl) ⟨by decide, by decide⟩ ⟨by decide, by decide⟩ dX10_monk_74) hZ (fun H locs hZ => ?_)
    exact hret _ _ _ _ _ _ _ _ h rfl hZ dX10_monk_77 (by decide) (by decide)
  rcases zsp h with ⟨c_15, h⟩ | ⟨c_15, h⟩
  · refine lv_tableIn (tgt := 78) hx hb dX10_monk_21 (by rw [c_15]; decide) (by rw [c_15]; decide) (by rw [c_15]; rfl) (by decide) ?_
    refine lv_aload_n hx hb dX10_monk_78 rfl (lv_at hl 1 rfl) ?_
    refine zg (v := .ref (g.2.2 3)) E hZ (xb_X10 xs_0) ((xe_X10 xs_0) _) kc_X10 1 (by decide) kw_353 rfl rfl dX10_monk_79 ?_
    refine lv_iload_n hx hb dX10_monk_82 rfl (lv_at hl 2 rfl) ?_
    refine lv_iconst (v := 1) hx hb dX10_monk_83 (by decide) ?_
    obtain ⟨u_5, qu_5, h⟩ := zbn_some h
    refine zciR (zrunV E hZ (xb_X9 xs_3) ((xe_X9 xs_3) _) rfl rfl v_X9_monkCell kw_455 (c_X9_monkCell l g M_2 3 xs_3 x1 1 qu_5 _) rfl hl.1 rfl (Nat.le_of_ble_eq_true rfl) ⟨by decide, by decide⟩ ⟨by decide, by decide⟩ dX10_monk_84) hZ (fun H locs hZ => ?_)
    exact hret _ _ _ _ _ _ _ _ h rfl hZ dX10_monk_87 (by decide) (by decide)
  rcases zsp h with ⟨c_16, h⟩ | ⟨c_16, h⟩
  · refine lv_tableIn (tgt := 88) hx hb dX10_monk_21 (by rw [c_16]; decide) (by rw [c_16]; decide) (by rw [c_16]; rfl) (by decide) ?_
    refine lv_aload_n hx hb dX10_monk_88 rfl (lv_at hl 1 rfl) ?_
    refine zg (v := .ref (g.2.2 3)) E hZ (xb_X10 xs_0) ((xe_X10 xs_0) _) kc_X10 1 (by decide) kw_353 rfl rfl dX10_monk_89 ?_
    refine lv_iload_n hx hb dX10_monk_92 rfl (lv_at hl 2 rfl) ?_
    refine lv_iconst (v := 2) hx hb dX10_monk_93 (by decide) ?_
    obtain ⟨u_6, qu_6, h⟩ := zbn_some h
    refine zciR (zrunV E hZ (xb_X9 xs_3) ((xe_X9 xs_3) _) rfl rfl v_X9_monkCell kw_455 (c_X9_monkCell l g M_2 3 xs_3 x1 2 qu_6 _) rfl hl.1 rfl (Nat.le_of_ble_eq_true rfl) ⟨by decide, by decide⟩ ⟨by decide, by decide⟩ dX10_monk_94) hZ (fun H locs hZ => ?_)
    exact hret _ _ _ _ _ _ _ _ h rfl hZ dX10_monk_97 (by decide) (by decide)
  rcases zsp h with ⟨c_17, h⟩ | ⟨c_17, h⟩
  · refine lv_tableIn (tgt := 98) hx hb dX10_monk_21 (by rw [c_17]; decide) (by rw [c_17]; decide) (by rw [c_17]; rfl) (by decide) ?_
    refine lv_aload_n hx hb dX10_monk_98 rfl (lv_at hl 1 rfl) ?_
    refine zg (v := .ref (g.2.2 3)) E hZ (xb_X10 xs_0) ((xe_X10 xs_0) _) kc_X10 1 (by decide) kw_353 rfl rfl dX10_monk_99 ?_
    refine lv_iload_n hx hb dX10_monk_102 rfl (lv_at hl 2 rfl) ?_
    refine lv_iconst (v := 3) hx hb dX10_monk_103 (by decide) ?_
    obtain ⟨u_7, qu_7, h⟩ := zbn_some h
    refine zciR (zrunV E hZ (xb_X9 xs_3) ((xe_X9 xs_3) _) rfl rfl v_X9_monkCell kw_455 (c_X9_monkCell l g M_2 3 xs_3 x1 3 qu_7 _) rfl hl.1 rfl (Nat.le_of_ble_eq_true rfl) ⟨by decide, by decide⟩ ⟨by decide, by decide⟩ dX10_monk_104) hZ (fun H locs hZ => ?_)
    exact hret _ _ _ _ _ _ _ _ h rfl hZ dX10_monk_107 (by decide) (by decide)
  rcases zsp h with ⟨c_18, h⟩ | ⟨c_18, h⟩
  · refine lv_tableIn (tgt := 108) hx hb dX10_monk_21 (by rw [c_18]; decide) (by rw [c_18]; decide) (by rw [c_18]; rfl) (by decide) ?_
    refine lv_aload_n hx hb dX10_monk_108 rfl (lv_at hl 1 rfl) ?_
    refine zg (v := .ref (g.2.2 3)) E hZ (xb_X10 xs_0) ((xe_X10 xs_0) _) kc_X10 1 (by decide) kw_353 rfl rfl dX10_monk_109 ?_
    refine lv_iload_n hx hb dX10_monk_112 rfl (lv_at hl 2 rfl) ?_
    obtain ⟨u_8, qu_8, h⟩ := zbn_some h
    refine zciR (zrunV E hZ (xb_X9 xs_3) ((xe_X9 xs_3) _) rfl rfl v_X9_isDrowned kw_459 (c_X9_isDrowned l g M_2 3 xs_3 x1 qu_8 _) rfl hl.1 rfl (Nat.le_of_ble_eq_true rfl) ⟨by decide, by decide⟩ ⟨by decide, by decide⟩ dX10_monk_113) hZ (fun H locs hZ => ?_)
    refine zif_eq (tgt := 123) h E dX10_monk_116 (by decide) (fun c_9 h => ?_) (fun c_9 h => ?_)
    · refine lv_iconst (v := 0) hx hb dX10_monk_123 (by decide) ?_
      exact hret _ _ _ _ _ _ _ _ h rfl hZ dX10_monk_124 (by decide) (by decide)
    · refine lv_iconst (v := 1) hx hb dX10_monk_119 (by decide) ?_
      refine lv_goto (tgt := 124) hx hb dX10_monk_120 (by decide) ?_
      exact hret _ _ _ _ _ _ _ _ h rfl hZ dX10_monk_124 (by decide) (by decide)
  rcases zsp h with ⟨c_19, h⟩ | ⟨c_19, h⟩
  · refine lv_tableIn (tgt := 125) hx hb dX10_monk_21 (by rw [c_19]; decide) (by rw [c_19]; decide) (by rw [c_19]; rfl) (by decide) ?_
    refine lv_aload_n hx hb dX10_monk_125 rfl (lv_at hl 1 rfl) ?_
    refine zg (v := .ref (g.2.2 21)) E hZ (xb_X10 xs_0) ((xe_X10 xs_0) _) kc_X10 4 (by decide) kw_356 rfl rfl dX10_monk_126 ?_
    refine lv_aload_n hx hb dX10_monk_129 rfl (lv_at hl 1 rfl) ?_
    refine zg (v := .ref (g.2.2 3)) E hZ (xb_X10 xs_0) ((xe_X10 xs_0) _) kc_X10 1 (by decide) kw_353 rfl rfl dX10_monk_130 ?_
    refine lv_iload_n hx hb dX10_monk_133 rfl (lv_at hl 2 rfl) ?_
    refine lv_iload_n hx hb dX10_monk_134 rfl (lv_at hl 0 rfl) ?_
    obtain ⟨u_10, qu_10, h⟩ := zbn_some h
    refine zciS (zrunV E hZ (xb_X3 xs_21) ((xe_X3 xs_21) _) rfl rfl v_X3_wades kw_470 (c_X3_wades l g M_2 21 xs_21 3 xs_3 x1 u_3 qu_10 _) rfl hl.1 rfl (Nat.le_of_ble_eq_true rfl) ⟨by decide, by decide⟩ ⟨by decide, by decide⟩ dX10_monk_135) hZ (fun H locs hZ => ?_)
    exact hret _ _ _ _ _ _ _ _ h rfl hZ dX10_monk_138 (by decide) (by decide)
  rcases zsp h with ⟨c_20, h⟩ | ⟨c_20, h⟩
  · refine lv_tableIn (tgt := 139) hx hb dX10_monk_21 (by rw [c_20]; decide) (by rw [c_20]; decide) (by rw [c_20]; rfl) (by decide) ?_
    refine lv_aload_n hx hb dX10_monk_139 rfl (lv_at hl 1 rfl) ?_
    refine zg (v := .ref (g.2.2 21)) E hZ (xb_X10 xs_0) ((xe_X10 xs_0) _) kc_X10 4 (by decide) kw_356 rfl rfl dX10_monk_140 ?_
    refine lv_aload_n hx hb dX10_monk_143 rfl (lv_at hl 1 rfl) ?_
    refine zg (v := .ref (g.2.2 3)) E hZ (xb_X10 xs_0) ((xe_X10 xs_0) _) kc_X10 1 (by decide) kw_353 rfl rfl dX10_monk_144 ?_
    refine lv_iload_n hx hb dX10_monk_147 rfl (lv_at hl 2 rfl) ?_
    refine lv_iload_n hx hb dX10_monk_148 rfl (lv_at hl 0 rfl) ?_
    obtain ⟨u_11, qu_11, h⟩ := zbn_some h
    refine zciS (zrunV E hZ (xb_X3 xs_21) ((xe_X3 xs_21) _) rfl rfl v_X3_waits kw_876 (c_X3_waits l g M_2 21 xs_21 3 xs_3 x1 u_3 qu_11 _) rfl hl.1 rfl (Nat.le_of_ble_eq_true rfl) ⟨by decide, by decide⟩ ⟨by decide, by decide⟩ dX10_monk_149) hZ (fun H locs hZ => ?_)
    refine zif_eq (tgt := 159) h E dX10_monk_152 (by decide) (fun c_12 h => ?_) (fun c_12 h => ?_)
    · refine lv_iconst (v := 0) hx hb dX10_monk_159 (by decide) ?_
      exact hret _ _ _ _ _ _ _ _ h rfl hZ dX10_monk_160 (by decide) (by decide)
    · refine lv_iconst (v := 1) hx hb dX10_monk_155 (by decide) ?_
      refine lv_goto (tgt := 160) hx hb dX10_monk_156 (by decide) ?_
      exact hret _ _ _ _ _ _ _ _ h rfl hZ dX10_monk_160 (by decide) (by decide)
  rcases zsp h with ⟨c_21, h⟩ | ⟨c_21, h⟩
  · refine lv_tableIn (tgt := 161) hx hb dX10_monk_21 (by rw [c_21]; decide) (by rw [c_21]; decide) (by rw [c_21]; rfl) (by decide) ?_
    refine lv_aload_n hx hb dX10_monk_161 rfl (lv_at hl 1 rfl) ?_
    refine zg (v := .ref (g.2.2 21)) E hZ (xb_X10 xs_0) ((xe_X10 xs_0) _) kc_X10 4 (by decide) kw_356 rfl rfl dX10_monk_162 ?_
    refine lv_aload_n hx hb dX10_monk_165 rfl (lv_at hl 1 rfl) ?_
    refine zg (v := .ref (g.2.2 3)) E hZ (xb_X10 xs_0) ((xe_X10 xs_0) _) kc_X10 1 (by decide) kw_353 rfl rfl dX10_monk_166 ?_
    refine lv_iload_n hx hb dX10_monk_169 rfl (lv_at hl 2 rfl) ?_
    refine lv_iload_n hx hb dX10_monk_170 rfl (lv_at hl 0 rfl) ?_
    obtain ⟨u_13, qu_13, h⟩ := zbn_some h
    refine zciS (zrunV E hZ (xb_X3 xs_21) ((xe_X3 xs_21) _) rfl rfl v_X3_tires kw_880 (c_X3_tires l g M_2 21 xs_21 3 xs_3 x1 u_3 qu_13 _) rfl hl.1 rfl (Nat.le_of_ble_eq_true rfl) ⟨by decide, by decide⟩ ⟨by decide, by decide⟩ dX10_monk_171) hZ (fun H locs hZ => ?_)
    exact hret _ _ _ _ _ _ _ _ h rfl hZ dX10_monk_174 (by decide) (by decide)
  have hdf : W p l e (zrm 9 2 (6 * 2)) s m args below meth c H locs 1 6 (zQt g xE 125 below args s 2 r) (F0 m 175 ls []) := by
    exact zthrow 3 h E X hZ kw_884 kw_24 (by decide) xx1_X10_182 xx2_X10_182 xx3_X10_182 hl.1 dX10_monk_175 dX10_monk_178 dX10_monk_179 dX10_monk_182 ⟨by decide, Nat.le_of_ble_eq_true rfl⟩ (by decide) (by decide) (by decide) (by decide)
  exact lv_tableOut (tgt := 175) hx hb dX10_monk_21 (zsw_out [0, 1, 2, 3, 4, 5, 6, 7] (by decide) (by simp [c_14, c_15, c_16, c_17, c_18, c_19, c_20, c_21])) (by decide) hdf
theorem c_X10_monk (l : Launch) (hst : l.stackTraces = false) (g : zG) (M : zM)  (x1 : Int32) (x2 : Int32) {r : zT1} (h : f_X10_monk M x1 x2 = some r) : zMt l g xE 125 yX10_monk (zWs yX10_monk cX10_monk 4 (some .int)) 9 2 [.ref (g.2.2 0), .int x1, .int x2] M r :=
  zMt_of hst (by decide +kernel) (Nat.le_of_ble_eq_true rfl) (fun p e s m args below meth c ls E X hret hZ hl => w_X10_monk g  E X hret M x1 x2 _ _ ls h hZ hl)
theorem v_X10_monk : zYV yX10_monk cX10_monk 4 (some .int) 2 := ⟨kw_871, kw_1, kw_869, kw_870, by decide +kernel⟩

def b_X10_needDuty_15  (M : zM) : Option (zT1) :=
  some (M, .inl 0)
set_option maxRecDepth 100000 in
set_option maxHeartbeats 4000000 in
theorem lb_X10_needDuty_15 (g : zG)  {r : zT1} (E : zX g p m c cX10_needDuty 2 s args (zWs yX10_needDuty cX10_needDuty 2 none) RX10) (X : zXt g 125 l s c meth) (hret : zRtv g xE 125 p l e (zrm 8 1 (6 * 1)) s m args below meth c 1 cX10_needDuty r) (M : zM)  (H : Heap) (locs : List Loc) (ls : Array Slot) (h : b_X10_needDuty_15  M = some r) (hZ : zS g xE 125 s H locs M) (hl : lv_has ls 2 []) : W p l e (zrm 8 1 (6 * 1)) s m args below meth c H locs 0 0 (zQtv g xE 125 below args s 1 r) (F0 m 15 ls []) := by
  have hx := E.1.1
  have hb := E.1.2.1
  unfold b_X10_needDuty_15 at h
  exact zthrow 0 h E X hZ kw_848 kw_23 (by decide) xx1_X10_366 xx2_X10_366 xx3_X10_366 hl.1 dX10_needDuty_15 dX10_needDuty_18 dX10_needDuty_19 dX10_needDuty_22 ⟨by decide, Nat.le_of_ble_eq_true rfl⟩ (by decide) (by decide) (by decide) (by decide)
def f_X10_needDuty (M : zM) (x1 : Int32) : Option (zT1) :=
  if x1 < 0 then (b_X10_needDuty_15  M) else (if x1 < (M 3 11) then (some (M, .inr 0)) else (b_X10_needDuty_15  M))
set_option maxRecDepth 100000 in
set_option maxHeartbeats 4000000 in
theorem w_X10_needDuty (g : zG)  {r : zT1} (E : zX g p m c cX10_needDuty 2 s args (zWs yX10_needDuty cX10_needDuty 2 none) RX10) (X : zXt g 125 l s c meth) (hret : zRtv g xE 125 p l e (zrm 8 1 (6 * 1)) s m args below meth c 1 cX10_needDuty r) (M : zM) (x1 : Int32) (H : Heap) (locs : List Loc) (ls : Array Slot) (h : f_X10_needDuty M x1 = some r) (hZ : zS g xE 125 s H locs M) (hl : lv_has ls 2 [(0, .ref (g.2.2 0)), (1, .int x1)]) : W p l e (zrm 8 1 (6 * 1)) s m args below meth c H locs 0 0 (zQtv g xE 125 below args s 1 r) (F0 m 0 ls []) := by
  have hx := E.1.1
  have hb := E.1.2.1
  unfold f_X10_needDuty at h
  refine lv_iload_n hx hb dX10_needDuty_0 rfl (lv_at hl 1 rfl) ?_
  refine zif_lt (tgt := 15) h E dX10_needDuty_1 (by decide) (fun c_2 h => ?_) (fun c_2 h => ?_)
  · exact lb_X10_needDuty_15 g  E X hret M  H locs ls h hZ (lv_sub hl [] rfl)
  · refine lv_iload_n hx hb dX10_needDuty_4 rfl (lv_at hl 1 rfl) ?_
    refine lv_aload_n hx hb dX10_needDuty_5 rfl (lv_at hl 0 rfl) ?_
    refine zg (v := .ref (g.2.2 3)) E hZ (xb_X10 xs_0) ((xe_X10 xs_0) _) kc_X10 1 (by decide) kw_353 rfl rfl dX10_needDuty_6 ?_
    refine zg (v := .int (M 3 11)) E hZ (xb_X9 xs_3) ((xe_X9 xs_3) _) kc_X9 11 (by decide) kw_101 rfl rfl dX10_needDuty_9 ?_
    refine zic_lt (tgt := 23) h E dX10_needDuty_12 (by decide) (fun c_1 h => ?_) (fun c_1 h => ?_)
    · exact hret _ _ _ _ _ _ _ h hZ dX10_needDuty_23 (by decide) (by decide)
    · exact lb_X10_needDuty_15 g  E X hret M  H locs ls h hZ (lv_sub hl [] rfl)
theorem c_X10_needDuty (l : Launch) (hst : l.stackTraces = false) (g : zG) (M : zM)  (x1 : Int32) {r : zT1} (h : f_X10_needDuty M x1 = some r) : zMtv l g xE 125 yX10_needDuty (zWs yX10_needDuty cX10_needDuty 2 none) 8 1 [.ref (g.2.2 0), .int x1] M r :=
  zMtv_of hst (by decide +kernel) (Nat.le_of_ble_eq_true rfl) (fun p e s m args below meth c ls E X hret hZ hl => w_X10_needDuty g  E X hret M x1 _ _ ls h hZ hl)
theorem v_X10_needDuty : zYV yX10_needDuty cX10_needDuty 2 none 1 := ⟨kw_909, kw_1, kw_908, kp_27, by decide +kernel⟩

def f_X10_duty (M : zM) (x1 : Int32) (x2 : Int32) : Option (zT1) :=
  zbt (f_X10_needDuty M x1) (fun M_2 _ => if x2 = 0 then (zbn (f_X9_dutyCell M_2 3 x1 0) (fun u_3 => some (M_2, .inr u_3))) else if x2 = 1 then (zbn (f_X9_dutyCell M_2 3 x1 1) (fun u_4 => some (M_2, .inr u_4))) else if x2 = 2 then (zbn (f_X9_dutyCell M_2 3 x1 2) (fun u_5 => some (M_2, .inr u_5))) else if x2 = 3 then (zbn (f_X9_isKept M_2 3 x1) (fun u_6 => if u_6 = 0 then (some (M_2, .inr 0)) else (some (M_2, .inr 1)))) else (some (M_2, .inl 3)))
set_option maxRecDepth 100000 in
set_option maxHeartbeats 4000000 in
theorem w_X10_duty (g : zG)  {r : zT1} (E : zX g p m c cX10_duty 3 s args (zWs yX10_duty cX10_duty 3 (some .int)) RX10) (X : zXt g 125 l s c meth) (hret : zRti g xE 125 p l e (zrm 9 2 (6 * 2)) s m args below meth c 2 cX10_duty .int r) (M : zM) (x1 : Int32) (x2 : Int32) (H : Heap) (locs : List Loc) (ls : Array Slot) (h : f_X10_duty M x1 x2 = some r) (hZ : zS g xE 125 s H locs M) (hl : lv_has ls 3 [(0, .ref (g.2.2 0)), (1, .int x1), (2, .int x2)]) : W p l e (zrm 9 2 (6 * 2)) s m args below meth c H locs 0 0 (zQt g xE 125 below args s 2 r) (F0 m 0 ls []) := by
  have hx := E.1.1
  have hb := E.1.2.1
  unfold f_X10_duty at h
  refine lv_aload_n hx hb dX10_duty_0 rfl (lv_at hl 0 rfl) ?_
  refine lv_iload_n hx hb dX10_duty_1 rfl (lv_at hl 1 rfl) ?_
  obtain ⟨u_1, qu_1, h⟩ := zbt_some h
  refine zctv (zrunVt E X hZ (xb_X10 xs_0) ((xe_X10 xs_0) _) rfl rfl v_X10_needDuty kw_906 (c_X10_needDuty l X.1 g M  x1 qu_1 _) rfl hl.1 rfl (Nat.le_of_ble_eq_true rfl) ⟨by decide, by decide⟩ ⟨by decide, by decide⟩ dX10_duty_2) X hZ h (by decide) (by decide) (fun M_2 H locs eM_2 h hZ => ?_)
  refine W.widen (k := 1) (n := 6) (by decide) (by decide) ?_
  refine lv_iload_n hx hb dX10_duty_5 rfl (lv_at hl 2 rfl) ?_
  rcases zsp h with ⟨c_8, h⟩ | ⟨c_8, h⟩
  · refine lv_tableIn (tgt := 36) hx hb dX10_duty_6 (by rw [c_8]; decide) (by rw [c_8]; decide) (by rw [c_8]; rfl) (by decide) ?_
    refine lv_aload_n hx hb dX10_duty_36 rfl (lv_at hl 0 rfl) ?_
    refine zg (v := .ref (g.2.2 3)) E hZ (xb_X10 xs_0) ((xe_X10 xs_0) _) kc_X10 1 (by decide) kw_353 rfl rfl dX10_duty_37 ?_
    refine lv_iload_n hx hb dX10_duty_40 rfl (lv_at hl 1 rfl) ?_
    refine lv_iconst (v := 0) hx hb dX10_duty_41 (by decide) ?_
    obtain ⟨u_3, qu_3, h⟩ := zbn_some h
    refine zciR (zrunV E hZ (xb_X9 xs_3) ((xe_X9 xs_3) _) rfl rfl v_X9_dutyCell kw_512 (c_X9_dutyCell l g M_2 3 xs_3 x1 0 qu_3 _) rfl hl.1 rfl (Nat.le_of_ble_eq_true rfl) ⟨by decide, by decide⟩ ⟨by decide, by decide⟩ dX10_duty_42) hZ (fun H locs hZ => ?_)
    exact hret _ _ _ _ _ _ _ _ h rfl hZ dX10_duty_45 (by decide) (by decide)
  rcases zsp h with ⟨c_9, h⟩ | ⟨c_9, h⟩
  · refine lv_tableIn (tgt := 46) hx hb dX10_duty_6 (by rw [c_9]; decide) (by rw [c_9]; decide) (by rw [c_9]; rfl) (by decide) ?_
    refine lv_aload_n hx hb dX10_duty_46 rfl (lv_at hl 0 rfl) ?_
    refine zg (v := .ref (g.2.2 3)) E hZ (xb_X10 xs_0) ((xe_X10 xs_0) _) kc_X10 1 (by decide) kw_353 rfl rfl dX10_duty_47 ?_
    refine lv_iload_n hx hb dX10_duty_50 rfl (lv_at hl 1 rfl) ?_
    refine lv_iconst (v := 1) hx hb dX10_duty_51 (by decide) ?_
    obtain ⟨u_4, qu_4, h⟩ := zbn_some h
    refine zciR (zrunV E hZ (xb_X9 xs_3) ((xe_X9 xs_3) _) rfl rfl v_X9_dutyCell kw_512 (c_X9_dutyCell l g M_2 3 xs_3 x1 1 qu_4 _) rfl hl.1 rfl (Nat.le_of_ble_eq_true rfl) ⟨by decide, by decide⟩ ⟨by decide, by decide⟩ dX10_duty_52) hZ (fun H locs hZ => ?_)
    exact hret _ _ _ _ _ _ _ _ h rfl hZ dX10_duty_55 (by decide) (by decide)
  rcases zsp h with ⟨c_10, h⟩ | ⟨c_10, h⟩
  · refine lv_tableIn (tgt := 56) hx hb dX10_duty_6 (by rw [c_10]; decide) (by rw [c_10]; decide) (by rw [c_10]; rfl) (by decide) ?_
    refine lv_aload_n hx hb dX10_duty_56 rfl (lv_at hl 0 rfl) ?_
    refine zg (v := .ref (g.2.2 3)) E hZ (xb_X10 xs_0) ((xe_X10 xs_0) _) kc_X10 1 (by decide) kw_353 rfl rfl dX10_duty_57 ?_
    refine lv_iload_n hx hb dX10_duty_60 rfl (lv_at hl 1 rfl) ?_
    refine lv_iconst (v := 2) hx hb dX10_duty_61 (by decide) ?_
    obtain ⟨u_5, qu_5, h⟩ := zbn_some h
    refine zciR (zrunV E hZ (xb_X9 xs_3) ((xe_X9 xs_3) _) rfl rfl v_X9_dutyCell kw_512 (c_X9_dutyCell l g M_2 3 xs_3 x1 2 qu_5 _) rfl hl.1 rfl (Nat.le_of_ble_eq_true rfl) ⟨by decide, by decide⟩ ⟨by decide, by decide⟩ dX10_duty_62) hZ (fun H locs hZ => ?_)
    exact hret _ _ _ _ _ _ _ _ h rfl hZ dX10_duty_65 (by decide) (by decide)
  rcases zsp h with ⟨c_11, h⟩ | ⟨c_11, h⟩
  · refine lv_tableIn (tgt := 66) hx hb dX10_duty_6 (by rw [c_11]; decide) (by rw [c_11]; decide) (by rw [c_11]; rfl) (by decide) ?_
    refine lv_aload_n hx hb dX10_duty_66 rfl (lv_at hl 0 rfl) ?_
    refine zg (v := .ref (g.2.2 3)) E hZ (xb_X10 xs_0) ((xe_X10 xs_0) _) kc_X10 1 (by decide) kw_353 rfl rfl dX10_duty_67 ?_
    refine lv_iload_n hx hb dX10_duty_70 rfl (lv_at hl 1 rfl) ?_
    obtain ⟨u_6, qu_6, h⟩ := zbn_some h
    refine zciR (zrunV E hZ (xb_X9 xs_3) ((xe_X9 xs_3) _) rfl rfl v_X9_isKept kw_508 (c_X9_isKept l g M_2 3 xs_3 x1 qu_6 _) rfl hl.1 rfl (Nat.le_of_ble_eq_true rfl) ⟨by decide, by decide⟩ ⟨by decide, by decide⟩ dX10_duty_71) hZ (fun H locs hZ => ?_)
    refine zif_eq (tgt := 81) h E dX10_duty_74 (by decide) (fun c_7 h => ?_) (fun c_7 h => ?_)
    · refine lv_iconst (v := 0) hx hb dX10_duty_81 (by decide) ?_
      exact hret _ _ _ _ _ _ _ _ h rfl hZ dX10_duty_82 (by decide) (by decide)
    · refine lv_iconst (v := 1) hx hb dX10_duty_77 (by decide) ?_
      refine lv_goto (tgt := 82) hx hb dX10_duty_78 (by decide) ?_
      exact hret _ _ _ _ _ _ _ _ h rfl hZ dX10_duty_82 (by decide) (by decide)
  have hdf : W p l e (zrm 9 2 (6 * 2)) s m args below meth c H locs 1 6 (zQt g xE 125 below args s 2 r) (F0 m 83 ls []) := by
    exact zthrow 3 h E X hZ kw_884 kw_24 (by decide) xx1_X10_182 xx2_X10_182 xx3_X10_182 hl.1 dX10_duty_83 dX10_duty_86 dX10_duty_87 dX10_duty_90 ⟨by decide, Nat.le_of_ble_eq_true rfl⟩ (by decide) (by decide) (by decide) (by decide)
  exact lv_tableOut (tgt := 83) hx hb dX10_duty_6 (zsw_out [0, 1, 2, 3] (by decide) (by simp [c_8, c_9, c_10, c_11])) (by decide) hdf
theorem c_X10_duty (l : Launch) (hst : l.stackTraces = false) (g : zG) (M : zM)  (x1 : Int32) (x2 : Int32) {r : zT1} (h : f_X10_duty M x1 x2 = some r) : zMt l g xE 125 yX10_duty (zWs yX10_duty cX10_duty 3 (some .int)) 9 2 [.ref (g.2.2 0), .int x1, .int x2] M r :=
  zMt_of hst (by decide +kernel) (Nat.le_of_ble_eq_true rfl) (fun p e s m args below meth c ls E X hret hZ hl => w_X10_duty g  E X hret M x1 x2 _ _ ls h hZ hl)
theorem v_X10_duty : zYV yX10_duty cX10_duty 3 (some .int) 2 := ⟨kw_905, kw_1, kw_903, kw_904, by decide +kernel⟩

def b_X10_needWithin_10  (M : zM) : Option (zT1) :=
  some (M, .inl 1)
set_option maxRecDepth 100000 in
set_option maxHeartbeats 4000000 in
theorem lb_X10_needWithin_10 (g : zG)  {r : zT1} (E : zX g p m c cX10_needWithin 4 s args (zWs yX10_needWithin cX10_needWithin 4 none) RX10) (X : zXt g 125 l s c meth) (hret : zRtv g xE 125 p l e (zrm 8 1 (6 * 1)) s m args below meth c 1 cX10_needWithin r) (M : zM)  (H : Heap) (locs : List Loc) (ls : Array Slot) (h : b_X10_needWithin_10  M = some r) (hZ : zS g xE 125 s H locs M) (hl : lv_has ls 4 []) : W p l e (zrm 8 1 (6 * 1)) s m args below meth c H locs 0 0 (zQtv g xE 125 below args s 1 r) (F0 m 10 ls []) := by
  have hx := E.1.1
  have hb := E.1.2.1
  unfold b_X10_needWithin_10 at h
  exact zthrow 1 h E X hZ kw_706 kw_21 (by decide) xx1_X10_117 xx2_X10_117 xx3_X10_117 hl.1 dX10_needWithin_10 dX10_needWithin_13 dX10_needWithin_14 dX10_needWithin_17 ⟨by decide, Nat.le_of_ble_eq_true rfl⟩ (by decide) (by decide) (by decide) (by decide)
def f_X10_needWithin (M : zM) (x1 : Int32) (x2 : Int32) (x3 : Int32) : Option (zT1) :=
  if x1 < x2 then (b_X10_needWithin_10  M) else (if x1 ≤ x3 then (some (M, .inr 0)) else (b_X10_needWithin_10  M))
set_option maxRecDepth 100000 in
set_option maxHeartbeats 4000000 in
theorem w_X10_needWithin (g : zG)  {r : zT1} (E : zX g p m c cX10_needWithin 4 s args (zWs yX10_needWithin cX10_needWithin 4 none) RX10) (X : zXt g 125 l s c meth) (hret : zRtv g xE 125 p l e (zrm 8 1 (6 * 1)) s m args below meth c 1 cX10_needWithin r) (M : zM) (x1 : Int32) (x2 : Int32) (x3 : Int32) (H : Heap) (locs : List Loc) (ls : Array Slot) (h : f_X10_needWithin M x1 x2 x3 = some r) (hZ : zS g xE 125 s H locs M) (hl : lv_has ls 4 [(0, .ref (g.2.2 0)), (1, .int x1), (2, .int x2), (3, .int x3)]) : W p l e (zrm 8 1 (6 * 1)) s m args below meth c H locs 0 0 (zQtv g xE 125 below args s 1 r) (F0 m 0 ls []) := by
  have hx := E.1.1
  have hb := E.1.2.1
  unfold f_X10_needWithin at h
  refine lv_iload_n hx hb dX10_needWithin_0 rfl (lv_at hl 1 rfl) ?_
  refine lv_iload_n hx hb dX10_needWithin_1 rfl (lv_at hl 2 rfl) ?_
  refine zic_lt (tgt := 10) h E dX10_needWithin_2 (by decide) (fun c_2 h => ?_) (fun c_2 h => ?_)
  · exact lb_X10_needWithin_10 g  E X hret M  H locs ls h hZ (lv_sub hl [] rfl)
  · refine lv_iload_n hx hb dX10_needWithin_5 rfl (lv_at hl 1 rfl) ?_
    refine lv_iload_n hx hb dX10_needWithin_6 rfl (lv_at hl 3 rfl) ?_
    refine zic_le (tgt := 18) h E dX10_needWithin_7 (by decide) (fun c_1 h => ?_) (fun c_1 h => ?_)
    · exact hret _ _ _ _ _ _ _ h hZ dX10_needWithin_18 (by decide) (by decide)
    · exact lb_X10_needWithin_10 g  E X hret M  H locs ls h hZ (lv_sub hl [] rfl)
theorem c_X10_needWithin (l : Launch) (hst : l.stackTraces = false) (g : zG) (M : zM)  (x1 : Int32) (x2 : Int32) (x3 : Int32) {r : zT1} (h : f_X10_needWithin M x1 x2 x3 = some r) : zMtv l g xE 125 yX10_needWithin (zWs yX10_needWithin cX10_needWithin 4 none) 8 1 [.ref (g.2.2 0), .int x1, .int x2, .int x3] M r :=
  zMtv_of hst (by decide +kernel) (Nat.le_of_ble_eq_true rfl) (fun p e s m args below meth c ls E X hret hZ hl => w_X10_needWithin g  E X hret M x1 x2 x3 _ _ ls h hZ hl)
theorem v_X10_needWithin : zYV yX10_needWithin cX10_needWithin 4 none 3 := ⟨kw_920, kw_1, kw_919, kp_28, by decide +kernel⟩

def f_X10_range (M : zM) (x1 : Int32) : Option (zT1) :=
  zbt (f_X10_needWithin M x1 0 2499) (fun M_2 _ => zbn (f_X9_rangeOf M_2 3 x1) (fun u_3 => some (M_2, .inr u_3)))
set_option maxRecDepth 100000 in
set_option maxHeartbeats 4000000 in
theorem w_X10_range (g : zG)  {r : zT1} (E : zX g p m c cX10_range 2 s args (zWs yX10_range cX10_range 2 (some .int)) RX10) (X : zXt g 125 l s c meth) (hret : zRti g xE 125 p l e (zrm 9 1 (6 * 1)) s m args below meth c 1 cX10_range .int r) (M : zM) (x1 : Int32) (H : Heap) (locs : List Loc) (ls : Array Slot) (h : f_X10_range M x1 = some r) (hZ : zS g xE 125 s H locs M) (hl : lv_has ls 2 [(0, .ref (g.2.2 0)), (1, .int x1)]) : W p l e (zrm 9 1 (6 * 1)) s m args below meth c H locs 0 0 (zQt g xE 125 below args s 1 r) (F0 m 0 ls []) := by
  have hx := E.1.1
  have hb := E.1.2.1
  unfold f_X10_range at h
  refine lv_aload_n hx hb dX10_range_0 rfl (lv_at hl 0 rfl) ?_
  refine lv_iload_n hx hb dX10_range_1 rfl (lv_at hl 1 rfl) ?_
  refine lv_iconst (v := 0) hx hb dX10_range_2 (by decide) ?_
  refine lv_sipush (v := 2499) hx hb dX10_range_3 (by decide) ?_
  obtain ⟨u_1, qu_1, h⟩ := zbt_some h
  refine zctv (zrunVt E X hZ (xb_X10 xs_0) ((xe_X10 xs_0) _) rfl rfl v_X10_needWithin kw_917 (c_X10_needWithin l X.1 g M  x1 0 2499 qu_1 _) rfl hl.1 rfl (Nat.le_of_ble_eq_true rfl) ⟨by decide, by decide⟩ ⟨by decide, by decide⟩ dX10_range_6) X hZ h (by decide) (by decide) (fun M_2 H locs eM_2 h hZ => ?_)
  refine W.widen (k := 1) (n := 6) (by decide) (by decide) ?_
  refine lv_aload_n hx hb dX10_range_9 rfl (lv_at hl 0 rfl) ?_
  refine zg (v := .ref (g.2.2 3)) E hZ (xb_X10 xs_0) ((xe_X10 xs_0) _) kc_X10 1 (by decide) kw_353 rfl rfl dX10_range_10 ?_
  refine lv_iload_n hx hb dX10_range_13 rfl (lv_at hl 1 rfl) ?_
  obtain ⟨u_3, qu_3, h⟩ := zbn_some h
  refine zciR (zrunV E hZ (xb_X9 xs_3) ((xe_X9 xs_3) _) rfl rfl v_X9_rangeOf kw_432 (c_X9_rangeOf l g M_2 3 xs_3 x1 qu_3 _) rfl hl.1 rfl (Nat.le_of_ble_eq_true rfl) ⟨by decide, by decide⟩ ⟨by decide, by decide⟩ dX10_range_14) hZ (fun H locs hZ => ?_)
  exact hret _ _ _ _ _ _ _ _ h rfl hZ dX10_range_17 (by decide) (by decide)
theorem c_X10_range (l : Launch) (hst : l.stackTraces = false) (g : zG) (M : zM)  (x1 : Int32) {r : zT1} (h : f_X10_range M x1 = some r) : zMt l g xE 125 yX10_range (zWs yX10_range cX10_range 2 (some .int)) 9 1 [.ref (g.2.2 0), .int x1] M r :=
  zMt_of hst (by decide +kernel) (Nat.le_of_ble_eq_true rfl) (fun p e s m args below meth c ls E X hret hZ hl => w_X10_range g  E X hret M x1 _ _ ls h hZ hl)
theorem v_X10_range : zYV yX10_range cX10_range 2 (some .int) 1 := ⟨kw_916, kw_1, kw_914, kw_915, by decide +kernel⟩

def f_X10_water (M : zM) (x1 : Int32) : Option (zT1) :=
  zbt (f_X10_needWithin M x1 0 9999) (fun M_2 _ => zbn (f_X9_waterIn M_2 3 x1) (fun u_3 => some (M_2, .inr u_3)))
set_option maxRecDepth 100000 in
set_option maxHeartbeats 4000000 in
theorem w_X10_water (g : zG)  {r : zT1} (E : zX g p m c cX10_water 2 s args (zWs yX10_water cX10_water 2 (some .int)) RX10) (X : zXt g 125 l s c meth) (hret : zRti g xE 125 p l e (zrm 9 1 (6 * 1)) s m args below meth c 1 cX10_water .int r) (M : zM) (x1 : Int32) (H : Heap) (locs : List Loc) (ls : Array Slot) (h : f_X10_water M x1 = some r) (hZ : zS g xE 125 s H locs M) (hl : lv_has ls 2 [(0, .ref (g.2.2 0)), (1, .int x1)]) : W p l e (zrm 9 1 (6 * 1)) s m args below meth c H locs 0 0 (zQt g xE 125 below args s 1 r) (F0 m 0 ls []) := by
  have hx := E.1.1
  have hb := E.1.2.1
  unfold f_X10_water at h
  refine lv_aload_n hx hb dX10_water_0 rfl (lv_at hl 0 rfl) ?_
  refine lv_iload_n hx hb dX10_water_1 rfl (lv_at hl 1 rfl) ?_
  refine lv_iconst (v := 0) hx hb dX10_water_2 (by decide) ?_
  refine lv_sipush (v := 9999) hx hb dX10_water_3 (by decide) ?_
  obtain ⟨u_1, qu_1, h⟩ := zbt_some h
  refine zctv (zrunVt E X hZ (xb_X10 xs_0) ((xe_X10 xs_0) _) rfl rfl v_X10_needWithin kw_917 (c_X10_needWithin l X.1 g M  x1 0 9999 qu_1 _) rfl hl.1 rfl (Nat.le_of_ble_eq_true rfl) ⟨by decide, by decide⟩ ⟨by decide, by decide⟩ dX10_water_6) X hZ h (by decide) (by decide) (fun M_2 H locs eM_2 h hZ => ?_)
  refine W.widen (k := 1) (n := 6) (by decide) (by decide) ?_
  refine lv_aload_n hx hb dX10_water_9 rfl (lv_at hl 0 rfl) ?_
  refine zg (v := .ref (g.2.2 3)) E hZ (xb_X10 xs_0) ((xe_X10 xs_0) _) kc_X10 1 (by decide) kw_353 rfl rfl dX10_water_10 ?_
  refine lv_iload_n hx hb dX10_water_13 rfl (lv_at hl 1 rfl) ?_
  obtain ⟨u_3, qu_3, h⟩ := zbn_some h
  refine zciR (zrunV E hZ (xb_X9 xs_3) ((xe_X9 xs_3) _) rfl rfl v_X9_waterIn kw_440 (c_X9_waterIn l g M_2 3 xs_3 x1 qu_3 _) rfl hl.1 rfl (Nat.le_of_ble_eq_true rfl) ⟨by decide, by decide⟩ ⟨by decide, by decide⟩ dX10_water_14) hZ (fun H locs hZ => ?_)
  exact hret _ _ _ _ _ _ _ _ h rfl hZ dX10_water_17 (by decide) (by decide)
theorem c_X10_water (l : Launch) (hst : l.stackTraces = false) (g : zG) (M : zM)  (x1 : Int32) {r : zT1} (h : f_X10_water M x1 = some r) : zMt l g xE 125 yX10_water (zWs yX10_water cX10_water 2 (some .int)) 9 1 [.ref (g.2.2 0), .int x1] M r :=
  zMt_of hst (by decide +kernel) (Nat.le_of_ble_eq_true rfl) (fun p e s m args below meth c ls E X hret hZ hl => w_X10_water g  E X hret M x1 _ _ ls h hZ hl)
theorem v_X10_water : zYV yX10_water cX10_water 2 (some .int) 1 := ⟨kw_927, kw_1, kw_925, kw_926, by decide +kernel⟩

def f_X10_depth (M : zM) (x1 : Int32) (x2 : Int32) : Option (zT1) :=
  zbt (f_X10_needPlace M x1) (fun M_2 _ => zbt (f_X10_needWithin M_2 x2 0 9999) (fun M_4 _ => zbn (f_X9_waterIn M_4 3 x2) (fun u_5 => zbn (f_X9_depthBy M_4 3 u_5 x1) (fun u_6 => some (M_4, .inr u_6)))))
set_option maxRecDepth 100000 in
set_option maxHeartbeats 4000000 in
theorem w_X10_depth (g : zG)  {r : zT1} (E : zX g p m c cX10_depth 3 s args (zWs yX10_depth cX10_depth 3 (some .int)) RX10) (X : zXt g 125 l s c meth) (hret : zRti g xE 125 p l e (zrm 9 2 (6 * 2)) s m args below meth c 2 cX10_depth .int r) (M : zM) (x1 : Int32) (x2 : Int32) (H : Heap) (locs : List Loc) (ls : Array Slot) (h : f_X10_depth M x1 x2 = some r) (hZ : zS g xE 125 s H locs M) (hl : lv_has ls 3 [(0, .ref (g.2.2 0)), (1, .int x1), (2, .int x2)]) : W p l e (zrm 9 2 (6 * 2)) s m args below meth c H locs 0 0 (zQt g xE 125 below args s 2 r) (F0 m 0 ls []) := by
  have hx := E.1.1
  have hb := E.1.2.1
  unfold f_X10_depth at h
  refine lv_aload_n hx hb dX10_depth_0 rfl (lv_at hl 0 rfl) ?_
  refine lv_iload_n hx hb dX10_depth_1 rfl (lv_at hl 1 rfl) ?_
  obtain ⟨u_1, qu_1, h⟩ := zbt_some h
  refine zctv (zrunVt E X hZ (xb_X10 xs_0) ((xe_X10 xs_0) _) rfl rfl v_X10_needPlace kw_844 (c_X10_needPlace l X.1 g M  x1 qu_1 _) rfl hl.1 rfl (Nat.le_of_ble_eq_true rfl) ⟨by decide, by decide⟩ ⟨by decide, by decide⟩ dX10_depth_2) X hZ h (by decide) (by decide) (fun M_2 H locs eM_2 h hZ => ?_)
  refine W.widen (k := 1) (n := 6) (by decide) (by decide) ?_
  refine lv_aload_n hx hb dX10_depth_5 rfl (lv_at hl 0 rfl) ?_
  refine lv_iload_n hx hb dX10_depth_6 rfl (lv_at hl 2 rfl) ?_
  refine lv_iconst (v := 0) hx hb dX10_depth_7 (by decide) ?_
  refine lv_sipush (v := 9999) hx hb dX10_depth_8 (by decide) ?_
  obtain ⟨u_3, qu_3, h⟩ := zbt_some h
  refine zctv (zrunVt E X hZ (xb_X10 xs_0) ((xe_X10 xs_0) _) rfl rfl v_X10_needWithin kw_917 (c_X10_needWithin l X.1 g M_2  x2 0 9999 qu_3 _) rfl hl.1 rfl (Nat.le_of_ble_eq_true rfl) ⟨by decide, by decide⟩ ⟨by decide, by decide⟩ dX10_depth_11) X hZ h (by decide) (by decide) (fun M_4 H locs eM_4 h hZ => ?_)
  refine W.widen (k := 2) (n := 12) (by decide) (by decide) ?_
  refine lv_aload_n hx hb dX10_depth_14 rfl (lv_at hl 0 rfl) ?_
  refine zg (v := .ref (g.2.2 3)) E hZ (xb_X10 xs_0) ((xe_X10 xs_0) _) kc_X10 1 (by decide) kw_353 rfl rfl dX10_depth_15 ?_
  refine lv_aload_n hx hb dX10_depth_18 rfl (lv_at hl 0 rfl) ?_
  refine zg (v := .ref (g.2.2 3)) E hZ (xb_X10 xs_0) ((xe_X10 xs_0) _) kc_X10 1 (by decide) kw_353 rfl rfl dX10_depth_19 ?_
  refine lv_iload_n hx hb dX10_depth_22 rfl (lv_at hl 2 rfl) ?_
  obtain ⟨u_5, qu_5, h⟩ := zbn_some h
  refine zciR (zrunV E hZ (xb_X9 xs_3) ((xe_X9 xs_3) _) rfl rfl v_X9_waterIn kw_440 (c_X9_waterIn l g M_4 3 xs_3 x2 qu_5 _) rfl hl.1 rfl (Nat.le_of_ble_eq_true rfl) ⟨by decide, by decide⟩ ⟨by decide, by decide⟩ dX10_depth_23) hZ (fun H locs hZ => ?_)
  refine lv_iload_n hx hb dX10_depth_26 rfl (lv_at hl 1 rfl) ?_
  obtain ⟨u_6, qu_6, h⟩ := zbn_some h
  refine zciR (zrunV E hZ (xb_X9 xs_3) ((xe_X9 xs_3) _) rfl rfl v_X9_depthBy kw_466 (c_X9_depthBy l g M_4 3 xs_3 u_5 x1 qu_6 _) rfl hl.1 rfl (Nat.le_of_ble_eq_true rfl) ⟨by decide, by decide⟩ ⟨by decide, by decide⟩ dX10_depth_27) hZ (fun H locs hZ => ?_)
  exact hret _ _ _ _ _ _ _ _ h rfl hZ dX10_depth_30 (by decide) (by decide)
theorem c_X10_depth (l : Launch) (hst : l.stackTraces = false) (g : zG) (M : zM)  (x1 : Int32) (x2 : Int32) {r : zT1} (h : f_X10_depth M x1 x2 = some r) : zMt l g xE 125 yX10_depth (zWs yX10_depth cX10_depth 3 (some .int)) 9 2 [.ref (g.2.2 0), .int x1, .int x2] M r :=
  zMt_of hst (by decide +kernel) (Nat.le_of_ble_eq_true rfl) (fun p e s m args below meth c ls E X hret hZ hl => w_X10_depth g  E X hret M x1 x2 _ _ ls h hZ hl)
theorem v_X10_depth : zYV yX10_depth cX10_depth 3 (some .int) 2 := ⟨kw_934, kw_1, kw_932, kw_933, by decide +kernel⟩

def f_X10_printed (M : zM) (x1 : Int32) : Option (zT1) :=
  zbt (f_X10_needWithin M x1 0 11) (fun M_2 _ => zbn (f_X9_printedBy M_2 3 (M_2 3 3) x1) (fun u_3 => some (M_2, .inr u_3)))
set_option maxRecDepth 100000 in
set_option maxHeartbeats 4000000 in
theorem w_X10_printed (g : zG)  {r : zT1} (E : zX g p m c cX10_printed 2 s args (zWs yX10_printed cX10_printed 2 (some .int)) RX10) (X : zXt g 125 l s c meth) (hret : zRti g xE 125 p l e (zrm 9 1 (6 * 1)) s m args below meth c 1 cX10_printed .int r) (M : zM) (x1 : Int32) (H : Heap) (locs : List Loc) (ls : Array Slot) (h : f_X10_printed M x1 = some r) (hZ : zS g xE 125 s H locs M) (hl : lv_has ls 2 [(0, .ref (g.2.2 0)), (1, .int x1)]) : W p l e (zrm 9 1 (6 * 1)) s m args below meth c H locs 0 0 (zQt g xE 125 below args s 1 r) (F0 m 0 ls []) := by
  have hx := E.1.1
  have hb := E.1.2.1
  unfold f_X10_printed at h
  refine lv_aload_n hx hb dX10_printed_0 rfl (lv_at hl 0 rfl) ?_
  refine lv_iload_n hx hb dX10_printed_1 rfl (lv_at hl 1 rfl) ?_
  refine lv_iconst (v := 0) hx hb dX10_printed_2 (by decide) ?_
  refine lv_bipush (v := 11) hx hb dX10_printed_3 (by decide) ?_
  obtain ⟨u_1, qu_1, h⟩ := zbt_some h
  refine zctv (zrunVt E X hZ (xb_X10 xs_0) ((xe_X10 xs_0) _) rfl rfl v_X10_needWithin kw_917 (c_X10_needWithin l X.1 g M  x1 0 11 qu_1 _) rfl hl.1 rfl (Nat.le_of_ble_eq_true rfl) ⟨by decide, by decide⟩ ⟨by decide, by decide⟩ dX10_printed_5) X hZ h (by decide) (by decide) (fun M_2 H locs eM_2 h hZ => ?_)
  refine W.widen (k := 1) (n := 6) (by decide) (by decide) ?_
  refine lv_aload_n hx hb dX10_printed_8 rfl (lv_at hl 0 rfl) ?_
  refine zg (v := .ref (g.2.2 3)) E hZ (xb_X10 xs_0) ((xe_X10 xs_0) _) kc_X10 1 (by decide) kw_353 rfl rfl dX10_printed_9 ?_
  refine lv_aload_n hx hb dX10_printed_12 rfl (lv_at hl 0 rfl) ?_
  refine zg (v := .ref (g.2.2 3)) E hZ (xb_X10 xs_0) ((xe_X10 xs_0) _) kc_X10 1 (by decide) kw_353 rfl rfl dX10_printed_13 ?_
  refine zg (v := .int (M_2 3 3)) E hZ (xb_X9 xs_3) ((xe_X9 xs_3) _) kc_X9 3 (by decide) kw_73 rfl rfl dX10_printed_16 ?_
  refine lv_iload_n hx hb dX10_printed_19 rfl (lv_at hl 1 rfl) ?_
  obtain ⟨u_3, qu_3, h⟩ := zbn_some h
  refine zciR (zrunV E hZ (xb_X9 xs_3) ((xe_X9 xs_3) _) rfl rfl v_X9_printedBy kw_421 (c_X9_printedBy l g M_2 3 xs_3 (M_2 3 3) x1 qu_3 _) rfl hl.1 rfl (Nat.le_of_ble_eq_true rfl) ⟨by decide, by decide⟩ ⟨by decide, by decide⟩ dX10_printed_20) hZ (fun H locs hZ => ?_)
  exact hret _ _ _ _ _ _ _ _ h rfl hZ dX10_printed_23 (by decide) (by decide)
theorem c_X10_printed (l : Launch) (hst : l.stackTraces = false) (g : zG) (M : zM)  (x1 : Int32) {r : zT1} (h : f_X10_printed M x1 = some r) : zMt l g xE 125 yX10_printed (zWs yX10_printed cX10_printed 2 (some .int)) 9 1 [.ref (g.2.2 0), .int x1] M r :=
  zMt_of hst (by decide +kernel) (Nat.le_of_ble_eq_true rfl) (fun p e s m args below meth c ls E X hret hZ hl => w_X10_printed g  E X hret M x1 _ _ ls h hZ hl)
theorem v_X10_printed : zYV yX10_printed cX10_printed 2 (some .int) 1 := ⟨kw_941, kw_1, kw_939, kw_940, by decide +kernel⟩

def f_X10_needAlive (M : zM) (x1 : Int32) : Option (zT1) :=
  zbn (f_X9_isDrowned M 3 x1) (fun u_1 => if u_1 = 0 then (some (M, .inr 0)) else (some (M, .inl 2)))
set_option maxRecDepth 100000 in
set_option maxHeartbeats 4000000 in
theorem w_X10_needAlive (g : zG)  {r : zT1} (E : zX g p m c cX10_needAlive 2 s args (zWs yX10_needAlive cX10_needAlive 2 none) RX10) (X : zXt g 125 l s c meth) (hret : zRtv g xE 125 p l e (zrm 8 1 (6 * 1)) s m args below meth c 1 cX10_needAlive r) (M : zM) (x1 : Int32) (H : Heap) (locs : List Loc) (ls : Array Slot) (h : f_X10_needAlive M x1 = some r) (hZ : zS g xE 125 s H locs M) (hl : lv_has ls 2 [(0, .ref (g.2.2 0)), (1, .int x1)]) : W p l e (zrm 8 1 (6 * 1)) s m args below meth c H locs 0 0 (zQtv g xE 125 below args s 1 r) (F0 m 0 ls []) := by
  have hx := E.1.1
  have hb := E.1.2.1
  unfold f_X10_needAlive at h
  refine lv_aload_n hx hb dX10_needAlive_0 rfl (lv_at hl 0 rfl) ?_
  refine zg (v := .ref (g.2.2 3)) E hZ (xb_X10 xs_0) ((xe_X10 xs_0) _) kc_X10 1 (by decide) kw_353 rfl rfl dX10_needAlive_1 ?_
  refine lv_iload_n hx hb dX10_needAlive_4 rfl (lv_at hl 1 rfl) ?_
  obtain ⟨u_1, qu_1, h⟩ := zbn_some h
  refine zciR (zrunV E hZ (xb_X9 xs_3) ((xe_X9 xs_3) _) rfl rfl v_X9_isDrowned kw_459 (c_X9_isDrowned l g M 3 xs_3 x1 qu_1 _) rfl hl.1 rfl (Nat.le_of_ble_eq_true rfl) ⟨by decide, by decide⟩ ⟨by decide, by decide⟩ dX10_needAlive_5) hZ (fun H locs hZ => ?_)
  refine zif_eq (tgt := 19) h E dX10_needAlive_8 (by decide) (fun c_2 h => ?_) (fun c_2 h => ?_)
  · exact hret _ _ _ _ _ _ _ h hZ dX10_needAlive_19 (by decide) (by decide)
  · exact zthrow 2 h E X hZ kw_954 kw_25 (by decide) xx1_X10_369 xx2_X10_369 xx3_X10_369 hl.1 dX10_needAlive_11 dX10_needAlive_14 dX10_needAlive_15 dX10_needAlive_18 ⟨by decide, Nat.le_of_ble_eq_true rfl⟩ (by decide) (by decide) (by decide) (by decide)
theorem c_X10_needAlive (l : Launch) (hst : l.stackTraces = false) (g : zG) (M : zM)  (x1 : Int32) {r : zT1} (h : f_X10_needAlive M x1 = some r) : zMtv l g xE 125 yX10_needAlive (zWs yX10_needAlive cX10_needAlive 2 none) 8 1 [.ref (g.2.2 0), .int x1] M r :=
  zMtv_of hst (by decide +kernel) (Nat.le_of_ble_eq_true rfl) (fun p e s m args below meth c ls E X hret hZ hl => w_X10_needAlive g  E X hret M x1 _ _ ls h hZ hl)
theorem v_X10_needAlive : zYV yX10_needAlive cX10_needAlive 2 none 1 := ⟨kw_953, kw_1, kw_952, kp_29, by decide +kernel⟩

def f_X10_goal (M : zM) (x1 : Int32) (x2 : Int32) : Option (zT1) :=
  zbt (f_X10_needMonk M x1) (fun M_2 _ => zbt (f_X10_needPlace M_2 x2) (fun M_4 _ => zbt (f_X10_needAlive M_4 x1) (fun M_6 _ => zbn (f_X5_remember M_6 3) (fun u_7 => zbn (f_X9_monkCell u_7 3 x1 1) (fun u_8 => zbn (f_X9_setMonkCell u_7 3 x1 1 x2) (fun u_9 => some (u_9, .inr u_8)))))))
set_option maxRecDepth 100000 in
set_option maxHeartbeats 4000000 in
theorem w_X10_goal (g : zG)  {r : zT1} (E : zX g p m c cX10_goal 4 s args (zWs yX10_goal cX10_goal 4 (some .int)) RX10) (X : zXt g 125 l s c meth) (hret : zRti g xE 125 p l e (zrm 9 3 (6 * 3)) s m args below meth c 3 cX10_goal .int r) (M : zM) (x1 : Int32) (x2 : Int32) (H : Heap) (locs : List Loc) (ls : Array Slot) (h : f_X10_goal M x1 x2 = some r) (hZ : zS g xE 125 s H locs M) (hl : lv_has ls 4 [(0, .ref (g.2.2 0)), (1, .int x1), (2, .int x2)]) : W p l e (zrm 9 3 (6 * 3)) s m args below meth c H locs 0 0 (zQt g xE 125 below args s 3 r) (F0 m 0 ls []) := by
  have hx := E.1.1
  have hb := E.1.2.1
  unfold f_X10_goal at h
  refine lv_aload_n hx hb dX10_goal_0 rfl (lv_at hl 0 rfl) ?_
  refine lv_iload_n hx hb dX10_goal_1 rfl (lv_at hl 1 rfl) ?_
  obtain ⟨u_1, qu_1, h⟩ := zbt_some h
  refine zctv (zrunVt E X hZ (xb_X10 xs_0) ((xe_X10 xs_0) _) rfl rfl v_X10_needMonk kw_872 (c_X10_needMonk l X.1 g M  x1 qu_1 _) rfl hl.1 rfl (Nat.le_of_ble_eq_true rfl) ⟨by decide, by decide⟩ ⟨by decide, by decide⟩ dX10_goal_2) X hZ h (by decide) (by decide) (fun M_2 H locs eM_2 h hZ => ?_)
  refine W.widen (k := 1) (n := 6) (by decide) (by decide) ?_
  refine lv_aload_n hx hb dX10_goal_5 rfl (lv_at hl 0 rfl) ?_
  refine lv_iload_n hx hb dX10_goal_6 rfl (lv_at hl 2 rfl) ?_
  obtain ⟨u_3, qu_3, h⟩ := zbt_some h
  refine zctv (zrunVt E X hZ (xb_X10 xs_0) ((xe_X10 xs_0) _) rfl rfl v_X10_needPlace kw_844 (c_X10_needPlace l X.1 g M_2  x2 qu_3 _) rfl hl.1 rfl (Nat.le_of_ble_eq_true rfl) ⟨by decide, by decide⟩ ⟨by decide, by decide⟩ dX10_goal_7) X hZ h (by decide) (by decide) (fun M_4 H locs eM_4 h hZ => ?_)
  refine W.widen (k := 2) (n := 12) (by decide) (by decide) ?_
  refine lv_aload_n hx hb dX10_goal_10 rfl (lv_at hl 0 rfl) ?_
  refine lv_iload_n hx hb dX10_goal_11 rfl (lv_at hl 1 rfl) ?_
  obtain ⟨u_5, qu_5, h⟩ := zbt_some h
  refine zctv (zrunVt E X hZ (xb_X10 xs_0) ((xe_X10 xs_0) _) rfl rfl v_X10_needAlive kw_950 (c_X10_needAlive l X.1 g M_4  x1 qu_5 _) rfl hl.1 rfl (Nat.le_of_ble_eq_true rfl) ⟨by decide, by decide⟩ ⟨by decide, by decide⟩ dX10_goal_12) X hZ h (by decide) (by decide) (fun M_6 H locs eM_6 h hZ => ?_)
  refine W.widen (k := 3) (n := 18) (by decide) (by decide) ?_
  refine lv_aload_n hx hb dX10_goal_15 rfl (lv_at hl 0 rfl) ?_
  refine zg (v := .ref (g.2.2 51)) E hZ (xb_X10 xs_0) ((xe_X10 xs_0) _) kc_X10 12 (by decide) kw_364 rfl rfl dX10_goal_16 ?_
  refine lv_aload_n hx hb dX10_goal_19 rfl (lv_at hl 0 rfl) ?_
  refine zg (v := .ref (g.2.2 3)) E hZ (xb_X10 xs_0) ((xe_X10 xs_0) _) kc_X10 1 (by decide) kw_353 rfl rfl dX10_goal_20 ?_
  obtain ⟨u_7, qu_7, h⟩ := zbn_some h
  refine zcvS (zrunV E hZ (xb_X5 xs_51) ((xe_X5 xs_51) _) rfl rfl v_X5_remember kw_969 (c_X5_remember l g M_6 3 xs_3  qu_7 _) rfl hl.1 rfl (Nat.le_of_ble_eq_true rfl) ⟨by decide, by decide⟩ ⟨by decide, by decide⟩ dX10_goal_23) hZ (fun H locs hZ => ?_)
  refine lv_aload_n hx hb dX10_goal_26 rfl (lv_at hl 0 rfl) ?_
  refine zg (v := .ref (g.2.2 3)) E hZ (xb_X10 xs_0) ((xe_X10 xs_0) _) kc_X10 1 (by decide) kw_353 rfl rfl dX10_goal_27 ?_
  refine lv_iload_n hx hb dX10_goal_30 rfl (lv_at hl 1 rfl) ?_
  refine lv_iconst (v := 1) hx hb dX10_goal_31 (by decide) ?_
  obtain ⟨u_8, qu_8, h⟩ := zbn_some h
  refine zciR (zrunV E hZ (xb_X9 xs_3) ((xe_X9 xs_3) _) rfl rfl v_X9_monkCell kw_455 (c_X9_monkCell l g u_7 3 xs_3 x1 1 qu_8 _) rfl hl.1 rfl (Nat.le_of_ble_eq_true rfl) ⟨by decide, by decide⟩ ⟨by decide, by decide⟩ dX10_goal_32) hZ (fun H locs hZ => ?_)
  refine lv_istore_n (lv' := [(3, .int u_8), (0, .ref (g.2.2 0)), (1, .int x1), (2, .int x2)]) hx hb dX10_goal_35 rfl hl (by decide) rfl (fun ls hl => ?_)
  refine lv_aload_n hx hb dX10_goal_36 rfl (lv_at hl 1 rfl) ?_
  refine zg (v := .ref (g.2.2 3)) E hZ (xb_X10 xs_0) ((xe_X10 xs_0) _) kc_X10 1 (by decide) kw_353 rfl rfl dX10_goal_37 ?_
  refine lv_iload_n hx hb dX10_goal_40 rfl (lv_at hl 2 rfl) ?_
  refine lv_iconst (v := 1) hx hb dX10_goal_41 (by decide) ?_
  refine lv_iload_n hx hb dX10_goal_42 rfl (lv_at hl 3 rfl) ?_
  obtain ⟨u_9, qu_9, h⟩ := zbn_some h
  refine zcvS (zrunV E hZ (xb_X9 xs_3) ((xe_X9 xs_3) _) rfl rfl v_X9_setMonkCell kw_973 (c_X9_setMonkCell l g u_7 3 xs_3 x1 1 x2 qu_9 _) rfl hl.1 rfl (Nat.le_of_ble_eq_true rfl) ⟨by decide, by decide⟩ ⟨by decide, by decide⟩ dX10_goal_43) hZ (fun H locs hZ => ?_)
  refine lv_iload_n hx hb dX10_goal_46 rfl (lv_at hl 0 rfl) ?_
  exact hret _ _ _ _ _ _ _ _ h rfl hZ dX10_goal_47 (by decide) (by decide)
theorem c_X10_goal (l : Launch) (hst : l.stackTraces = false) (g : zG) (M : zM)  (x1 : Int32) (x2 : Int32) {r : zT1} (h : f_X10_goal M x1 x2 = some r) : zMt l g xE 125 yX10_goal (zWs yX10_goal cX10_goal 4 (some .int)) 9 3 [.ref (g.2.2 0), .int x1, .int x2] M r :=
  zMt_of hst (by decide +kernel) (Nat.le_of_ble_eq_true rfl) (fun p e s m args below meth c ls E X hret hZ hl => w_X10_goal g  E X hret M x1 x2 _ _ ls h hZ hl)
theorem v_X10_goal : zYV yX10_goal cX10_goal 4 (some .int) 2 := ⟨kw_949, kw_1, kw_947, kw_948, by decide +kernel⟩

def f_X10_rest (M : zM) (x1 : Int32) : Option (zT1) :=
  zbt (f_X10_needMonk M x1) (fun M_2 _ => zbt (f_X10_needAlive M_2 x1) (fun M_4 _ => zbn (f_X5_remember M_4 3) (fun u_5 => zbn (f_X9_monkCell u_5 3 x1 3) (fun u_6 => zbn (f_X9_setMonkCell u_5 3 x1 3 0) (fun u_7 => some (u_7, .inr u_6))))))
set_option maxRecDepth 100000 in
set_option maxHeartbeats 4000000 in
theorem w_X10_rest (g : zG)  {r : zT1} (E : zX g p m c cX10_rest 3 s args (zWs yX10_rest cX10_rest 3 (some .int)) RX10) (X : zXt g 125 l s c meth) (hret : zRti g xE 125 p l e (zrm 9 2 (6 * 2)) s m args below meth c 2 cX10_rest .int r) (M : zM) (x1 : Int32) (H : Heap) (locs : List Loc) (ls : Array Slot) (h : f_X10_rest M x1 = some r) (hZ : zS g xE 125 s H locs M) (hl : lv_has ls 3 [(0, .ref (g.2.2 0)), (1, .int x1)]) : W p l e (zrm 9 2 (6 * 2)) s m args below meth c H locs 0 0 (zQt g xE 125 below args s 2 r) (F0 m 0 ls []) := by
  have hx := E.1.1
  have hb := E.1.2.1
  unfold f_X10_rest at h
  refine lv_aload_n hx hb dX10_rest_0 rfl (lv_at hl 0 rfl) ?_
  refine lv_iload_n hx hb dX10_rest_1 rfl (lv_at hl 1 rfl) ?_
  obtain ⟨u_1, qu_1, h⟩ := zbt_some h
  refine zctv (zrunVt E X hZ (xb_X10 xs_0) ((xe_X10 xs_0) _) rfl rfl v_X10_needMonk kw_872 (c_X10_needMonk l X.1 g M  x1 qu_1 _) rfl hl.1 rfl (Nat.le_of_ble_eq_true rfl) ⟨by decide, by decide⟩ ⟨by decide, by decide⟩ dX10_rest_2) X hZ h (by decide) (by decide) (fun M_2 H locs eM_2 h hZ => ?_)
  refine W.widen (k := 1) (n := 6) (by decide) (by decide) ?_
  refine lv_aload_n hx hb dX10_rest_5 rfl (lv_at hl 0 rfl) ?_
  refine lv_iload_n hx hb dX10_rest_6 rfl (lv_at hl 1 rfl) ?_
  obtain ⟨u_3, qu_3, h⟩ := zbt_some h
  refine zctv (zrunVt E X hZ (xb_X10 xs_0) ((xe_X10 xs_0) _) rfl rfl v_X10_needAlive kw_950 (c_X10_needAlive l X.1 g M_2  x1 qu_3 _) rfl hl.1 rfl (Nat.le_of_ble_eq_true rfl) ⟨by decide, by decide⟩ ⟨by decide, by decide⟩ dX10_rest_7) X hZ h (by decide) (by decide) (fun M_4 H locs eM_4 h hZ => ?_)
  refine W.widen (k := 2) (n := 12) (by decide) (by decide) ?_
  refine lv_aload_n hx hb dX10_rest_10 rfl (lv_at hl 0 rfl) ?_
  refine zg (v := .ref (g.2.2 51)) E hZ (xb_X10 xs_0) ((xe_X10 xs_0) _) kc_X10 12 (by decide) kw_364 rfl rfl dX10_rest_11 ?_
  refine lv_aload_n hx hb dX10_rest_14 rfl (lv_at hl 0 rfl) ?_
  refine zg (v := .ref (g.2.2 3)) E hZ (xb_X10 xs_0) ((xe_X10 xs_0) _) kc_X10 1 (by decide) kw_353 rfl rfl dX10_rest_15 ?_
  obtain ⟨u_5, qu_5, h⟩ := zbn_some h
  refine zcvS (zrunV E hZ (xb_X5 xs_51) ((xe_X5 xs_51) _) rfl rfl v_X5_remember kw_969 (c_X5_remember l g M_4 3 xs_3  qu_5 _) rfl hl.1 rfl (Nat.le_of_ble_eq_true rfl) ⟨by decide, by decide⟩ ⟨by decide, by decide⟩ dX10_rest_18) hZ (fun H locs hZ => ?_)
  refine lv_aload_n hx hb dX10_rest_21 rfl (lv_at hl 0 rfl) ?_
  refine zg (v := .ref (g.2.2 3)) E hZ (xb_X10 xs_0) ((xe_X10 xs_0) _) kc_X10 1 (by decide) kw_353 rfl rfl dX10_rest_22 ?_
  refine lv_iload_n hx hb dX10_rest_25 rfl (lv_at hl 1 rfl) ?_
  refine lv_iconst (v := 3) hx hb dX10_rest_26 (by decide) ?_
  obtain ⟨u_6, qu_6, h⟩ := zbn_some h
  refine zciR (zrunV E hZ (xb_X9 xs_3) ((xe_X9 xs_3) _) rfl rfl v_X9_monkCell kw_455 (c_X9_monkCell l g u_5 3 xs_3 x1 3 qu_6 _) rfl hl.1 rfl (Nat.le_of_ble_eq_true rfl) ⟨by decide, by decide⟩ ⟨by decide, by decide⟩ dX10_rest_27) hZ (fun H locs hZ => ?_)
  refine lv_istore_n (lv' := [(2, .int u_6), (0, .ref (g.2.2 0)), (1, .int x1)]) hx hb dX10_rest_30 rfl hl (by decide) rfl (fun ls hl => ?_)
  refine lv_aload_n hx hb dX10_rest_31 rfl (lv_at hl 1 rfl) ?_
  refine zg (v := .ref (g.2.2 3)) E hZ (xb_X10 xs_0) ((xe_X10 xs_0) _) kc_X10 1 (by decide) kw_353 rfl rfl dX10_rest_32 ?_
  refine lv_iload_n hx hb dX10_rest_35 rfl (lv_at hl 2 rfl) ?_
  refine lv_iconst (v := 3) hx hb dX10_rest_36 (by decide) ?_
  refine lv_iconst (v := 0) hx hb dX10_rest_37 (by decide) ?_
  obtain ⟨u_7, qu_7, h⟩ := zbn_some h
  refine zcvS (zrunV E hZ (xb_X9 xs_3) ((xe_X9 xs_3) _) rfl rfl v_X9_setMonkCell kw_973 (c_X9_setMonkCell l g u_5 3 xs_3 x1 3 0 qu_7 _) rfl hl.1 rfl (Nat.le_of_ble_eq_true rfl) ⟨by decide, by decide⟩ ⟨by decide, by decide⟩ dX10_rest_38) hZ (fun H locs hZ => ?_)
  refine lv_iload_n hx hb dX10_rest_41 rfl (lv_at hl 0 rfl) ?_
  exact hret _ _ _ _ _ _ _ _ h rfl hZ dX10_rest_42 (by decide) (by decide)
theorem c_X10_rest (l : Launch) (hst : l.stackTraces = false) (g : zG) (M : zM)  (x1 : Int32) {r : zT1} (h : f_X10_rest M x1 = some r) : zMt l g xE 125 yX10_rest (zWs yX10_rest cX10_rest 3 (some .int)) 9 2 [.ref (g.2.2 0), .int x1] M r :=
  zMt_of hst (by decide +kernel) (Nat.le_of_ble_eq_true rfl) (fun p e s m args below meth c ls E X hret hZ hl => w_X10_rest g  E X hret M x1 _ _ ls h hZ hl)
theorem v_X10_rest : zYV yX10_rest cX10_rest 3 (some .int) 1 := ⟨kw_980, kw_1, kw_978, kw_979, by decide +kernel⟩

def f_X10_needPrint (M : zM) (x1 : Int32) : Option (zT1) :=
  zbt (f_X10_needWithin M x1 ((-3)) 3) (fun M_2 _ => some (M_2, .inr 0))
set_option maxRecDepth 100000 in
set_option maxHeartbeats 4000000 in
theorem w_X10_needPrint (g : zG)  {r : zT1} (E : zX g p m c cX10_needPrint 2 s args (zWs yX10_needPrint cX10_needPrint 2 none) RX10) (X : zXt g 125 l s c meth) (hret : zRtv g xE 125 p l e (zrm 9 1 (6 * 1)) s m args below meth c 1 cX10_needPrint r) (M : zM) (x1 : Int32) (H : Heap) (locs : List Loc) (ls : Array Slot) (h : f_X10_needPrint M x1 = some r) (hZ : zS g xE 125 s H locs M) (hl : lv_has ls 2 [(0, .ref (g.2.2 0)), (1, .int x1)]) : W p l e (zrm 9 1 (6 * 1)) s m args below meth c H locs 0 0 (zQtv g xE 125 below args s 1 r) (F0 m 0 ls []) := by
  have hx := E.1.1
  have hb := E.1.2.1
  unfold f_X10_needPrint at h
  refine lv_aload_n hx hb dX10_needPrint_0 rfl (lv_at hl 0 rfl) ?_
  refine lv_iload_n hx hb dX10_needPrint_1 rfl (lv_at hl 1 rfl) ?_
  refine lv_bipush (v := (-3)) hx hb dX10_needPrint_2 (by decide) ?_
  refine lv_iconst (v := 3) hx hb dX10_needPrint_4 (by decide) ?_
  obtain ⟨u_1, qu_1, h⟩ := zbt_some h
  refine zctv (zrunVt E X hZ (xb_X10 xs_0) ((xe_X10 xs_0) _) rfl rfl v_X10_needWithin kw_917 (c_X10_needWithin l X.1 g M  x1 ((-3)) 3 qu_1 _) rfl hl.1 rfl (Nat.le_of_ble_eq_true rfl) ⟨by decide, by decide⟩ ⟨by decide, by decide⟩ dX10_needPrint_5) X hZ h (by decide) (by decide) (fun M_2 H locs eM_2 h hZ => ?_)
  refine W.widen (k := 1) (n := 6) (by decide) (by decide) ?_
  exact hret _ _ _ _ _ _ _ h hZ dX10_needPrint_8 (by decide) (by decide)
theorem c_X10_needPrint (l : Launch) (hst : l.stackTraces = false) (g : zG) (M : zM)  (x1 : Int32) {r : zT1} (h : f_X10_needPrint M x1 = some r) : zMtv l g xE 125 yX10_needPrint (zWs yX10_needPrint cX10_needPrint 2 none) 9 1 [.ref (g.2.2 0), .int x1] M r :=
  zMtv_of hst (by decide +kernel) (Nat.le_of_ble_eq_true rfl) (fun p e s m args below meth c ls E X hret hZ hl => w_X10_needPrint g  E X hret M x1 _ _ ls h hZ hl)
theorem v_X10_needPrint : zYV yX10_needPrint cX10_needPrint 2 none 1 := ⟨kw_991, kw_1, kw_990, kp_30, by decide +kernel⟩

def f_X10_error (M : zM) (x1 : Int32) (x2 : Int32) : Option (zT1) :=
  zbt (f_X10_needWithin M x1 0 11) (fun M_2 _ => zbt (f_X10_needPrint M_2 x2) (fun M_4 _ => zbn (f_X5_remember M_4 3) (fun u_5 => zbn (f_X10_put u_5 (3 + 2) x1 x2) (fun u_6 => zbn (f_X9_printedBy u_6 3 (u_6 3 3) x1) (fun u_7 => some (u_6, .inr u_7))))))
set_option maxRecDepth 100000 in
set_option maxHeartbeats 4000000 in
theorem w_X10_error (g : zG)  {r : zT1} (E : zX g p m c cX10_error 3 s args (zWs yX10_error cX10_error 3 (some .int)) RX10) (X : zXt g 125 l s c meth) (hret : zRti g xE 125 p l e (zrm 10 2 (6 * 2)) s m args below meth c 2 cX10_error .int r) (M : zM) (x1 : Int32) (x2 : Int32) (H : Heap) (locs : List Loc) (ls : Array Slot) (h : f_X10_error M x1 x2 = some r) (hZ : zS g xE 125 s H locs M) (hl : lv_has ls 3 [(0, .ref (g.2.2 0)), (1, .int x1), (2, .int x2)]) : W p l e (zrm 10 2 (6 * 2)) s m args below meth c H locs 0 0 (zQt g xE 125 below args s 2 r) (F0 m 0 ls []) := by
  have hx := E.1.1
  have hb := E.1.2.1
  unfold f_X10_error at h
  refine lv_aload_n hx hb dX10_error_0 rfl (lv_at hl 0 rfl) ?_
  refine lv_iload_n hx hb dX10_error_1 rfl (lv_at hl 1 rfl) ?_
  refine lv_iconst (v := 0) hx hb dX10_error_2 (by decide) ?_
  refine lv_bipush (v := 11) hx hb dX10_error_3 (by decide) ?_
  obtain ⟨u_1, qu_1, h⟩ := zbt_some h
  refine zctv (zrunVt E X hZ (xb_X10 xs_0) ((xe_X10 xs_0) _) rfl rfl v_X10_needWithin kw_917 (c_X10_needWithin l X.1 g M  x1 0 11 qu_1 _) rfl hl.1 rfl (Nat.le_of_ble_eq_true rfl) ⟨by decide, by decide⟩ ⟨by decide, by decide⟩ dX10_error_5) X hZ h (by decide) (by decide) (fun M_2 H locs eM_2 h hZ => ?_)
  refine W.widen (k := 1) (n := 6) (by decide) (by decide) ?_
  refine lv_aload_n hx hb dX10_error_8 rfl (lv_at hl 0 rfl) ?_
  refine lv_iload_n hx hb dX10_error_9 rfl (lv_at hl 2 rfl) ?_
  obtain ⟨u_3, qu_3, h⟩ := zbt_some h
  refine zctv (zrunVt E X hZ (xb_X10 xs_0) ((xe_X10 xs_0) _) rfl rfl v_X10_needPrint kw_988 (c_X10_needPrint l X.1 g M_2  x2 qu_3 _) rfl hl.1 rfl (Nat.le_of_ble_eq_true rfl) ⟨by decide, by decide⟩ ⟨by decide, by decide⟩ dX10_error_10) X hZ h (by decide) (by decide) (fun M_4 H locs eM_4 h hZ => ?_)
  refine W.widen (k := 2) (n := 12) (by decide) (by decide) ?_
  refine lv_aload_n hx hb dX10_error_13 rfl (lv_at hl 0 rfl) ?_
  refine zg (v := .ref (g.2.2 51)) E hZ (xb_X10 xs_0) ((xe_X10 xs_0) _) kc_X10 12 (by decide) kw_364 rfl rfl dX10_error_14 ?_
  refine lv_aload_n hx hb dX10_error_17 rfl (lv_at hl 0 rfl) ?_
  refine zg (v := .ref (g.2.2 3)) E hZ (xb_X10 xs_0) ((xe_X10 xs_0) _) kc_X10 1 (by decide) kw_353 rfl rfl dX10_error_18 ?_
  obtain ⟨u_5, qu_5, h⟩ := zbn_some h
  refine zcvS (zrunV E hZ (xb_X5 xs_51) ((xe_X5 xs_51) _) rfl rfl v_X5_remember kw_969 (c_X5_remember l g M_4 3 xs_3  qu_5 _) rfl hl.1 rfl (Nat.le_of_ble_eq_true rfl) ⟨by decide, by decide⟩ ⟨by decide, by decide⟩ dX10_error_21) hZ (fun H locs hZ => ?_)
  refine lv_aload_n hx hb dX10_error_24 rfl (lv_at hl 0 rfl) ?_
  refine zg (v := .ref (g.2.2 3)) E hZ (xb_X10 xs_0) ((xe_X10 xs_0) _) kc_X10 1 (by decide) kw_353 rfl rfl dX10_error_25 ?_
  refine zg (v := .ref (g.2.2 (3 + 2))) E hZ (xb_X9 xs_3) ((xe_X9 xs_3) _) kc_X9 16 (by decide) kw_116 rfl rfl dX10_error_28 ?_
  refine lv_iload_n hx hb dX10_error_31 rfl (lv_at hl 1 rfl) ?_
  refine lv_iload_n hx hb dX10_error_32 rfl (lv_at hl 2 rfl) ?_
  obtain ⟨u_6, qu_6, h⟩ := zbn_some h
  refine zcvS (zrunS E hZ v_X10_put kw_992 (c_X10_put l g u_5 (3 + 2) (xc_X9_errors xs_3).1 x1 x2 qu_6 _) rfl hl.1 rfl (Nat.le_of_ble_eq_true rfl) ⟨by decide, by decide⟩ ⟨by decide, by decide⟩ dX10_error_33) hZ (fun H locs hZ => ?_)
  refine lv_aload_n hx hb dX10_error_36 rfl (lv_at hl 0 rfl) ?_
  refine zg (v := .ref (g.2.2 3)) E hZ (xb_X10 xs_0) ((xe_X10 xs_0) _) kc_X10 1 (by decide) kw_353 rfl rfl dX10_error_37 ?_
  refine lv_aload_n hx hb dX10_error_40 rfl (lv_at hl 0 rfl) ?_
  refine zg (v := .ref (g.2.2 3)) E hZ (xb_X10 xs_0) ((xe_X10 xs_0) _) kc_X10 1 (by decide) kw_353 rfl rfl dX10_error_41 ?_
  refine zg (v := .int (u_6 3 3)) E hZ (xb_X9 xs_3) ((xe_X9 xs_3) _) kc_X9 3 (by decide) kw_73 rfl rfl dX10_error_44 ?_
  refine lv_iload_n hx hb dX10_error_47 rfl (lv_at hl 1 rfl) ?_
  obtain ⟨u_7, qu_7, h⟩ := zbn_some h
  refine zciR (zrunV E hZ (xb_X9 xs_3) ((xe_X9 xs_3) _) rfl rfl v_X9_printedBy kw_421 (c_X9_printedBy l g u_6 3 xs_3 (u_6 3 3) x1 qu_7 _) rfl hl.1 rfl (Nat.le_of_ble_eq_true rfl) ⟨by decide, by decide⟩ ⟨by decide, by decide⟩ dX10_error_48) hZ (fun H locs hZ => ?_)
  exact hret _ _ _ _ _ _ _ _ h rfl hZ dX10_error_51 (by decide) (by decide)
theorem c_X10_error (l : Launch) (hst : l.stackTraces = false) (g : zG) (M : zM)  (x1 : Int32) (x2 : Int32) {r : zT1} (h : f_X10_error M x1 x2 = some r) : zMt l g xE 125 yX10_error (zWs yX10_error cX10_error 3 (some .int)) 10 2 [.ref (g.2.2 0), .int x1, .int x2] M r :=
  zMt_of hst (by decide +kernel) (Nat.le_of_ble_eq_true rfl) (fun p e s m args below meth c ls E X hret hZ hl => w_X10_error g  E X hret M x1 x2 _ _ ls h hZ hl)
theorem v_X10_error : zYV yX10_error cX10_error 3 (some .int) 2 := ⟨kw_987, kw_1, kw_985, kw_986, by decide +kernel⟩

def f_X10_edition (M : zM) (x1 : Int32) : Option (zT1) :=
  zbt (f_X10_needPrint M x1) (fun M_2 _ => zbn (f_X5_remember M_2 3) (fun u_3 => znm (u_3 3 3) (fun x2_4 => znm (zu u_3 3 3 x1) (fun M_5 => some (M_5, .inr x2_4)))))
set_option maxRecDepth 100000 in
set_option maxHeartbeats 4000000 in
theorem w_X10_edition (g : zG)  {r : zT1} (E : zX g p m c cX10_edition 3 s args (zWs yX10_edition cX10_edition 3 (some .int)) RX10) (X : zXt g 125 l s c meth) (hret : zRti g xE 125 p l e (zrm 10 1 (6 * 1)) s m args below meth c 1 cX10_edition .int r) (M : zM) (x1 : Int32) (H : Heap) (locs : List Loc) (ls : Array Slot) (h : f_X10_edition M x1 = some r) (hZ : zS g xE 125 s H locs M) (hl : lv_has ls 3 [(0, .ref (g.2.2 0)), (1, .int x1)]) : W p l e (zrm 10 1 (6 * 1)) s m args below meth c H locs 0 0 (zQt g xE 125 below args s 1 r) (F0 m 0 ls []) := by
  have hx := E.1.1
  have hb := E.1.2.1
  unfold f_X10_edition at h
  refine lv_aload_n hx hb dX10_edition_0 rfl (lv_at hl 0 rfl) ?_
  refine lv_iload_n hx hb dX10_edition_1 rfl (lv_at hl 1 rfl) ?_
  obtain ⟨u_1, qu_1, h⟩ := zbt_some h
  refine zctv (zrunVt E X hZ (xb_X10 xs_0) ((xe_X10 xs_0) _) rfl rfl v_X10_needPrint kw_988 (c_X10_needPrint l X.1 g M  x1 qu_1 _) rfl hl.1 rfl (Nat.le_of_ble_eq_true rfl) ⟨by decide, by decide⟩ ⟨by decide, by decide⟩ dX10_edition_2) X hZ h (by decide) (by decide) (fun M_2 H locs eM_2 h hZ => ?_)
  refine W.widen (k := 1) (n := 6) (by decide) (by decide) ?_
  refine lv_aload_n hx hb dX10_edition_5 rfl (lv_at hl 0 rfl) ?_
  refine zg (v := .ref (g.2.2 51)) E hZ (xb_X10 xs_0) ((xe_X10 xs_0) _) kc_X10 12 (by decide) kw_364 rfl rfl dX10_edition_6 ?_
  refine lv_aload_n hx hb dX10_edition_9 rfl (lv_at hl 0 rfl) ?_
  refine zg (v := .ref (g.2.2 3)) E hZ (xb_X10 xs_0) ((xe_X10 xs_0) _) kc_X10 1 (by decide) kw_353 rfl rfl dX10_edition_10 ?_
  obtain ⟨u_3, qu_3, h⟩ := zbn_some h
  refine zcvS (zrunV E hZ (xb_X5 xs_51) ((xe_X5 xs_51) _) rfl rfl v_X5_remember kw_969 (c_X5_remember l g M_2 3 xs_3  qu_3 _) rfl hl.1 rfl (Nat.le_of_ble_eq_true rfl) ⟨by decide, by decide⟩ ⟨by decide, by decide⟩ dX10_edition_13) hZ (fun H locs hZ => ?_)
  refine lv_aload_n hx hb dX10_edition_16 rfl (lv_at hl 0 rfl) ?_
  refine zg (v := .ref (g.2.2 3)) E hZ (xb_X10 xs_0) ((xe_X10 xs_0) _) kc_X10 1 (by decide) kw_353 rfl rfl dX10_edition_17 ?_
  refine zg (v := .int (u_3 3 3)) E hZ (xb_X9 xs_3) ((xe_X9 xs_3) _) kc_X9 3 (by decide) kw_73 rfl rfl dX10_edition_20 ?_
  refine zni h (fun x2_4 ex2_4 h => ?_)
  refine lv_istore_n (lv' := [(2, .int x2_4), (0, .ref (g.2.2 0)), (1, .int x1)]) hx hb dX10_edition_23 rfl hl (by decide) rfl (fun ls hl => ?_)
  refine lv_aload_n hx hb dX10_edition_24 rfl (lv_at hl 1 rfl) ?_
  refine zg (v := .ref (g.2.2 3)) E hZ (xb_X10 xs_0) ((xe_X10 xs_0) _) kc_X10 1 (by decide) kw_353 rfl rfl dX10_edition_25 ?_
  refine lv_iload_n hx hb dX10_edition_28 rfl (lv_at hl 2 rfl) ?_
  refine zp h E hZ (xb_X9 xs_3) ((xe_X9 xs_3) _) (((xe_X9 xs_3) _).trans (congrArg (fun z => Sum.inr (8, z)) (fs_X9_3 g _ _ _))) kc_X9 (by decide) kw_73 rfl rfl rfl (Nat.le_of_ble_eq_true rfl) dX10_edition_29 (fun M_5 H locs eM_5 h hZ => ?_)
  refine lv_iload_n hx hb dX10_edition_32 rfl (lv_at hl 0 rfl) ?_
  exact hret _ _ _ _ _ _ _ _ h rfl hZ dX10_edition_33 (by decide) (by decide)
theorem c_X10_edition (l : Launch) (hst : l.stackTraces = false) (g : zG) (M : zM)  (x1 : Int32) {r : zT1} (h : f_X10_edition M x1 = some r) : zMt l g xE 125 yX10_edition (zWs yX10_edition cX10_edition 3 (some .int)) 10 1 [.ref (g.2.2 0), .int x1] M r :=
  zMt_of hst (by decide +kernel) (Nat.le_of_ble_eq_true rfl) (fun p e s m args below meth c ls E X hret hZ hl => w_X10_edition g  E X hret M x1 _ _ ls h hZ hl)
theorem v_X10_edition : zYV yX10_edition cX10_edition 3 (some .int) 1 := ⟨kw_999, kw_1, kw_997, kw_998, by decide +kernel⟩

def f_X10_wind (M : zM) (x1 : Int32) : Option (zT1) :=
  zbt (f_X10_needWithin M x1 ((-5)) 5) (fun M_2 _ => zbn (f_X5_remember M_2 3) (fun u_3 => znm (u_3 3 1) (fun x2_4 => znm (zu u_3 3 1 x1) (fun M_5 => some (M_5, .inr x2_4)))))
set_option maxRecDepth 100000 in
set_option maxHeartbeats 4000000 in
theorem w_X10_wind (g : zG)  {r : zT1} (E : zX g p m c cX10_wind 3 s args (zWs yX10_wind cX10_wind 3 (some .int)) RX10) (X : zXt g 125 l s c meth) (hret : zRti g xE 125 p l e (zrm 9 1 (6 * 1)) s m args below meth c 1 cX10_wind .int r) (M : zM) (x1 : Int32) (H : Heap) (locs : List Loc) (ls : Array Slot) (h : f_X10_wind M x1 = some r) (hZ : zS g xE 125 s H locs M) (hl : lv_has ls 3 [(0, .ref (g.2.2 0)), (1, .int x1)]) : W p l e (zrm 9 1 (6 * 1)) s m args below meth c H locs 0 0 (zQt g xE 125 below args s 1 r) (F0 m 0 ls []) := by
  have hx := E.1.1
  have hb := E.1.2.1
  unfold f_X10_wind at h
  refine lv_aload_n hx hb dX10_wind_0 rfl (lv_at hl 0 rfl) ?_
  refine lv_iload_n hx hb dX10_wind_1 rfl (lv_at hl 1 rfl) ?_
  refine lv_bipush (v := (-5)) hx hb dX10_wind_2 (by decide) ?_
  refine lv_iconst (v := 5) hx hb dX10_wind_4 (by decide) ?_
  obtain ⟨u_1, qu_1, h⟩ := zbt_some h
  refine zctv (zrunVt E X hZ (xb_X10 xs_0) ((xe_X10 xs_0) _) rfl rfl v_X10_needWithin kw_917 (c_X10_needWithin l X.1 g M  x1 ((-5)) 5 qu_1 _) rfl hl.1 rfl (Nat.le_of_ble_eq_true rfl) ⟨by decide, by decide⟩ ⟨by decide, by decide⟩ dX10_wind_5) X hZ h (by decide) (by decide) (fun M_2 H locs eM_2 h hZ => ?_)
  refine W.widen (k := 1) (n := 6) (by decide) (by decide) ?_
  refine lv_aload_n hx hb dX10_wind_8 rfl (lv_at hl 0 rfl) ?_
  refine zg (v := .ref (g.2.2 51)) E hZ (xb_X10 xs_0) ((xe_X10 xs_0) _) kc_X10 12 (by decide) kw_364 rfl rfl dX10_wind_9 ?_
  refine lv_aload_n hx hb dX10_wind_12 rfl (lv_at hl 0 rfl) ?_
  refine zg (v := .ref (g.2.2 3)) E hZ (xb_X10 xs_0) ((xe_X10 xs_0) _) kc_X10 1 (by decide) kw_353 rfl rfl dX10_wind_13 ?_
  obtain ⟨u_3, qu_3, h⟩ := zbn_some h
  refine zcvS (zrunV E hZ (xb_X5 xs_51) ((xe_X5 xs_51) _) rfl rfl v_X5_remember kw_969 (c_X5_remember l g M_2 3 xs_3  qu_3 _) rfl hl.1 rfl (Nat.le_of_ble_eq_true rfl) ⟨by decide, by decide⟩ ⟨by decide, by decide⟩ dX10_wind_16) hZ (fun H locs hZ => ?_)
  refine lv_aload_n hx hb dX10_wind_19 rfl (lv_at hl 0 rfl) ?_
  refine zg (v := .ref (g.2.2 3)) E hZ (xb_X10 xs_0) ((xe_X10 xs_0) _) kc_X10 1 (by decide) kw_353 rfl rfl dX10_wind_20 ?_
  refine zg (v := .int (u_3 3 1)) E hZ (xb_X9 xs_3) ((xe_X9 xs_3) _) kc_X9 1 (by decide) kw_68 rfl rfl dX10_wind_23 ?_
  refine zni h (fun x2_4 ex2_4 h => ?_)
  refine lv_istore_n (lv' := [(2, .int x2_4), (0, .ref (g.2.2 0)), (1, .int x1)]) hx hb dX10_wind_26 rfl hl (by decide) rfl (fun ls hl => ?_)
  refine lv_aload_n hx hb dX10_wind_27 rfl (lv_at hl 1 rfl) ?_
  refine zg (v := .ref (g.2.2 3)) E hZ (xb_X10 xs_0) ((xe_X10 xs_0) _) kc_X10 1 (by decide) kw_353 rfl rfl dX10_wind_28 ?_
  refine lv_iload_n hx hb dX10_wind_31 rfl (lv_at hl 2 rfl) ?_
  refine zp h E hZ (xb_X9 xs_3) ((xe_X9 xs_3) _) (((xe_X9 xs_3) _).trans (congrArg (fun z => Sum.inr (8, z)) (fs_X9_1 g _ _ _))) kc_X9 (by decide) kw_68 rfl rfl rfl (Nat.le_of_ble_eq_true rfl) dX10_wind_32 (fun M_5 H locs eM_5 h hZ => ?_)
  refine lv_iload_n hx hb dX10_wind_35 rfl (lv_at hl 0 rfl) ?_
  exact hret _ _ _ _ _ _ _ _ h rfl hZ dX10_wind_36 (by decide) (by decide)
theorem c_X10_wind (l : Launch) (hst : l.stackTraces = false) (g : zG) (M : zM)  (x1 : Int32) {r : zT1} (h : f_X10_wind M x1 = some r) : zMt l g xE 125 yX10_wind (zWs yX10_wind cX10_wind 3 (some .int)) 9 1 [.ref (g.2.2 0), .int x1] M r :=
  zMt_of hst (by decide +kernel) (Nat.le_of_ble_eq_true rfl) (fun p e s m args below meth c ls E X hret hZ hl => w_X10_wind g  E X hret M x1 _ _ ls h hZ hl)
theorem v_X10_wind : zYV yX10_wind cX10_wind 3 (some .int) 1 := ⟨kw_1006, kw_1, kw_1004, kw_1005, by decide +kernel⟩

def f_X10_anew (M : zM) (x1 : Int32) : Option (zT1) :=
  zbt (f_X10_needDuty M x1) (fun M_2 _ => zbn (f_X5_remember M_2 3) (fun u_3 => zbn (f_X9_isKept u_3 3 x1) (fun u_4 => znm (zu u_3 3 13 ((u_3 3 13) &&& (((1 : Int32) <<< (x1 &&& 31)) ^^^ ((-1))))) (fun M_5 => zck (zbl u_4) (some (M_5, .inr u_4))))))
set_option maxRecDepth 100000 in
set_option maxHeartbeats 4000000 in
theorem w_X10_anew (g : zG)  {r : zT1} (E : zX g p m c cX10_anew 3 s args (zWs yX10_anew cX10_anew 3 (some .boolean)) RX10) (X : zXt g 125 l s c meth) (hret : zRti g xE 125 p l e (zrm 9 1 (6 * 1)) s m args below meth c 1 cX10_anew .boolean r) (M : zM) (x1 : Int32) (H : Heap) (locs : List Loc) (ls : Array Slot) (h : f_X10_anew M x1 = some r) (hZ : zS g xE 125 s H locs M) (hl : lv_has ls 3 [(0, .ref (g.2.2 0)), (1, .int x1)]) : W p l e (zrm 9 1 (6 * 1)) s m args below meth c H locs 0 0 (zQt g xE 125 below args s 1 r) (F0 m 0 ls []) := by
  have hx := E.1.1
  have hb := E.1.2.1
  unfold f_X10_anew at h
  refine lv_aload_n hx hb dX10_anew_0 rfl (lv_at hl 0 rfl) ?_
  refine lv_iload_n hx hb dX10_anew_1 rfl (lv_at hl 1 rfl) ?_
  obtain ⟨u_1, qu_1, h⟩ := zbt_some h
  refine zctv (zrunVt E X hZ (xb_X10 xs_0) ((xe_X10 xs_0) _) rfl rfl v_X10_needDuty kw_906 (c_X10_needDuty l X.1 g M  x1 qu_1 _) rfl hl.1 rfl (Nat.le_of_ble_eq_true rfl) ⟨by decide, by decide⟩ ⟨by decide, by decide⟩ dX10_anew_2) X hZ h (by decide) (by decide) (fun M_2 H locs eM_2 h hZ => ?_)
  refine W.widen (k := 1) (n := 6) (by decide) (by decide) ?_
  refine lv_aload_n hx hb dX10_anew_5 rfl (lv_at hl 0 rfl) ?_
  refine zg (v := .ref (g.2.2 51)) E hZ (xb_X10 xs_0) ((xe_X10 xs_0) _) kc_X10 12 (by decide) kw_364 rfl rfl dX10_anew_6 ?_
  refine lv_aload_n hx hb dX10_anew_9 rfl (lv_at hl 0 rfl) ?_
  refine zg (v := .ref (g.2.2 3)) E hZ (xb_X10 xs_0) ((xe_X10 xs_0) _) kc_X10 1 (by decide) kw_353 rfl rfl dX10_anew_10 ?_
  obtain ⟨u_3, qu_3, h⟩ := zbn_some h
  refine zcvS (zrunV E hZ (xb_X5 xs_51) ((xe_X5 xs_51) _) rfl rfl v_X5_remember kw_969 (c_X5_remember l g M_2 3 xs_3  qu_3 _) rfl hl.1 rfl (Nat.le_of_ble_eq_true rfl) ⟨by decide, by decide⟩ ⟨by decide, by decide⟩ dX10_anew_13) hZ (fun H locs hZ => ?_)
  refine lv_aload_n hx hb dX10_anew_16 rfl (lv_at hl 0 rfl) ?_
  refine zg (v := .ref (g.2.2 3)) E hZ (xb_X10 xs_0) ((xe_X10 xs_0) _) kc_X10 1 (by decide) kw_353 rfl rfl dX10_anew_17 ?_
  refine lv_iload_n hx hb dX10_anew_20 rfl (lv_at hl 1 rfl) ?_
  obtain ⟨u_4, qu_4, h⟩ := zbn_some h
  refine zciR (zrunV E hZ (xb_X9 xs_3) ((xe_X9 xs_3) _) rfl rfl v_X9_isKept kw_508 (c_X9_isKept l g u_3 3 xs_3 x1 qu_4 _) rfl hl.1 rfl (Nat.le_of_ble_eq_true rfl) ⟨by decide, by decide⟩ ⟨by decide, by decide⟩ dX10_anew_21) hZ (fun H locs hZ => ?_)
  refine lv_istore_n (lv' := [(2, .int u_4), (0, .ref (g.2.2 0)), (1, .int x1)]) hx hb dX10_anew_24 rfl hl (by decide) rfl (fun ls hl => ?_)
  refine lv_aload_n hx hb dX10_anew_25 rfl (lv_at hl 1 rfl) ?_
  refine zg (v := .ref (g.2.2 3)) E hZ (xb_X10 xs_0) ((xe_X10 xs_0) _) kc_X10 1 (by decide) kw_353 rfl rfl dX10_anew_26 ?_
  refine lv_dup hx hb dX10_anew_29 rfl ?_
  refine zg (v := .int (u_3 3 13)) E hZ (xb_X9 xs_3) ((xe_X9 xs_3) _) kc_X9 13 (by decide) kw_108 rfl rfl dX10_anew_30 ?_
  refine lv_iconst (v := 1) hx hb dX10_anew_33 (by decide) ?_
  refine lv_iload_n hx hb dX10_anew_34 rfl (lv_at hl 2 rfl) ?_
  refine lv_ishl hx hb dX10_anew_35 ?_
  refine lv_iconst (v := (-1)) hx hb dX10_anew_36 (by decide) ?_
  refine lv_ixor hx hb dX10_anew_37 ?_
  refine lv_iand hx hb dX10_anew_38 ?_
  refine zp h E hZ (xb_X9 xs_3) ((xe_X9 xs_3) _) (((xe_X9 xs_3) _).trans (congrArg (fun z => Sum.inr (8, z)) (fs_X9_13 g _ _ _))) kc_X9 (by decide) kw_108 rfl rfl rfl (Nat.le_of_ble_eq_true rfl) dX10_anew_39 (fun M_5 H locs eM_5 h hZ => ?_)
  refine lv_iload_n hx hb dX10_anew_42 rfl (lv_at hl 0 rfl) ?_
  obtain ⟨hbl, h⟩ := zck_some h
  exact hret _ _ _ _ _ _ _ _ h (zbl_n hbl) hZ dX10_anew_43 (by decide) (by decide)
theorem c_X10_anew (l : Launch) (hst : l.stackTraces = false) (g : zG) (M : zM)  (x1 : Int32) {r : zT1} (h : f_X10_anew M x1 = some r) : zMt l g xE 125 yX10_anew (zWs yX10_anew cX10_anew 3 (some .boolean)) 9 1 [.ref (g.2.2 0), .int x1] M r :=
  zMt_of hst (by decide +kernel) (Nat.le_of_ble_eq_true rfl) (fun p e s m args below meth c ls E X hret hZ hl => w_X10_anew g  E X hret M x1 _ _ ls h hZ hl)
theorem v_X10_anew : zYV yX10_anew cX10_anew 3 (some .boolean) 1 := ⟨kw_1013, kw_1, kw_1011, kw_1012, by decide +kernel⟩

def f_X10_hours (M : zM) (x1 : Int32) : Option (zT1) :=
  zbt (f_X10_needWithin M x1 1 100) (fun M_2 _ => zbn (f_X5_remember M_2 3) (fun u_3 => zbn (f_X0_run u_3 3 21 x1 1) (fun u_4 => some (u_4.2, .inr u_4.1))))
set_option maxRecDepth 100000 in
set_option maxHeartbeats 4000000 in
theorem w_X10_hours (g : zG)  {r : zT1} (E : zX g p m c cX10_hours 2 s args (zWs yX10_hours cX10_hours 2 (some .int)) RX10) (X : zXt g 125 l s c meth) (hret : zRti g xE 125 p l e (zrm 9 1 (6 * 1)) s m args below meth c 1 cX10_hours .int r) (M : zM) (x1 : Int32) (H : Heap) (locs : List Loc) (ls : Array Slot) (h : f_X10_hours M x1 = some r) (hZ : zS g xE 125 s H locs M) (hl : lv_has ls 2 [(0, .ref (g.2.2 0)), (1, .int x1)]) : W p l e (zrm 9 1 (6 * 1)) s m args below meth c H locs 0 0 (zQt g xE 125 below args s 1 r) (F0 m 0 ls []) := by
  have hx := E.1.1
  have hb := E.1.2.1
  unfold f_X10_hours at h
  refine lv_aload_n hx hb dX10_hours_0 rfl (lv_at hl 0 rfl) ?_
  refine lv_iload_n hx hb dX10_hours_1 rfl (lv_at hl 1 rfl) ?_
  refine lv_iconst (v := 1) hx hb dX10_hours_2 (by decide) ?_
  refine lv_bipush (v := 100) hx hb dX10_hours_3 (by decide) ?_
  obtain ⟨u_1, qu_1, h⟩ := zbt_some h
  refine zctv (zrunVt E X hZ (xb_X10 xs_0) ((xe_X10 xs_0) _) rfl rfl v_X10_needWithin kw_917 (c_X10_needWithin l X.1 g M  x1 1 100 qu_1 _) rfl hl.1 rfl (Nat.le_of_ble_eq_true rfl) ⟨by decide, by decide⟩ ⟨by decide, by decide⟩ dX10_hours_5) X hZ h (by decide) (by decide) (fun M_2 H locs eM_2 h hZ => ?_)
  refine W.widen (k := 1) (n := 6) (by decide) (by decide) ?_
  refine lv_aload_n hx hb dX10_hours_8 rfl (lv_at hl 0 rfl) ?_
  refine zg (v := .ref (g.2.2 51)) E hZ (xb_X10 xs_0) ((xe_X10 xs_0) _) kc_X10 12 (by decide) kw_364 rfl rfl dX10_hours_9 ?_
  refine lv_aload_n hx hb dX10_hours_12 rfl (lv_at hl 0 rfl) ?_
  refine zg (v := .ref (g.2.2 3)) E hZ (xb_X10 xs_0) ((xe_X10 xs_0) _) kc_X10 1 (by decide) kw_353 rfl rfl dX10_hours_13 ?_
  obtain ⟨u_3, qu_3, h⟩ := zbn_some h
  refine zcvS (zrunV E hZ (xb_X5 xs_51) ((xe_X5 xs_51) _) rfl rfl v_X5_remember kw_969 (c_X5_remember l g M_2 3 xs_3  qu_3 _) rfl hl.1 rfl (Nat.le_of_ble_eq_true rfl) ⟨by decide, by decide⟩ ⟨by decide, by decide⟩ dX10_hours_16) hZ (fun H locs hZ => ?_)
  refine lv_aload_n hx hb dX10_hours_19 rfl (lv_at hl 0 rfl) ?_
  refine zg (v := .ref (g.2.2 3)) E hZ (xb_X10 xs_0) ((xe_X10 xs_0) _) kc_X10 1 (by decide) kw_353 rfl rfl dX10_hours_20 ?_
  refine lv_aload_n hx hb dX10_hours_23 rfl (lv_at hl 0 rfl) ?_
  refine zg (v := .ref (g.2.2 21)) E hZ (xb_X10 xs_0) ((xe_X10 xs_0) _) kc_X10 4 (by decide) kw_356 rfl rfl dX10_hours_24 ?_
  refine lv_iload_n hx hb dX10_hours_27 rfl (lv_at hl 1 rfl) ?_
  refine lv_iconst (v := 1) hx hb dX10_hours_28 (by decide) ?_
  obtain ⟨u_4, qu_4, h⟩ := zbn_some h
  refine zciS (zrunS E hZ v_X0_run kw_1021 (c_X0_run l g u_3 3 xs_3 21 xs_21 x1 1 qu_4 _) rfl hl.1 rfl (Nat.le_of_ble_eq_true rfl) ⟨by decide, by decide⟩ ⟨by decide, by decide⟩ dX10_hours_29) hZ (fun H locs hZ => ?_)
  exact hret _ _ _ _ _ _ _ _ h rfl hZ dX10_hours_32 (by decide) (by decide)
theorem c_X10_hours (l : Launch) (hst : l.stackTraces = false) (g : zG) (M : zM)  (x1 : Int32) {r : zT1} (h : f_X10_hours M x1 = some r) : zMt l g xE 125 yX10_hours (zWs yX10_hours cX10_hours 2 (some .int)) 9 1 [.ref (g.2.2 0), .int x1] M r :=
  zMt_of hst (by decide +kernel) (Nat.le_of_ble_eq_true rfl) (fun p e s m args below meth c ls E X hret hZ hl => w_X10_hours g  E X hret M x1 _ _ ls h hZ hl)
theorem v_X10_hours : zYV yX10_hours cX10_hours 2 (some .int) 1 := ⟨kw_1020, kw_1, kw_1018, kw_1019, by decide +kernel⟩

def f_X10_high (M : zM) (x1 : Int32) : Option (zT1) :=
  zbt (f_X10_needWithin M x1 0 9999) (fun M_2 _ => zbn (f_X9_stepOf M_2 3 x1) (fun u_3 => if u_3 = 0 then (some (M_2, .inr x1)) else (some (M_2, .inr ((x1 - u_3) + (M_2 3 5))))))
set_option maxRecDepth 100000 in
set_option maxHeartbeats 4000000 in
theorem w_X10_high (g : zG)  {r : zT1} (E : zX g p m c cX10_high 3 s args (zWs yX10_high cX10_high 3 (some .int)) RX10) (X : zXt g 125 l s c meth) (hret : zRti g xE 125 p l e (zrm 9 1 (6 * 1)) s m args below meth c 1 cX10_high .int r) (M : zM) (x1 : Int32) (H : Heap) (locs : List Loc) (ls : Array Slot) (h : f_X10_high M x1 = some r) (hZ : zS g xE 125 s H locs M) (hl : lv_has ls 3 [(0, .ref (g.2.2 0)), (1, .int x1)]) : W p l e (zrm 9 1 (6 * 1)) s m args below meth c H locs 0 0 (zQt g xE 125 below args s 1 r) (F0 m 0 ls []) := by
  have hx := E.1.1
  have hb := E.1.2.1
  unfold f_X10_high at h
  refine lv_aload_n hx hb dX10_high_0 rfl (lv_at hl 0 rfl) ?_
  refine lv_iload_n hx hb dX10_high_1 rfl (lv_at hl 1 rfl) ?_
  refine lv_iconst (v := 0) hx hb dX10_high_2 (by decide) ?_
  refine lv_sipush (v := 9999) hx hb dX10_high_3 (by decide) ?_
  obtain ⟨u_1, qu_1, h⟩ := zbt_some h
  refine zctv (zrunVt E X hZ (xb_X10 xs_0) ((xe_X10 xs_0) _) rfl rfl v_X10_needWithin kw_917 (c_X10_needWithin l X.1 g M  x1 0 9999 qu_1 _) rfl hl.1 rfl (Nat.le_of_ble_eq_true rfl) ⟨by decide, by decide⟩ ⟨by decide, by decide⟩ dX10_high_6) X hZ h (by decide) (by decide) (fun M_2 H locs eM_2 h hZ => ?_)
  refine W.widen (k := 1) (n := 6) (by decide) (by decide) ?_
  refine lv_aload_n hx hb dX10_high_9 rfl (lv_at hl 0 rfl) ?_
  refine zg (v := .ref (g.2.2 3)) E hZ (xb_X10 xs_0) ((xe_X10 xs_0) _) kc_X10 1 (by decide) kw_353 rfl rfl dX10_high_10 ?_
  refine lv_iload_n hx hb dX10_high_13 rfl (lv_at hl 1 rfl) ?_
  obtain ⟨u_3, qu_3, h⟩ := zbn_some h
  refine zciR (zrunV E hZ (xb_X9 xs_3) ((xe_X9 xs_3) _) rfl rfl v_X9_stepOf kw_1075 (c_X9_stepOf l g M_2 3 xs_3 x1 qu_3 _) rfl hl.1 rfl (Nat.le_of_ble_eq_true rfl) ⟨by decide, by decide⟩ ⟨by decide, by decide⟩ dX10_high_14) hZ (fun H locs hZ => ?_)
  refine lv_istore_n (lv' := [(2, .int u_3), (0, .ref (g.2.2 0)), (1, .int x1)]) hx hb dX10_high_17 rfl hl (by decide) rfl (fun ls hl => ?_)
  refine lv_iload_n hx hb dX10_high_18 rfl (lv_at hl 0 rfl) ?_
  refine zif_ne (tgt := 26) h E dX10_high_19 (by decide) (fun c_4 h => ?_) (fun c_4 h => ?_)
  · refine lv_iload_n hx hb dX10_high_26 rfl (lv_at hl 2 rfl) ?_
    refine lv_iload_n hx hb dX10_high_27 rfl (lv_at hl 0 rfl) ?_
    refine lv_isub hx hb dX10_high_28 ?_
    refine lv_aload_n hx hb dX10_high_29 rfl (lv_at hl 1 rfl) ?_
    refine zg (v := .ref (g.2.2 3)) E hZ (xb_X10 xs_0) ((xe_X10 xs_0) _) kc_X10 1 (by decide) kw_353 rfl rfl dX10_high_30 ?_
    refine zg (v := .int (M_2 3 5)) E hZ (xb_X9 xs_3) ((xe_X9 xs_3) _) kc_X9 5 (by decide) kw_80 rfl rfl dX10_high_33 ?_
    refine lv_iadd hx hb dX10_high_36 ?_
    exact hret _ _ _ _ _ _ _ _ h rfl hZ dX10_high_37 (by decide) (by decide)
  · refine lv_iload_n hx hb dX10_high_22 rfl (lv_at hl 2 rfl) ?_
    refine lv_goto (tgt := 37) hx hb dX10_high_23 (by decide) ?_
    exact hret _ _ _ _ _ _ _ _ h rfl hZ dX10_high_37 (by decide) (by decide)
theorem c_X10_high (l : Launch) (hst : l.stackTraces = false) (g : zG) (M : zM)  (x1 : Int32) {r : zT1} (h : f_X10_high M x1 = some r) : zMt l g xE 125 yX10_high (zWs yX10_high cX10_high 3 (some .int)) 9 1 [.ref (g.2.2 0), .int x1] M r :=
  zMt_of hst (by decide +kernel) (Nat.le_of_ble_eq_true rfl) (fun p e s m args below meth c ls E X hret hZ hl => w_X10_high g  E X hret M x1 _ _ ls h hZ hl)
theorem v_X10_high : zYV yX10_high cX10_high 3 (some .int) 1 := ⟨kw_1074, kw_1, kw_1072, kw_1073, by decide +kernel⟩

def b_X10_low_68 (K21 : Int32 → Int32 → Option (zT1)) (M : zM) (x1 : Int32) (x2 : Int32) (x3 : Int32) : Option (zT1) :=
  znm (x3 + 1) (fun x3_1 => K21 x2 x3_1)
set_option maxRecDepth 100000 in
set_option maxHeartbeats 4000000 in
theorem lb_X10_low_68 (g : zG)  {r : zT1} (E : zX g p m c cX10_low 5 s args (zWs yX10_low cX10_low 5 (some .int)) RX10) (X : zXt g 125 l s c meth) (hret : zRti g xE 125 p l e (zrm 9 1 (6 * 1)) s m args below meth c 1 cX10_low .int r) (M : zM) (x1 : Int32) (x2 : Int32) (x3 : Int32) (K21 : Int32 → Int32 → Option (zT1)) (hK21 : ∀ (x2 : Int32) (x3 : Int32) (H : Heap) (locs : List Loc) (ls : Array Slot), K21 x2 x3 = some r → zS g xE 125 s H locs M → lv_has ls 5 [(0, .ref (g.2.2 0)), (1, .int x1), (2, .int x2), (3, .int x3)] → W p l e (zrm 9 1 (6 * 1)) s m args below meth c H locs 1 6 (zQt g xE 125 below args s 1 r) (F0 m 21 ls [])) (H : Heap) (locs : List Loc) (ls : Array Slot) (h : b_X10_low_68 K21 M x1 x2 x3 = some r) (hZ : zS g xE 125 s H locs M) (hl : lv_has ls 5 [(0, .ref (g.2.2 0)), (1, .int x1), (2, .int x2), (3, .int x3)]) : W p l e (zrm 9 1 (6 * 1)) s m args below meth c H locs 1 6 (zQt g xE 125 below args s 1 r) (F0 m 68 ls []) := by
  have hx := E.1.1
  have hb := E.1.2.1
  unfold b_X10_low_68 at h
  obtain ⟨x3_1, ex3_1, h⟩ := znm_ex h
  refine lv_iinc (v := x3_1) (lv' := [(3, .int x3_1), (0, .ref (g.2.2 0)), (1, .int x1), (2, .int x2)]) hx hb dX10_low_68 hl (k := 3) rfl (by rw [ex3_1]; rfl) (by decide) rfl (fun ls hl => ?_)
  refine lv_goto (tgt := 21) hx hb dX10_low_71 (by decide) ?_
  exact hK21 x2 x3_1 H locs ls h hZ (lv_sub hl [1, 2, 3, 0] rfl)
def b_X10_low_21  (M : zM) (x1 : Int32) : Nat → Int32 → Int32 → Option (zT1)
  | 0, _, _ => none
  | n + 1, x2, x3 =>
    if (M 3 5) ≤ x3 then (some (M, .inr x2)) else (znm ((x1 * (M 3 5)) + x3) (fun x4_2 => zbn (f_X9_waterIn M 3 x4_2) (fun u_3 => zbn (f_X9_waterIn M 3 x2) (fun u_4 => if u_4 ≤ u_3 then (b_X10_low_68 (fun x2 x3 => b_X10_low_21  M x1 n x2 x3) M x1 x2 x3) else (b_X10_low_68 (fun x2 x3 => b_X10_low_21  M x1 n x2 x3) M x1 x4_2 x3)))))
set_option maxRecDepth 100000 in
set_option maxHeartbeats 4000000 in
theorem lb_X10_low_21 (g : zG)  {r : zT1} (E : zX g p m c cX10_low 5 s args (zWs yX10_low cX10_low 5 (some .int)) RX10) (X : zXt g 125 l s c meth) (hret : zRti g xE 125 p l e (zrm 9 1 (6 * 1)) s m args below meth c 1 cX10_low .int r) (M : zM) (x1 : Int32)  : ∀ (n : Nat) (x2 : Int32) (x3 : Int32) (H : Heap) (locs : List Loc) (ls : Array Slot), b_X10_low_21  M x1 n x2 x3 = some r → zS g xE 125 s H locs M → lv_has ls 5 [(0, .ref (g.2.2 0)), (1, .int x1), (2, .int x2), (3, .int x3)] → W p l e (zrm 9 1 (6 * 1)) s m args below meth c H locs 1 6 (zQt g xE 125 below args s 1 r) (F0 m 21 ls []) := by
  have hx := E.1.1
  have hb := E.1.2.1
  intro n
  induction n with
  | zero => intro x2 x3 H locs ls h hZ hl; cases h
  | succ n ih =>
    intro x2 x3 H locs ls h hZ hl
    rw [b_X10_low_21] at h
    refine lv_iload_n hx hb dX10_low_21 rfl (lv_at hl 3 rfl) ?_
    refine lv_aload_n hx hb dX10_low_22 rfl (lv_at hl 0 rfl) ?_
    refine zg (v := .ref (g.2.2 3)) E hZ (xb_X10 xs_0) ((xe_X10 xs_0) _) kc_X10 1 (by decide) kw_353 rfl rfl dX10_low_23 ?_
    refine zg (v := .int (M 3 5)) E hZ (xb_X9 xs_3) ((xe_X9 xs_3) _) kc_X9 5 (by decide) kw_80 rfl rfl dX10_low_26 ?_
    refine zic_ge (tgt := 74) h E dX10_low_29 (by decide) (fun c_6 h => ?_) (fun c_6 h => ?_)
    · refine lv_iload_n hx hb dX10_low_74 rfl (lv_at hl 2 rfl) ?_
      exact hret _ _ _ _ _ _ _ _ h rfl hZ dX10_low_75 (by decide) (by decide)
    · refine lv_iload_n hx hb dX10_low_32 rfl (lv_at hl 1 rfl) ?_
      refine lv_aload_n hx hb dX10_low_33 rfl (lv_at hl 0 rfl) ?_
      refine zg (v := .ref (g.2.2 3)) E hZ (xb_X10 xs_0) ((xe_X10 xs_0) _) kc_X10 1 (by decide) kw_353 rfl rfl dX10_low_34 ?_
      refine zg (v := .int (M 3 5)) E hZ (xb_X9 xs_3) ((xe_X9 xs_3) _) kc_X9 5 (by decide) kw_80 rfl rfl dX10_low_37 ?_
      refine lv_imul hx hb dX10_low_40 ?_
      refine lv_iload_n hx hb dX10_low_41 rfl (lv_at hl 3 rfl) ?_
      refine lv_iadd hx hb dX10_low_42 ?_
      refine zni h (fun x4_2 ex4_2 h => ?_)
      refine lv_istore (lv' := [(4, .int x4_2), (0, .ref (g.2.2 0)), (1, .int x1), (2, .int x2), (3, .int x3)]) hx hb dX10_low_43 hl (by decide) rfl (fun ls hl => ?_)
      refine lv_aload_n hx hb dX10_low_45 rfl (lv_at hl 1 rfl) ?_
      refine zg (v := .ref (g.2.2 3)) E hZ (xb_X10 xs_0) ((xe_X10 xs_0) _) kc_X10 1 (by decide) kw_353 rfl rfl dX10_low_46 ?_
      refine lv_iload hx hb dX10_low_49 (lv_at hl 0 rfl) ?_
      obtain ⟨u_3, qu_3, h⟩ := zbn_some h
      refine zciR (zrunV E hZ (xb_X9 xs_3) ((xe_X9 xs_3) _) rfl rfl v_X9_waterIn kw_440 (c_X9_waterIn l g M 3 xs_3 x4_2 qu_3 _) rfl hl.1 rfl (Nat.le_of_ble_eq_true rfl) ⟨by decide, by decide⟩ ⟨by decide, by decide⟩ dX10_low_51) hZ (fun H locs hZ => ?_)
      refine lv_aload_n hx hb dX10_low_54 rfl (lv_at hl 1 rfl) ?_
      refine zg (v := .ref (g.2.2 3)) E hZ (xb_X10 xs_0) ((xe_X10 xs_0) _) kc_X10 1 (by decide) kw_353 rfl rfl dX10_low_55 ?_
      refine lv_iload_n hx hb dX10_low_58 rfl (lv_at hl 3 rfl) ?_
      obtain ⟨u_4, qu_4, h⟩ := zbn_some h
      refine zciR (zrunV E hZ (xb_X9 xs_3) ((xe_X9 xs_3) _) rfl rfl v_X9_waterIn kw_440 (c_X9_waterIn l g M 3 xs_3 x2 qu_4 _) rfl hl.1 rfl (Nat.le_of_ble_eq_true rfl) ⟨by decide, by decide⟩ ⟨by decide, by decide⟩ dX10_low_59) hZ (fun H locs hZ => ?_)
      refine zic_ge (tgt := 68) h E dX10_low_62 (by decide) (fun c_5 h => ?_) (fun c_5 h => ?_)
      · exact lb_X10_low_68 g  E X hret M x1 x2 x3 (fun x2 x3 => b_X10_low_21  M x1 n x2 x3) ih H locs ls h hZ (lv_sub hl [1, 2, 3, 4] rfl)
      · refine lv_iload hx hb dX10_low_65 (lv_at hl 0 rfl) ?_
        refine lv_istore_n (lv' := [(2, .int x4_2), (4, .int x4_2), (0, .ref (g.2.2 0)), (1, .int x1), (3, .int x3)]) hx hb dX10_low_67 rfl hl (by decide) rfl (fun ls hl => ?_)
        exact lb_X10_low_68 g  E X hret M x1 x4_2 x3 (fun x2 x3 => b_X10_low_21  M x1 n x2 x3) ih H locs ls h hZ (lv_sub hl [2, 3, 0, 4] rfl)
def f_X10_low (M : zM) (x1 : Int32) : Option (zT1) :=
  zbt (f_X10_needWithin M x1 0 400) (fun M_8 _ => znm (x1 * (M_8 3 5)) (fun x2_9 => b_X10_low_21  M_8 x1 6000 x2_9 1))
set_option maxRecDepth 100000 in
set_option maxHeartbeats 4000000 in
theorem w_X10_low (g : zG)  {r : zT1} (E : zX g p m c cX10_low 5 s args (zWs yX10_low cX10_low 5 (some .int)) RX10) (X : zXt g 125 l s c meth) (hret : zRti g xE 125 p l e (zrm 9 1 (6 * 1)) s m args below meth c 1 cX10_low .int r) (M : zM) (x1 : Int32) (H : Heap) (locs : List Loc) (ls : Array Slot) (h : f_X10_low M x1 = some r) (hZ : zS g xE 125 s H locs M) (hl : lv_has ls 5 [(0, .ref (g.2.2 0)), (1, .int x1)]) : W p l e (zrm 9 1 (6 * 1)) s m args below meth c H locs 0 0 (zQt g xE 125 below args s 1 r) (F0 m 0 ls []) := by
  have hx := E.1.1
  have hb := E.1.2.1
  unfold f_X10_low at h
  refine lv_aload_n hx hb dX10_low_0 rfl (lv_at hl 0 rfl) ?_
  refine lv_iload_n hx hb dX10_low_1 rfl (lv_at hl 1 rfl) ?_
  refine lv_iconst (v := 0) hx hb dX10_low_2 (by decide) ?_
  refine lv_sipush (v := 400) hx hb dX10_low_3 (by decide) ?_
  obtain ⟨u_7, qu_7, h⟩ := zbt_some h
  refine zctv (zrunVt E X hZ (xb_X10 xs_0) ((xe_X10 xs_0) _) rfl rfl v_X10_needWithin kw_917 (c_X10_needWithin l X.1 g M  x1 0 400 qu_7 _) rfl hl.1 rfl (Nat.le_of_ble_eq_true rfl) ⟨by decide, by decide⟩ ⟨by decide, by decide⟩ dX10_low_6) X hZ h (by decide) (by decide) (fun M_8 H locs eM_8 h hZ => ?_)
  refine W.widen (k := 1) (n := 6) (by decide) (by decide) ?_
  refine lv_iload_n hx hb dX10_low_9 rfl (lv_at hl 1 rfl) ?_
  refine lv_aload_n hx hb dX10_low_10 rfl (lv_at hl 0 rfl) ?_
  refine zg (v := .ref (g.2.2 3)) E hZ (xb_X10 xs_0) ((xe_X10 xs_0) _) kc_X10 1 (by decide) kw_353 rfl rfl dX10_low_11 ?_
  refine zg (v := .int (M_8 3 5)) E hZ (xb_X9 xs_3) ((xe_X9 xs_3) _) kc_X9 5 (by decide) kw_80 rfl rfl dX10_low_14 ?_
  refine lv_imul hx hb dX10_low_17 ?_
  refine zni h (fun x2_9 ex2_9 h => ?_)
  refine lv_istore_n (lv' := [(2, .int x2_9), (0, .ref (g.2.2 0)), (1, .int x1)]) hx hb dX10_low_18 rfl hl (by decide) rfl (fun ls hl => ?_)
  refine lv_iconst (v := 1) hx hb dX10_low_19 (by decide) ?_
  refine lv_istore_n (lv' := [(3, .int 1), (2, .int x2_9), (0, .ref (g.2.2 0)), (1, .int x1)]) hx hb dX10_low_20 rfl hl (by decide) rfl (fun ls hl => ?_)
  exact lb_X10_low_21 g  E X hret M_8 x1  6000 x2_9 1 H locs ls h hZ (lv_sub hl [2, 3, 1, 0] rfl)
theorem c_X10_low (l : Launch) (hst : l.stackTraces = false) (g : zG) (M : zM)  (x1 : Int32) {r : zT1} (h : f_X10_low M x1 = some r) : zMt l g xE 125 yX10_low (zWs yX10_low cX10_low 5 (some .int)) 9 1 [.ref (g.2.2 0), .int x1] M r :=
  zMt_of hst (by decide +kernel) (Nat.le_of_ble_eq_true rfl) (fun p e s m args below meth c ls E X hret hZ hl => w_X10_low g  E X hret M x1 _ _ ls h hZ hl)
theorem v_X10_low : zYV yX10_low cX10_low 5 (some .int) 1 := ⟨kw_1082, kw_1, kw_1080, kw_1081, by decide +kernel⟩

def f_X10_dry (M : zM) (x1 : Int32) (x2 : Int32) : Option (zT1) :=
  zbt (f_X10_needPlace M x1) (fun M_2 _ => zbt (f_X10_needWithin M_2 x2 0 400) (fun M_4 _ => zbn (f_X10_hoursNoDeeper M_4 ((1 : Int32) <<< (x1 &&& 31)) 0 x2) (fun u_5 => some (u_5.2, .inr u_5.1))))
set_option maxRecDepth 100000 in
set_option maxHeartbeats 4000000 in
theorem w_X10_dry (g : zG)  {r : zT1} (E : zX g p m c cX10_dry 3 s args (zWs yX10_dry cX10_dry 3 (some .int)) RX10) (X : zXt g 125 l s c meth) (hret : zRti g xE 125 p l e (zrm 9 2 (6 * 2)) s m args below meth c 2 cX10_dry .int r) (M : zM) (x1 : Int32) (x2 : Int32) (H : Heap) (locs : List Loc) (ls : Array Slot) (h : f_X10_dry M x1 x2 = some r) (hZ : zS g xE 125 s H locs M) (hl : lv_has ls 3 [(0, .ref (g.2.2 0)), (1, .int x1), (2, .int x2)]) : W p l e (zrm 9 2 (6 * 2)) s m args below meth c H locs 0 0 (zQt g xE 125 below args s 2 r) (F0 m 0 ls []) := by
  have hx := E.1.1
  have hb := E.1.2.1
  unfold f_X10_dry at h
  refine lv_aload_n hx hb dX10_dry_0 rfl (lv_at hl 0 rfl) ?_
  refine lv_iload_n hx hb dX10_dry_1 rfl (lv_at hl 1 rfl) ?_
  obtain ⟨u_1, qu_1, h⟩ := zbt_some h
  refine zctv (zrunVt E X hZ (xb_X10 xs_0) ((xe_X10 xs_0) _) rfl rfl v_X10_needPlace kw_844 (c_X10_needPlace l X.1 g M  x1 qu_1 _) rfl hl.1 rfl (Nat.le_of_ble_eq_true rfl) ⟨by decide, by decide⟩ ⟨by decide, by decide⟩ dX10_dry_2) X hZ h (by decide) (by decide) (fun M_2 H locs eM_2 h hZ => ?_)
  refine W.widen (k := 1) (n := 6) (by decide) (by decide) ?_
  refine lv_aload_n hx hb dX10_dry_5 rfl (lv_at hl 0 rfl) ?_
  refine lv_iload_n hx hb dX10_dry_6 rfl (lv_at hl 2 rfl) ?_
  refine lv_iconst (v := 0) hx hb dX10_dry_7 (by decide) ?_
  refine lv_sipush (v := 400) hx hb dX10_dry_8 (by decide) ?_
  obtain ⟨u_3, qu_3, h⟩ := zbt_some h
  refine zctv (zrunVt E X hZ (xb_X10 xs_0) ((xe_X10 xs_0) _) rfl rfl v_X10_needWithin kw_917 (c_X10_needWithin l X.1 g M_2  x2 0 400 qu_3 _) rfl hl.1 rfl (Nat.le_of_ble_eq_true rfl) ⟨by decide, by decide⟩ ⟨by decide, by decide⟩ dX10_dry_11) X hZ h (by decide) (by decide) (fun M_4 H locs eM_4 h hZ => ?_)
  refine W.widen (k := 2) (n := 12) (by decide) (by decide) ?_
  refine lv_aload_n hx hb dX10_dry_14 rfl (lv_at hl 0 rfl) ?_
  refine lv_iconst (v := 1) hx hb dX10_dry_15 (by decide) ?_
  refine lv_iload_n hx hb dX10_dry_16 rfl (lv_at hl 1 rfl) ?_
  refine lv_ishl hx hb dX10_dry_17 ?_
  refine lv_iconst (v := 0) hx hb dX10_dry_18 (by decide) ?_
  refine lv_iload_n hx hb dX10_dry_19 rfl (lv_at hl 2 rfl) ?_
  obtain ⟨u_5, qu_5, h⟩ := zbn_some h
  refine zciS (zrunV E hZ (xb_X10 xs_0) ((xe_X10 xs_0) _) rfl rfl v_X10_hoursNoDeeper kw_1090 (c_X10_hoursNoDeeper l g M_4  ((1 : Int32) <<< (x1 &&& 31)) 0 x2 qu_5 _) rfl hl.1 rfl (Nat.le_of_ble_eq_true rfl) ⟨by decide, by decide⟩ ⟨by decide, by decide⟩ dX10_dry_20) hZ (fun H locs hZ => ?_)
  exact hret _ _ _ _ _ _ _ _ h rfl hZ dX10_dry_23 (by decide) (by decide)
theorem c_X10_dry (l : Launch) (hst : l.stackTraces = false) (g : zG) (M : zM)  (x1 : Int32) (x2 : Int32) {r : zT1} (h : f_X10_dry M x1 x2 = some r) : zMt l g xE 125 yX10_dry (zWs yX10_dry cX10_dry 3 (some .int)) 9 2 [.ref (g.2.2 0), .int x1, .int x2] M r :=
  zMt_of hst (by decide +kernel) (Nat.le_of_ble_eq_true rfl) (fun p e s m args below meth c ls E X hret hZ hl => w_X10_dry g  E X hret M x1 x2 _ _ ls h hZ hl)
theorem v_X10_dry : zYV yX10_dry cX10_dry 3 (some .int) 2 := ⟨kw_1089, kw_1, kw_1087, kw_1088, by decide +kernel⟩

def b_X10_highest_49 (K13 : Int32 → Int32 → Option (zT1)) (M : zM) (x1 : Int32) (x2 : Int32) (x3 : Int32) : Option (zT1) :=
  znm (x3 + 1) (fun x3_1 => K13 x2 x3_1)
set_option maxRecDepth 100000 in
set_option maxHeartbeats 4000000 in
theorem lb_X10_highest_49 (g : zG)  {r : zT1} (E : zX g p m c cX10_highest 4 s args (zWs yX10_highest cX10_highest 4 (some .int)) RX10) (X : zXt g 125 l s c meth) (hret : zRti g xE 125 p l e (zrm 9 1 (6 * 1)) s m args below meth c 1 cX10_highest .int r) (M : zM) (x1 : Int32) (x2 : Int32) (x3 : Int32) (K13 : Int32 → Int32 → Option (zT1)) (hK13 : ∀ (x2 : Int32) (x3 : Int32) (H : Heap) (locs : List Loc) (ls : Array Slot), K13 x2 x3 = some r → zS g xE 125 s H locs M → lv_has ls 4 [(0, .ref (g.2.2 0)), (1, .int x1), (2, .int x2), (3, .int x3)] → W p l e (zrm 9 1 (6 * 1)) s m args below meth c H locs 1 6 (zQt g xE 125 below args s 1 r) (F0 m 13 ls [])) (H : Heap) (locs : List Loc) (ls : Array Slot) (h : b_X10_highest_49 K13 M x1 x2 x3 = some r) (hZ : zS g xE 125 s H locs M) (hl : lv_has ls 4 [(0, .ref (g.2.2 0)), (1, .int x1), (2, .int x2), (3, .int x3)]) : W p l e (zrm 9 1 (6 * 1)) s m args below meth c H locs 1 6 (zQt g xE 125 below args s 1 r) (F0 m 49 ls []) := by
  have hx := E.1.1
  have hb := E.1.2.1
  unfold b_X10_highest_49 at h
  obtain ⟨x3_1, ex3_1, h⟩ := znm_ex h
  refine lv_iinc (v := x3_1) (lv' := [(3, .int x3_1), (0, .ref (g.2.2 0)), (1, .int x1), (2, .int x2)]) hx hb dX10_highest_49 hl (k := 3) rfl (by rw [ex3_1]; rfl) (by decide) rfl (fun ls hl => ?_)
  refine lv_goto (tgt := 13) hx hb dX10_highest_52 (by decide) ?_
  exact hK13 x2 x3_1 H locs ls h hZ (lv_sub hl [1, 2, 3, 0] rfl)
def b_X10_highest_13  (M : zM) (x1 : Int32) : Nat → Int32 → Int32 → Option (zT1)
  | 0, _, _ => none
  | n + 1, x2, x3 =>
    if (M 3 6) ≤ x3 then (some (M, .inr x2)) else (zbn (f_X9_rangeOf M 3 (x1 + x3)) (fun u_2 => zbn (f_X9_rangeOf M 3 x2) (fun u_3 => if u_2 ≤ u_3 then (b_X10_highest_49 (fun x2 x3 => b_X10_highest_13  M x1 n x2 x3) M x1 x2 x3) else (znm (x1 + x3) (fun x2_4 => b_X10_highest_49 (fun x2 x3 => b_X10_highest_13  M x1 n x2 x3) M x1 x2_4 x3)))))
set_option maxRecDepth 100000 in
set_option maxHeartbeats 4000000 in
theorem lb_X10_highest_13 (g : zG)  {r : zT1} (E : zX g p m c cX10_highest 4 s args (zWs yX10_highest cX10_highest 4 (some .int)) RX10) (X : zXt g 125 l s c meth) (hret : zRti g xE 125 p l e (zrm 9 1 (6 * 1)) s m args below meth c 1 cX10_highest .int r) (M : zM) (x1 : Int32)  : ∀ (n : Nat) (x2 : Int32) (x3 : Int32) (H : Heap) (locs : List Loc) (ls : Array Slot), b_X10_highest_13  M x1 n x2 x3 = some r → zS g xE 125 s H locs M → lv_has ls 4 [(0, .ref (g.2.2 0)), (1, .int x1), (2, .int x2), (3, .int x3)] → W p l e (zrm 9 1 (6 * 1)) s m args below meth c H locs 1 6 (zQt g xE 125 below args s 1 r) (F0 m 13 ls []) := by
  have hx := E.1.1
  have hb := E.1.2.1
  intro n
  induction n with
  | zero => intro x2 x3 H locs ls h hZ hl; cases h
  | succ n ih =>
    intro x2 x3 H locs ls h hZ hl
    rw [b_X10_highest_13] at h
    refine lv_iload_n hx hb dX10_highest_13 rfl (lv_at hl 3 rfl) ?_
    refine lv_aload_n hx hb dX10_highest_14 rfl (lv_at hl 0 rfl) ?_
    refine zg (v := .ref (g.2.2 3)) E hZ (xb_X10 xs_0) ((xe_X10 xs_0) _) kc_X10 1 (by decide) kw_353 rfl rfl dX10_highest_15 ?_
    refine zg (v := .int (M 3 6)) E hZ (xb_X9 xs_3) ((xe_X9 xs_3) _) kc_X9 6 (by decide) kw_83 rfl rfl dX10_highest_18 ?_
    refine zic_ge (tgt := 55) h E dX10_highest_21 (by decide) (fun c_6 h => ?_) (fun c_6 h => ?_)
    · refine lv_iload_n hx hb dX10_highest_55 rfl (lv_at hl 2 rfl) ?_
      exact hret _ _ _ _ _ _ _ _ h rfl hZ dX10_highest_56 (by decide) (by decide)
    · refine lv_aload_n hx hb dX10_highest_24 rfl (lv_at hl 0 rfl) ?_
      refine zg (v := .ref (g.2.2 3)) E hZ (xb_X10 xs_0) ((xe_X10 xs_0) _) kc_X10 1 (by decide) kw_353 rfl rfl dX10_highest_25 ?_
      refine lv_iload_n hx hb dX10_highest_28 rfl (lv_at hl 1 rfl) ?_
      refine lv_iload_n hx hb dX10_highest_29 rfl (lv_at hl 3 rfl) ?_
      refine lv_iadd hx hb dX10_highest_30 ?_
      obtain ⟨u_2, qu_2, h⟩ := zbn_some h
      refine zciR (zrunV E hZ (xb_X9 xs_3) ((xe_X9 xs_3) _) rfl rfl v_X9_rangeOf kw_432 (c_X9_rangeOf l g M 3 xs_3 (x1 + x3) qu_2 _) rfl hl.1 rfl (Nat.le_of_ble_eq_true rfl) ⟨by decide, by decide⟩ ⟨by decide, by decide⟩ dX10_highest_31) hZ (fun H locs hZ => ?_)
      refine lv_aload_n hx hb dX10_highest_34 rfl (lv_at hl 0 rfl) ?_
      refine zg (v := .ref (g.2.2 3)) E hZ (xb_X10 xs_0) ((xe_X10 xs_0) _) kc_X10 1 (by decide) kw_353 rfl rfl dX10_highest_35 ?_
      refine lv_iload_n hx hb dX10_highest_38 rfl (lv_at hl 2 rfl) ?_
      obtain ⟨u_3, qu_3, h⟩ := zbn_some h
      refine zciR (zrunV E hZ (xb_X9 xs_3) ((xe_X9 xs_3) _) rfl rfl v_X9_rangeOf kw_432 (c_X9_rangeOf l g M 3 xs_3 x2 qu_3 _) rfl hl.1 rfl (Nat.le_of_ble_eq_true rfl) ⟨by decide, by decide⟩ ⟨by decide, by decide⟩ dX10_highest_39) hZ (fun H locs hZ => ?_)
      refine zic_le (tgt := 49) h E dX10_highest_42 (by decide) (fun c_5 h => ?_) (fun c_5 h => ?_)
      · exact lb_X10_highest_49 g  E X hret M x1 x2 x3 (fun x2 x3 => b_X10_highest_13  M x1 n x2 x3) ih H locs ls h hZ (lv_sub hl [0, 1, 2, 3] rfl)
      · refine lv_iload_n hx hb dX10_highest_45 rfl (lv_at hl 1 rfl) ?_
        refine lv_iload_n hx hb dX10_highest_46 rfl (lv_at hl 3 rfl) ?_
        refine lv_iadd hx hb dX10_highest_47 ?_
        refine zni h (fun x2_4 ex2_4 h => ?_)
        refine lv_istore_n (lv' := [(2, .int x2_4), (0, .ref (g.2.2 0)), (1, .int x1), (3, .int x3)]) hx hb dX10_highest_48 rfl hl (by decide) rfl (fun ls hl => ?_)
        exact lb_X10_highest_49 g  E X hret M x1 x2_4 x3 (fun x2 x3 => b_X10_highest_13  M x1 n x2 x3) ih H locs ls h hZ (lv_sub hl [1, 2, 0, 3] rfl)
def f_X10_highest (M : zM) (x1 : Int32) : Option (zT1) :=
  zbt (f_X10_needWithin M x1 0 400) (fun M_8 _ => b_X10_highest_13  M_8 x1 6000 x1 1)
set_option maxRecDepth 100000 in
set_option maxHeartbeats 4000000 in
theorem w_X10_highest (g : zG)  {r : zT1} (E : zX g p m c cX10_highest 4 s args (zWs yX10_highest cX10_highest 4 (some .int)) RX10) (X : zXt g 125 l s c meth) (hret : zRti g xE 125 p l e (zrm 9 1 (6 * 1)) s m args below meth c 1 cX10_highest .int r) (M : zM) (x1 : Int32) (H : Heap) (locs : List Loc) (ls : Array Slot) (h : f_X10_highest M x1 = some r) (hZ : zS g xE 125 s H locs M) (hl : lv_has ls 4 [(0, .ref (g.2.2 0)), (1, .int x1)]) : W p l e (zrm 9 1 (6 * 1)) s m args below meth c H locs 0 0 (zQt g xE 125 below args s 1 r) (F0 m 0 ls []) := by
  have hx := E.1.1
  have hb := E.1.2.1
  unfold f_X10_highest at h
  refine lv_aload_n hx hb dX10_highest_0 rfl (lv_at hl 0 rfl) ?_
  refine lv_iload_n hx hb dX10_highest_1 rfl (lv_at hl 1 rfl) ?_
  refine lv_iconst (v := 0) hx hb dX10_highest_2 (by decide) ?_
  refine lv_sipush (v := 400) hx hb dX10_highest_3 (by decide) ?_
  obtain ⟨u_7, qu_7, h⟩ := zbt_some h
  refine zctv (zrunVt E X hZ (xb_X10 xs_0) ((xe_X10 xs_0) _) rfl rfl v_X10_needWithin kw_917 (c_X10_needWithin l X.1 g M  x1 0 400 qu_7 _) rfl hl.1 rfl (Nat.le_of_ble_eq_true rfl) ⟨by decide, by decide⟩ ⟨by decide, by decide⟩ dX10_highest_6) X hZ h (by decide) (by decide) (fun M_8 H locs eM_8 h hZ => ?_)
  refine W.widen (k := 1) (n := 6) (by decide) (by decide) ?_
  refine lv_iload_n hx hb dX10_highest_9 rfl (lv_at hl 1 rfl) ?_
  refine lv_istore_n (lv' := [(2, .int x1), (0, .ref (g.2.2 0)), (1, .int x1)]) hx hb dX10_highest_10 rfl hl (by decide) rfl (fun ls hl => ?_)
  refine lv_iconst (v := 1) hx hb dX10_highest_11 (by decide) ?_
  refine lv_istore_n (lv' := [(3, .int 1), (2, .int x1), (0, .ref (g.2.2 0)), (1, .int x1)]) hx hb dX10_highest_12 rfl hl (by decide) rfl (fun ls hl => ?_)
  exact lb_X10_highest_13 g  E X hret M_8 x1  6000 x1 1 H locs ls h hZ (lv_sub hl [2, 3, 1, 0] rfl)
theorem c_X10_highest (l : Launch) (hst : l.stackTraces = false) (g : zG) (M : zM)  (x1 : Int32) {r : zT1} (h : f_X10_highest M x1 = some r) : zMt l g xE 125 yX10_highest (zWs yX10_highest cX10_highest 4 (some .int)) 9 1 [.ref (g.2.2 0), .int x1] M r :=
  zMt_of hst (by decide +kernel) (Nat.le_of_ble_eq_true rfl) (fun p e s m args below meth c ls E X hret hZ hl => w_X10_highest g  E X hret M x1 _ _ ls h hZ hl)
theorem v_X10_highest : zYV yX10_highest cX10_highest 4 (some .int) 1 := ⟨kw_1112, kw_1, kw_1110, kw_1111, by decide +kernel⟩

def f_X10_way (M : zM) (x1 : Int32) (x2 : Int32) (x3 : Int32) (x4 : Int32) (x5 : Int32) : Option (zT1) :=
  zbt (f_X10_needPlace M x1) (fun M_2 _ => zbt (f_X10_needPlace M_2 x2) (fun M_4 _ => zbt (f_X10_needWithin M_4 x3 1 4) (fun M_6 _ => zbt (f_X10_needWithin M_6 x4 0 9) (fun M_8 _ => zbt (f_X10_needWithin M_8 x5 0 9999) (fun M_10 _ => zbn (f_X8_look M_10 3) (fun u_11 => zbn (f_X8_fewestHours u_11 3 x1 x2 x3 x4 x5) (fun u_12 => some (u_11, .inr u_12))))))))
set_option maxRecDepth 100000 in
set_option maxHeartbeats 4000000 in
theorem w_X10_way (g : zG)  {r : zT1} (E : zX g p m c cX10_way 6 s args (zWs yX10_way cX10_way 6 (some .int)) RX10) (X : zXt g 125 l s c meth) (hret : zRti g xE 125 p l e (zrm 9 5 (6 * 5)) s m args below meth c 5 cX10_way .int r) (M : zM) (x1 : Int32) (x2 : Int32) (x3 : Int32) (x4 : Int32) (x5 : Int32) (H : Heap) (locs : List Loc) (ls : Array Slot) (h : f_X10_way M x1 x2 x3 x4 x5 = some r) (hZ : zS g xE 125 s H locs M) (hl : lv_has ls 6 [(0, .ref (g.2.2 0)), (1, .int x1), (2, .int x2), (3, .int x3), (4, .int x4), (5, .int x5)]) : W p l e (zrm 9 5 (6 * 5)) s m args below meth c H locs 0 0 (zQt g xE 125 below args s 5 r) (F0 m 0 ls []) := by
  have hx := E.1.1
  have hb := E.1.2.1
  unfold f_X10_way at h
  refine lv_aload_n hx hb dX10_way_0 rfl (lv_at hl 0 rfl) ?_
  refine lv_iload_n hx hb dX10_way_1 rfl (lv_at hl 1 rfl) ?_
  obtain ⟨u_1, qu_1, h⟩ := zbt_some h
  refine zctv (zrunVt E X hZ (xb_X10 xs_0) ((xe_X10 xs_0) _) rfl rfl v_X10_needPlace kw_844 (c_X10_needPlace l X.1 g M  x1 qu_1 _) rfl hl.1 rfl (Nat.le_of_ble_eq_true rfl) ⟨by decide, by decide⟩ ⟨by decide, by decide⟩ dX10_way_2) X hZ h (by decide) (by decide) (fun M_2 H locs eM_2 h hZ => ?_)
  refine W.widen (k := 1) (n := 6) (by decide) (by decide) ?_
  refine lv_aload_n hx hb dX10_way_5 rfl (lv_at hl 0 rfl) ?_
  refine lv_iload_n hx hb dX10_way_6 rfl (lv_at hl 2 rfl) ?_
  obtain ⟨u_3, qu_3, h⟩ := zbt_some h
  refine zctv (zrunVt E X hZ (xb_X10 xs_0) ((xe_X10 xs_0) _) rfl rfl v_X10_needPlace kw_844 (c_X10_needPlace l X.1 g M_2  x2 qu_3 _) rfl hl.1 rfl (Nat.le_of_ble_eq_true rfl) ⟨by decide, by decide⟩ ⟨by decide, by decide⟩ dX10_way_7) X hZ h (by decide) (by decide) (fun M_4 H locs eM_4 h hZ => ?_)
  refine W.widen (k := 2) (n := 12) (by decide) (by decide) ?_
  refine lv_aload_n hx hb dX10_way_10 rfl (lv_at hl 0 rfl) ?_
  refine lv_iload_n hx hb dX10_way_11 rfl (lv_at hl 3 rfl) ?_
  refine lv_iconst (v := 1) hx hb dX10_way_12 (by decide) ?_
  refine lv_iconst (v := 4) hx hb dX10_way_13 (by decide) ?_
  obtain ⟨u_5, qu_5, h⟩ := zbt_some h
  refine zctv (zrunVt E X hZ (xb_X10 xs_0) ((xe_X10 xs_0) _) rfl rfl v_X10_needWithin kw_917 (c_X10_needWithin l X.1 g M_4  x3 1 4 qu_5 _) rfl hl.1 rfl (Nat.le_of_ble_eq_true rfl) ⟨by decide, by decide⟩ ⟨by decide, by decide⟩ dX10_way_14) X hZ h (by decide) (by decide) (fun M_6 H locs eM_6 h hZ => ?_)
  refine W.widen (k := 3) (n := 18) (by decide) (by decide) ?_
  refine lv_aload_n hx hb dX10_way_17 rfl (lv_at hl 0 rfl) ?_
  refine lv_iload hx hb dX10_way_18 (lv_at hl 4 rfl) ?_
  refine lv_iconst (v := 0) hx hb dX10_way_20 (by decide) ?_
  refine lv_bipush (v := 9) hx hb dX10_way_21 (by decide) ?_
  obtain ⟨u_7, qu_7, h⟩ := zbt_some h
  refine zctv (zrunVt E X hZ (xb_X10 xs_0) ((xe_X10 xs_0) _) rfl rfl v_X10_needWithin kw_917 (c_X10_needWithin l X.1 g M_6  x4 0 9 qu_7 _) rfl hl.1 rfl (Nat.le_of_ble_eq_true rfl) ⟨by decide, by decide⟩ ⟨by decide, by decide⟩ dX10_way_23) X hZ h (by decide) (by decide) (fun M_8 H locs eM_8 h hZ => ?_)
  refine W.widen (k := 4) (n := 24) (by decide) (by decide) ?_
  refine lv_aload_n hx hb dX10_way_26 rfl (lv_at hl 0 rfl) ?_
  refine lv_iload hx hb dX10_way_27 (lv_at hl 5 rfl) ?_
  refine lv_iconst (v := 0) hx hb dX10_way_29 (by decide) ?_
  refine lv_sipush (v := 9999) hx hb dX10_way_30 (by decide) ?_
  obtain ⟨u_9, qu_9, h⟩ := zbt_some h
  refine zctv (zrunVt E X hZ (xb_X10 xs_0) ((xe_X10 xs_0) _) rfl rfl v_X10_needWithin kw_917 (c_X10_needWithin l X.1 g M_8  x5 0 9999 qu_9 _) rfl hl.1 rfl (Nat.le_of_ble_eq_true rfl) ⟨by decide, by decide⟩ ⟨by decide, by decide⟩ dX10_way_33) X hZ h (by decide) (by decide) (fun M_10 H locs eM_10 h hZ => ?_)
  refine W.widen (k := 5) (n := 30) (by decide) (by decide) ?_
  refine lv_aload_n hx hb dX10_way_36 rfl (lv_at hl 0 rfl) ?_
  refine zg (v := .ref (g.2.2 43)) E hZ (xb_X10 xs_0) ((xe_X10 xs_0) _) kc_X10 10 (by decide) kw_362 rfl rfl dX10_way_37 ?_
  refine lv_aload_n hx hb dX10_way_40 rfl (lv_at hl 0 rfl) ?_
  refine zg (v := .ref (g.2.2 3)) E hZ (xb_X10 xs_0) ((xe_X10 xs_0) _) kc_X10 1 (by decide) kw_353 rfl rfl dX10_way_41 ?_
  obtain ⟨u_11, qu_11, h⟩ := zbn_some h
  refine zcvS (zrunV E hZ (xb_X8 xs_43) ((xe_X8 xs_43) _) rfl rfl v_X8_look kw_1094 (c_X8_look l g M_10 3 xs_3  qu_11 _) rfl hl.1 rfl (Nat.le_of_ble_eq_true rfl) ⟨by decide, by decide⟩ ⟨by decide, by decide⟩ dX10_way_44) hZ (fun H locs hZ => ?_)
  refine lv_aload_n hx hb dX10_way_47 rfl (lv_at hl 0 rfl) ?_
  refine zg (v := .ref (g.2.2 43)) E hZ (xb_X10 xs_0) ((xe_X10 xs_0) _) kc_X10 10 (by decide) kw_362 rfl rfl dX10_way_48 ?_
  refine lv_aload_n hx hb dX10_way_51 rfl (lv_at hl 0 rfl) ?_
  refine zg (v := .ref (g.2.2 3)) E hZ (xb_X10 xs_0) ((xe_X10 xs_0) _) kc_X10 1 (by decide) kw_353 rfl rfl dX10_way_52 ?_
  refine lv_iload_n hx hb dX10_way_55 rfl (lv_at hl 1 rfl) ?_
  refine lv_iload_n hx hb dX10_way_56 rfl (lv_at hl 2 rfl) ?_
  refine lv_iload_n hx hb dX10_way_57 rfl (lv_at hl 3 rfl) ?_
  refine lv_iload hx hb dX10_way_58 (lv_at hl 4 rfl) ?_
  refine lv_iload hx hb dX10_way_60 (lv_at hl 5 rfl) ?_
  obtain ⟨u_12, qu_12, h⟩ := zbn_some h
  refine zciR (zrunV E hZ (xb_X8 xs_43) ((xe_X8 xs_43) _) rfl rfl v_X8_fewestHours kw_1120 (c_X8_fewestHours l g u_11 3 xs_3 x1 x2 x3 x4 x5 qu_12 _) rfl hl.1 rfl (Nat.le_of_ble_eq_true rfl) ⟨by decide, by decide⟩ ⟨by decide, by decide⟩ dX10_way_62) hZ (fun H locs hZ => ?_)
  exact hret _ _ _ _ _ _ _ _ h rfl hZ dX10_way_65 (by decide) (by decide)
theorem c_X10_way (l : Launch) (hst : l.stackTraces = false) (g : zG) (M : zM)  (x1 : Int32) (x2 : Int32) (x3 : Int32) (x4 : Int32) (x5 : Int32) {r : zT1} (h : f_X10_way M x1 x2 x3 x4 x5 = some r) : zMt l g xE 125 yX10_way (zWs yX10_way cX10_way 6 (some .int)) 9 5 [.ref (g.2.2 0), .int x1, .int x2, .int x3, .int x4, .int x5] M r :=
  zMt_of hst (by decide +kernel) (Nat.le_of_ble_eq_true rfl) (fun p e s m args below meth c ls E X hret hZ hl => w_X10_way g  E X hret M x1 x2 x3 x4 x5 _ _ ls h hZ hl)
theorem v_X10_way : zYV yX10_way cX10_way 6 (some .int) 5 := ⟨kw_1119, kw_1, kw_1117, kw_1118, by decide +kernel⟩

def b_X10_start_58  (M : zM) (x1 : Int32) (x2 : Int32) (x3 : Int32) (x4 : Int32) (x5 : Int32) : Nat → Int32 → Option (zT1)
  | 0, _ => none
  | n + 1, x6 =>
    if x6 < 0 then (some (M, .inr ((-1)))) else (znm ((x5 * (M 3 5)) + x6) (fun x7_1 => zbn (f_X8_fewestHours M 3 x1 x2 x3 x4 x7_1) (fun u_2 => if u_2 = ((-1)) then (znm (x6 + (-1)) (fun x6_3 => b_X10_start_58  M x1 x2 x3 x4 x5 n x6_3)) else (some (M, .inr x7_1)))))
set_option maxRecDepth 100000 in
set_option maxHeartbeats 4000000 in
theorem lb_X10_start_58 (g : zG)  {r : zT1} (E : zX g p m c cX10_start 8 s args (zWs yX10_start cX10_start 8 (some .int)) RX10) (X : zXt g 125 l s c meth) (hret : zRti g xE 125 p l e (zrm 9 5 (6 * 5)) s m args below meth c 5 cX10_start .int r) (M : zM) (x1 : Int32) (x2 : Int32) (x3 : Int32) (x4 : Int32) (x5 : Int32)  : ∀ (n : Nat) (x6 : Int32) (H : Heap) (locs : List Loc) (ls : Array Slot), b_X10_start_58  M x1 x2 x3 x4 x5 n x6 = some r → zS g xE 125 s H locs M → lv_has ls 8 [(0, .ref (g.2.2 0)), (1, .int x1), (2, .int x2), (3, .int x3), (4, .int x4), (5, .int x5), (6, .int x6)] → W p l e (zrm 9 5 (6 * 5)) s m args below meth c H locs 5 30 (zQt g xE 125 below args s 5 r) (F0 m 58 ls []) := by
  have hx := E.1.1
  have hb := E.1.2.1
  intro n
  induction n with
  | zero => intro x6 H locs ls h hZ hl; cases h
  | succ n ih =>
    intro x6 H locs ls h hZ hl
    rw [b_X10_start_58] at h
    refine lv_iload hx hb dX10_start_58 (lv_at hl 6 rfl) ?_
    refine zif_lt (tgt := 109) h E dX10_start_60 (by decide) (fun c_5 h => ?_) (fun c_5 h => ?_)
    · refine lv_iconst (v := (-1)) hx hb dX10_start_109 (by decide) ?_
      exact hret _ _ _ _ _ _ _ _ h rfl hZ dX10_start_110 (by decide) (by decide)
    · refine lv_iload hx hb dX10_start_63 (lv_at hl 5 rfl) ?_
      refine lv_aload_n hx hb dX10_start_65 rfl (lv_at hl 0 rfl) ?_
      refine zg (v := .ref (g.2.2 3)) E hZ (xb_X10 xs_0) ((xe_X10 xs_0) _) kc_X10 1 (by decide) kw_353 rfl rfl dX10_start_66 ?_
      refine zg (v := .int (M 3 5)) E hZ (xb_X9 xs_3) ((xe_X9 xs_3) _) kc_X9 5 (by decide) kw_80 rfl rfl dX10_start_69 ?_
      refine lv_imul hx hb dX10_start_72 ?_
      refine lv_iload hx hb dX10_start_73 (lv_at hl 6 rfl) ?_
      refine lv_iadd hx hb dX10_start_75 ?_
      refine zni h (fun x7_1 ex7_1 h => ?_)
      refine lv_istore (lv' := [(7, .int x7_1), (0, .ref (g.2.2 0)), (1, .int x1), (2, .int x2), (3, .int x3), (4, .int x4), (5, .int x5), (6, .int x6)]) hx hb dX10_start_76 hl (by decide) rfl (fun ls hl => ?_)
      refine lv_aload_n hx hb dX10_start_78 rfl (lv_at hl 1 rfl) ?_
      refine zg (v := .ref (g.2.2 43)) E hZ (xb_X10 xs_0) ((xe_X10 xs_0) _) kc_X10 10 (by decide) kw_362 rfl rfl dX10_start_79 ?_
      refine lv_aload_n hx hb dX10_start_82 rfl (lv_at hl 1 rfl) ?_
      refine zg (v := .ref (g.2.2 3)) E hZ (xb_X10 xs_0) ((xe_X10 xs_0) _) kc_X10 1 (by decide) kw_353 rfl rfl dX10_start_83 ?_
      refine lv_iload_n hx hb dX10_start_86 rfl (lv_at hl 2 rfl) ?_
      refine lv_iload_n hx hb dX10_start_87 rfl (lv_at hl 3 rfl) ?_
      refine lv_iload_n hx hb dX10_start_88 rfl (lv_at hl 4 rfl) ?_
      refine lv_iload hx hb dX10_start_89 (lv_at hl 5 rfl) ?_
      refine lv_iload hx hb dX10_start_91 (lv_at hl 0 rfl) ?_
      obtain ⟨u_2, qu_2, h⟩ := zbn_some h
      refine zciR (zrunV E hZ (xb_X8 xs_43) ((xe_X8 xs_43) _) rfl rfl v_X8_fewestHours kw_1120 (c_X8_fewestHours l g M 3 xs_3 x1 x2 x3 x4 x7_1 qu_2 _) rfl hl.1 rfl (Nat.le_of_ble_eq_true rfl) ⟨by decide, by decide⟩ ⟨by decide, by decide⟩ dX10_start_93) hZ (fun H locs hZ => ?_)
      refine lv_iconst (v := (-1)) hx hb dX10_start_96 (by decide) ?_
      refine zic_eq (tgt := 103) h E dX10_start_97 (by decide) (fun c_4 h => ?_) (fun c_4 h => ?_)
      · obtain ⟨x6_3, ex6_3, h⟩ := znm_ex h
        refine lv_iinc (v := x6_3) (lv' := [(6, .int x6_3), (7, .int x7_1), (0, .ref (g.2.2 0)), (1, .int x1), (2, .int x2), (3, .int x3), (4, .int x4), (5, .int x5)]) hx hb dX10_start_103 hl (k := 7) rfl (by rw [ex6_3]; rfl) (by decide) rfl (fun ls hl => ?_)
        refine lv_goto (tgt := 58) hx hb dX10_start_106 (by decide) ?_
        exact ih x6_3 H locs ls h hZ (lv_sub hl [2, 3, 4, 5, 6, 7, 0] rfl)
      · refine lv_iload hx hb dX10_start_100 (lv_at hl 0 rfl) ?_
        exact hret _ _ _ _ _ _ _ _ h rfl hZ dX10_start_102 (by decide) (by decide)
def f_X10_start (M : zM) (x1 : Int32) (x2 : Int32) (x3 : Int32) (x4 : Int32) (x5 : Int32) : Option (zT1) :=
  zbt (f_X10_needPlace M x1) (fun M_7 _ => zbt (f_X10_needPlace M_7 x2) (fun M_9 _ => zbt (f_X10_needWithin M_9 x3 1 4) (fun M_11 _ => zbt (f_X10_needWithin M_11 x4 0 9) (fun M_13 _ => zbt (f_X10_needWithin M_13 x5 0 400) (fun M_15 _ => zbn (f_X8_look M_15 3) (fun u_16 => znm ((u_16 3 5) - 1) (fun x6_17 => b_X10_start_58  u_16 x1 x2 x3 x4 x5 6000 x6_17)))))))
set_option maxRecDepth 100000 in
set_option maxHeartbeats 4000000 in
theorem w_X10_start (g : zG)  {r : zT1} (E : zX g p m c cX10_start 8 s args (zWs yX10_start cX10_start 8 (some .int)) RX10) (X : zXt g 125 l s c meth) (hret : zRti g xE 125 p l e (zrm 9 5 (6 * 5)) s m args below meth c 5 cX10_start .int r) (M : zM) (x1 : Int32) (x2 : Int32) (x3 : Int32) (x4 : Int32) (x5 : Int32) (H : Heap) (locs : List Loc) (ls : Array Slot) (h : f_X10_start M x1 x2 x3 x4 x5 = some r) (hZ : zS g xE 125 s H locs M) (hl : lv_has ls 8 [(0, .ref (g.2.2 0)), (1, .int x1), (2, .int x2), (3, .int x3), (4, .int x4), (5, .int x5)]) : W p l e (zrm 9 5 (6 * 5)) s m args below meth c H locs 0 0 (zQt g xE 125 below args s 5 r) (F0 m 0 ls []) := by
  have hx := E.1.1
  have hb := E.1.2.1
  unfold f_X10_start at h
  refine lv_aload_n hx hb dX10_start_0 rfl (lv_at hl 0 rfl) ?_
  refine lv_iload_n hx hb dX10_start_1 rfl (lv_at hl 1 rfl) ?_
  obtain ⟨u_6, qu_6, h⟩ := zbt_some h
  refine zctv (zrunVt E X hZ (xb_X10 xs_0) ((xe_X10 xs_0) _) rfl rfl v_X10_needPlace kw_844 (c_X10_needPlace l X.1 g M  x1 qu_6 _) rfl hl.1 rfl (Nat.le_of_ble_eq_true rfl) ⟨by decide, by decide⟩ ⟨by decide, by decide⟩ dX10_start_2) X hZ h (by decide) (by decide) (fun M_7 H locs eM_7 h hZ => ?_)
  refine W.widen (k := 1) (n := 6) (by decide) (by decide) ?_
  refine lv_aload_n hx hb dX10_start_5 rfl (lv_at hl 0 rfl) ?_
  refine lv_iload_n hx hb dX10_start_6 rfl (lv_at hl 2 rfl) ?_
  obtain ⟨u_8, qu_8, h⟩ := zbt_some h
  refine zctv (zrunVt E X hZ (xb_X10 xs_0) ((xe_X10 xs_0) _) rfl rfl v_X10_needPlace kw_844 (c_X10_needPlace l X.1 g M_7  x2 qu_8 _) rfl hl.1 rfl (Nat.le_of_ble_eq_true rfl) ⟨by decide, by decide⟩ ⟨by decide, by decide⟩ dX10_start_7) X hZ h (by decide) (by decide) (fun M_9 H locs eM_9 h hZ => ?_)
  refine W.widen (k := 2) (n := 12) (by decide) (by decide) ?_
  refine lv_aload_n hx hb dX10_start_10 rfl (lv_at hl 0 rfl) ?_
  refine lv_iload_n hx hb dX10_start_11 rfl (lv_at hl 3 rfl) ?_
  refine lv_iconst (v := 1) hx hb dX10_start_12 (by decide) ?_
  refine lv_iconst (v := 4) hx hb dX10_start_13 (by decide) ?_
  obtain ⟨u_10, qu_10, h⟩ := zbt_some h
  refine zctv (zrunVt E X hZ (xb_X10 xs_0) ((xe_X10 xs_0) _) rfl rfl v_X10_needWithin kw_917 (c_X10_needWithin l X.1 g M_9  x3 1 4 qu_10 _) rfl hl.1 rfl (Nat.le_of_ble_eq_true rfl) ⟨by decide, by decide⟩ ⟨by decide, by decide⟩ dX10_start_14) X hZ h (by decide) (by decide) (fun M_11 H locs eM_11 h hZ => ?_)
  refine W.widen (k := 3) (n := 18) (by decide) (by decide) ?_
  refine lv_aload_n hx hb dX10_start_17 rfl (lv_at hl 0 rfl) ?_
  refine lv_iload hx hb dX10_start_18 (lv_at hl 4 rfl) ?_
  refine lv_iconst (v := 0) hx hb dX10_start_20 (by decide) ?_
  refine lv_bipush (v := 9) hx hb dX10_start_21 (by decide) ?_
  obtain ⟨u_12, qu_12, h⟩ := zbt_some h
  refine zctv (zrunVt E X hZ (xb_X10 xs_0) ((xe_X10 xs_0) _) rfl rfl v_X10_needWithin kw_917 (c_X10_needWithin l X.1 g M_11  x4 0 9 qu_12 _) rfl hl.1 rfl (Nat.le_of_ble_eq_true rfl) ⟨by decide, by decide⟩ ⟨by decide, by decide⟩ dX10_start_23) X hZ h (by decide) (by decide) (fun M_13 H locs eM_13 h hZ => ?_)
  refine W.widen (k := 4) (n := 24) (by decide) (by decide) ?_
  refine lv_aload_n hx hb dX10_start_26 rfl (lv_at hl 0 rfl) ?_
  refine lv_iload hx hb dX10_start_27 (lv_at hl 5 rfl) ?_
  refine lv_iconst (v := 0) hx hb dX10_start_29 (by decide) ?_
  refine lv_sipush (v := 400) hx hb dX10_start_30 (by decide) ?_
  obtain ⟨u_14, qu_14, h⟩ := zbt_some h
  refine zctv (zrunVt E X hZ (xb_X10 xs_0) ((xe_X10 xs_0) _) rfl rfl v_X10_needWithin kw_917 (c_X10_needWithin l X.1 g M_13  x5 0 400 qu_14 _) rfl hl.1 rfl (Nat.le_of_ble_eq_true rfl) ⟨by decide, by decide⟩ ⟨by decide, by decide⟩ dX10_start_33) X hZ h (by decide) (by decide) (fun M_15 H locs eM_15 h hZ => ?_)
  refine W.widen (k := 5) (n := 30) (by decide) (by decide) ?_
  refine lv_aload_n hx hb dX10_start_36 rfl (lv_at hl 0 rfl) ?_
  refine zg (v := .ref (g.2.2 43)) E hZ (xb_X10 xs_0) ((xe_X10 xs_0) _) kc_X10 10 (by decide) kw_362 rfl rfl dX10_start_37 ?_
  refine lv_aload_n hx hb dX10_start_40 rfl (lv_at hl 0 rfl) ?_
  refine zg (v := .ref (g.2.2 3)) E hZ (xb_X10 xs_0) ((xe_X10 xs_0) _) kc_X10 1 (by decide) kw_353 rfl rfl dX10_start_41 ?_
  obtain ⟨u_16, qu_16, h⟩ := zbn_some h
  refine zcvS (zrunV E hZ (xb_X8 xs_43) ((xe_X8 xs_43) _) rfl rfl v_X8_look kw_1094 (c_X8_look l g M_15 3 xs_3  qu_16 _) rfl hl.1 rfl (Nat.le_of_ble_eq_true rfl) ⟨by decide, by decide⟩ ⟨by decide, by decide⟩ dX10_start_44) hZ (fun H locs hZ => ?_)
  refine lv_aload_n hx hb dX10_start_47 rfl (lv_at hl 0 rfl) ?_
  refine zg (v := .ref (g.2.2 3)) E hZ (xb_X10 xs_0) ((xe_X10 xs_0) _) kc_X10 1 (by decide) kw_353 rfl rfl dX10_start_48 ?_
  refine zg (v := .int (u_16 3 5)) E hZ (xb_X9 xs_3) ((xe_X9 xs_3) _) kc_X9 5 (by decide) kw_80 rfl rfl dX10_start_51 ?_
  refine lv_iconst (v := 1) hx hb dX10_start_54 (by decide) ?_
  refine lv_isub hx hb dX10_start_55 ?_
  refine zni h (fun x6_17 ex6_17 h => ?_)
  refine lv_istore (lv' := [(6, .int x6_17), (0, .ref (g.2.2 0)), (1, .int x1), (2, .int x2), (3, .int x3), (4, .int x4), (5, .int x5)]) hx hb dX10_start_56 hl (by decide) rfl (fun ls hl => ?_)
  exact lb_X10_start_58 g  E X hret u_16 x1 x2 x3 x4 x5  6000 x6_17 H locs ls h hZ (lv_sub hl [1, 2, 3, 4, 5, 6, 0] rfl)
theorem c_X10_start (l : Launch) (hst : l.stackTraces = false) (g : zG) (M : zM)  (x1 : Int32) (x2 : Int32) (x3 : Int32) (x4 : Int32) (x5 : Int32) {r : zT1} (h : f_X10_start M x1 x2 x3 x4 x5 = some r) : zMt l g xE 125 yX10_start (zWs yX10_start cX10_start 8 (some .int)) 9 5 [.ref (g.2.2 0), .int x1, .int x2, .int x3, .int x4, .int x5] M r :=
  zMt_of hst (by decide +kernel) (Nat.le_of_ble_eq_true rfl) (fun p e s m args below meth c ls E X hret hZ hl => w_X10_start g  E X hret M x1 x2 x3 x4 x5 _ _ ls h hZ hl)
theorem v_X10_start : zYV yX10_start cX10_start 8 (some .int) 5 := ⟨kw_1132, kw_1, kw_1130, kw_1131, by decide +kernel⟩

def f_X10_safe (M : zM) (x1 : Int32) (x2 : Int32) (x3 : Int32) (x4 : Int32) : Option (zT1) :=
  zbt (f_X10_needPlace M x1) (fun M_2 _ => zbt (f_X10_needPlace M_2 x2) (fun M_4 _ => zbt (f_X10_needWithin M_4 x1 0 x2) (fun M_6 _ => zbt (f_X10_needWithin M_6 x3 0 9) (fun M_8 _ => zbt (f_X10_needWithin M_8 x4 0 400) (fun M_10 _ => znm (((2 : Int32) <<< (x2 &&& 31)) - 1) (fun x5_11 => znm (((1 : Int32) <<< (x1 &&& 31)) - 1) (fun x6_12 => zbn (f_X10_hoursNoDeeper M_10 (x5_11 &&& (x6_12 ^^^ ((-1)))) x3 x4) (fun u_13 => some (u_13.2, .inr u_13.1)))))))))
set_option maxRecDepth 100000 in
set_option maxHeartbeats 4000000 in
theorem w_X10_safe (g : zG)  {r : zT1} (E : zX g p m c cX10_safe 7 s args (zWs yX10_safe cX10_safe 7 (some .int)) RX10) (X : zXt g 125 l s c meth) (hret : zRti g xE 125 p l e (zrm 9 5 (6 * 5)) s m args below meth c 5 cX10_safe .int r) (M : zM) (x1 : Int32) (x2 : Int32) (x3 : Int32) (x4 : Int32) (H : Heap) (locs : List Loc) (ls : Array Slot) (h : f_X10_safe M x1 x2 x3 x4 = some r) (hZ : zS g xE 125 s H locs M) (hl : lv_has ls 7 [(0, .ref (g.2.2 0)), (1, .int x1), (2, .int x2), (3, .int x3), (4, .int x4)]) : W p l e (zrm 9 5 (6 * 5)) s m args below meth c H locs 0 0 (zQt g xE 125 below args s 5 r) (F0 m 0 ls []) := by
  have hx := E.1.1
  have hb := E.1.2.1
  unfold f_X10_safe at h
  refine lv_aload_n hx hb dX10_safe_0 rfl (lv_at hl 0 rfl) ?_
  refine lv_iload_n hx hb dX10_safe_1 rfl (lv_at hl 1 rfl) ?_
  obtain ⟨u_1, qu_1, h⟩ := zbt_some h
  refine zctv (zrunVt E X hZ (xb_X10 xs_0) ((xe_X10 xs_0) _) rfl rfl v_X10_needPlace kw_844 (c_X10_needPlace l X.1 g M  x1 qu_1 _) rfl hl.1 rfl (Nat.le_of_ble_eq_true rfl) ⟨by decide, by decide⟩ ⟨by decide, by decide⟩ dX10_safe_2) X hZ h (by decide) (by decide) (fun M_2 H locs eM_2 h hZ => ?_)
  refine W.widen (k := 1) (n := 6) (by decide) (by decide) ?_
  refine lv_aload_n hx hb dX10_safe_5 rfl (lv_at hl 0 rfl) ?_
  refine lv_iload_n hx hb dX10_safe_6 rfl (lv_at hl 2 rfl) ?_
  obtain ⟨u_3, qu_3, h⟩ := zbt_some h
  refine zctv (zrunVt E X hZ (xb_X10 xs_0) ((xe_X10 xs_0) _) rfl rfl v_X10_needPlace kw_844 (c_X10_needPlace l X.1 g M_2  x2 qu_3 _) rfl hl.1 rfl (Nat.le_of_ble_eq_true rfl) ⟨by decide, by decide⟩ ⟨by decide, by decide⟩ dX10_safe_7) X hZ h (by decide) (by decide) (fun M_4 H locs eM_4 h hZ => ?_)
  refine W.widen (k := 2) (n := 12) (by decide) (by decide) ?_
  refine lv_aload_n hx hb dX10_safe_10 rfl (lv_at hl 0 rfl) ?_
  refine lv_iload_n hx hb dX10_safe_11 rfl (lv_at hl 1 rfl) ?_
  refine lv_iconst (v := 0) hx hb dX10_safe_12 (by decide) ?_
  refine lv_iload_n hx hb dX10_safe_13 rfl (lv_at hl 2 rfl) ?_
  obtain ⟨u_5, qu_5, h⟩ := zbt_some h
  refine zctv (zrunVt E X hZ (xb_X10 xs_0) ((xe_X10 xs_0) _) rfl rfl v_X10_needWithin kw_917 (c_X10_needWithin l X.1 g M_4  x1 0 x2 qu_5 _) rfl hl.1 rfl (Nat.le_of_ble_eq_true rfl) ⟨by decide, by decide⟩ ⟨by decide, by decide⟩ dX10_safe_14) X hZ h (by decide) (by decide) (fun M_6 H locs eM_6 h hZ => ?_)
  refine W.widen (k := 3) (n := 18) (by decide) (by decide) ?_
  refine lv_aload_n hx hb dX10_safe_17 rfl (lv_at hl 0 rfl) ?_
  refine lv_iload_n hx hb dX10_safe_18 rfl (lv_at hl 3 rfl) ?_
  refine lv_iconst (v := 0) hx hb dX10_safe_19 (by decide) ?_
  refine lv_bipush (v := 9) hx hb dX10_safe_20 (by decide) ?_
  obtain ⟨u_7, qu_7, h⟩ := zbt_some h
  refine zctv (zrunVt E X hZ (xb_X10 xs_0) ((xe_X10 xs_0) _) rfl rfl v_X10_needWithin kw_917 (c_X10_needWithin l X.1 g M_6  x3 0 9 qu_7 _) rfl hl.1 rfl (Nat.le_of_ble_eq_true rfl) ⟨by decide, by decide⟩ ⟨by decide, by decide⟩ dX10_safe_22) X hZ h (by decide) (by decide) (fun M_8 H locs eM_8 h hZ => ?_)
  refine W.widen (k := 4) (n := 24) (by decide) (by decide) ?_
  refine lv_aload_n hx hb dX10_safe_25 rfl (lv_at hl 0 rfl) ?_
  refine lv_iload hx hb dX10_safe_26 (lv_at hl 4 rfl) ?_
  refine lv_iconst (v := 0) hx hb dX10_safe_28 (by decide) ?_
  refine lv_sipush (v := 400) hx hb dX10_safe_29 (by decide) ?_
  obtain ⟨u_9, qu_9, h⟩ := zbt_some h
  refine zctv (zrunVt E X hZ (xb_X10 xs_0) ((xe_X10 xs_0) _) rfl rfl v_X10_needWithin kw_917 (c_X10_needWithin l X.1 g M_8  x4 0 400 qu_9 _) rfl hl.1 rfl (Nat.le_of_ble_eq_true rfl) ⟨by decide, by decide⟩ ⟨by decide, by decide⟩ dX10_safe_32) X hZ h (by decide) (by decide) (fun M_10 H locs eM_10 h hZ => ?_)
  refine W.widen (k := 5) (n := 30) (by decide) (by decide) ?_
  refine lv_iconst (v := 2) hx hb dX10_safe_35 (by decide) ?_
  refine lv_iload_n hx hb dX10_safe_36 rfl (lv_at hl 2 rfl) ?_
  refine lv_ishl hx hb dX10_safe_37 ?_
  refine lv_iconst (v := 1) hx hb dX10_safe_38 (by decide) ?_
  refine lv_isub hx hb dX10_safe_39 ?_
  refine zni h (fun x5_11 ex5_11 h => ?_)
  refine lv_istore (lv' := [(5, .int x5_11), (0, .ref (g.2.2 0)), (1, .int x1), (2, .int x2), (3, .int x3), (4, .int x4)]) hx hb dX10_safe_40 hl (by decide) rfl (fun ls hl => ?_)
  refine lv_iconst (v := 1) hx hb dX10_safe_42 (by decide) ?_
  refine lv_iload_n hx hb dX10_safe_43 rfl (lv_at hl 2 rfl) ?_
  refine lv_ishl hx hb dX10_safe_44 ?_
  refine lv_iconst (v := 1) hx hb dX10_safe_45 (by decide) ?_
  refine lv_isub hx hb dX10_safe_46 ?_
  refine zni h (fun x6_12 ex6_12 h => ?_)
  refine lv_istore (lv' := [(6, .int x6_12), (5, .int x5_11), (0, .ref (g.2.2 0)), (1, .int x1), (2, .int x2), (3, .int x3), (4, .int x4)]) hx hb dX10_safe_47 hl (by decide) rfl (fun ls hl => ?_)
  refine lv_aload_n hx hb dX10_safe_49 rfl (lv_at hl 2 rfl) ?_
  refine lv_iload hx hb dX10_safe_50 (lv_at hl 1 rfl) ?_
  refine lv_iload hx hb dX10_safe_52 (lv_at hl 0 rfl) ?_
  refine lv_iconst (v := (-1)) hx hb dX10_safe_54 (by decide) ?_
  refine lv_ixor hx hb dX10_safe_55 ?_
  refine lv_iand hx hb dX10_safe_56 ?_
  refine lv_iload_n hx hb dX10_safe_57 rfl (lv_at hl 5 rfl) ?_
  refine lv_iload hx hb dX10_safe_58 (lv_at hl 6 rfl) ?_
  obtain ⟨u_13, qu_13, h⟩ := zbn_some h
  refine zciS (zrunV E hZ (xb_X10 xs_0) ((xe_X10 xs_0) _) rfl rfl v_X10_hoursNoDeeper kw_1090 (c_X10_hoursNoDeeper l g M_10  (x5_11 &&& (x6_12 ^^^ ((-1)))) x3 x4 qu_13 _) rfl hl.1 rfl (Nat.le_of_ble_eq_true rfl) ⟨by decide, by decide⟩ ⟨by decide, by decide⟩ dX10_safe_60) hZ (fun H locs hZ => ?_)
  exact hret _ _ _ _ _ _ _ _ h rfl hZ dX10_safe_63 (by decide) (by decide)
theorem c_X10_safe (l : Launch) (hst : l.stackTraces = false) (g : zG) (M : zM)  (x1 : Int32) (x2 : Int32) (x3 : Int32) (x4 : Int32) {r : zT1} (h : f_X10_safe M x1 x2 x3 x4 = some r) : zMt l g xE 125 yX10_safe (zWs yX10_safe cX10_safe 7 (some .int)) 9 5 [.ref (g.2.2 0), .int x1, .int x2, .int x3, .int x4] M r :=
  zMt_of hst (by decide +kernel) (Nat.le_of_ble_eq_true rfl) (fun p e s m args below meth c ls E X hret hZ hl => w_X10_safe g  E X hret M x1 x2 x3 x4 _ _ ls h hZ hl)
theorem v_X10_safe : zYV yX10_safe cX10_safe 7 (some .int) 4 := ⟨kw_1139, kw_1, kw_1137, kw_1138, by decide +kernel⟩

def b_X10_fetch_114 (K48 : Int32 → Int32 → Int32 → Option (zT1)) (M : zM) (x1 : Int32) (x2 : Int32) (x3 : Int32) (x4 : Int32) (x5 : Int32) : Option (zT1) :=
  znm (x5 + 1) (fun x5_1 => K48 x3 x4 x5_1)
set_option maxRecDepth 100000 in
set_option maxHeartbeats 4000000 in
theorem lb_X10_fetch_114 (g : zG)  {r : zT1} (E : zX g p m c cX10_fetch 7 s args (zWs yX10_fetch cX10_fetch 7 (some .int)) RX10) (X : zXt g 125 l s c meth) (hret : zRti g xE 125 p l e (zrm 9 1 (6 * 1)) s m args below meth c 1 cX10_fetch .int r) (M : zM) (x1 : Int32) (x2 : Int32) (x3 : Int32) (x4 : Int32) (x5 : Int32) (K48 : Int32 → Int32 → Int32 → Option (zT1)) (hK48 : ∀ (x3 : Int32) (x4 : Int32) (x5 : Int32) (H : Heap) (locs : List Loc) (ls : Array Slot), K48 x3 x4 x5 = some r → zS g xE 125 s H locs M → lv_has ls 7 [(0, .ref (g.2.2 0)), (1, .int x1), (2, .int x2), (3, .int x3), (4, .int x4), (5, .int x5)] → W p l e (zrm 9 1 (6 * 1)) s m args below meth c H locs 1 6 (zQt g xE 125 below args s 1 r) (F0 m 48 ls [])) (H : Heap) (locs : List Loc) (ls : Array Slot) (h : b_X10_fetch_114 K48 M x1 x2 x3 x4 x5 = some r) (hZ : zS g xE 125 s H locs M) (hl : lv_has ls 7 [(0, .ref (g.2.2 0)), (1, .int x1), (2, .int x2), (3, .int x3), (4, .int x4), (5, .int x5)]) : W p l e (zrm 9 1 (6 * 1)) s m args below meth c H locs 1 6 (zQt g xE 125 below args s 1 r) (F0 m 114 ls []) := by
  have hx := E.1.1
  have hb := E.1.2.1
  unfold b_X10_fetch_114 at h
  obtain ⟨x5_1, ex5_1, h⟩ := znm_ex h
  refine lv_iinc (v := x5_1) (lv' := [(5, .int x5_1), (0, .ref (g.2.2 0)), (1, .int x1), (2, .int x2), (3, .int x3), (4, .int x4)]) hx hb dX10_fetch_114 hl (k := 5) rfl (by rw [ex5_1]; rfl) (by decide) rfl (fun ls hl => ?_)
  refine lv_goto (tgt := 48) hx hb dX10_fetch_117 (by decide) ?_
  exact hK48 x3 x4 x5_1 H locs ls h hZ (lv_sub hl [1, 2, 3, 4, 5, 0] rfl)
def b_X10_fetch_48  (M : zM) (x1 : Int32) (x2 : Int32) : Nat → Int32 → Int32 → Int32 → Option (zT1)
  | 0, _, _, _ => none
  | n + 1, x3, x4, x5 =>
    if (M 3 10) ≤ x5 then (some (M, .inr x3)) else (if x5 = x1 then (b_X10_fetch_114 (fun x3 x4 x5 => b_X10_fetch_48  M x1 x2 n x3 x4 x5) M x1 x2 x3 x4 x5) else (zbn (f_X9_isDrowned M 3 x5) (fun u_2 => if u_2 = 0 then (zbn (f_X8_hoursOfMonk M 3 x5 x2) (fun u_3 => if u_3 = ((-1)) then (b_X10_fetch_114 (fun x3 x4 x5 => b_X10_fetch_48  M x1 x2 n x3 x4 x5) M x1 x2 x3 x4 x5) else (if x4 ≤ u_3 then (b_X10_fetch_114 (fun x3 x4 x5 => b_X10_fetch_48  M x1 x2 n x3 x4 x5) M x1 x2 x3 x4 x5) else (b_X10_fetch_114 (fun x3 x4 x5 => b_X10_fetch_48  M x1 x2 n x3 x4 x5) M x1 x2 x5 u_3 x5)))) else (b_X10_fetch_114 (fun x3 x4 x5 => b_X10_fetch_48  M x1 x2 n x3 x4 x5) M x1 x2 x3 x4 x5))))
set_option maxRecDepth 100000 in
set_option maxHeartbeats 4000000 in
theorem lb_X10_fetch_48 (g : zG)  {r : zT1} (E : zX g p m c cX10_fetch 7 s args (zWs yX10_fetch cX10_fetch 7 (some .int)) RX10) (X : zXt g 125 l s c meth) (hret : zRti g xE 125 p l e (zrm 9 1 (6 * 1)) s m args below meth c 1 cX10_fetch .int r) (M : zM) (x1 : Int32) (x2 : Int32)  : ∀ (n : Nat) (x3 : Int32) (x4 : Int32) (x5 : Int32) (H : Heap) (locs : List Loc) (ls : Array Slot), b_X10_fetch_48  M x1 x2 n x3 x4 x5 = some r → zS g xE 125 s H locs M → lv_has ls 7 [(0, .ref (g.2.2 0)), (1, .int x1), (2, .int x2), (3, .int x3), (4, .int x4), (5, .int x5)] → W p l e (zrm 9 1 (6 * 1)) s m args below meth c H locs 1 6 (zQt g xE 125 below args s 1 r) (F0 m 48 ls []) := by
  have hx := E.1.1
  have hb := E.1.2.1
  intro n
  induction n with
  | zero => intro x3 x4 x5 H locs ls h hZ hl; cases h
  | succ n ih =>
    intro x3 x4 x5 H locs ls h hZ hl
    rw [b_X10_fetch_48] at h
    refine lv_iload hx hb dX10_fetch_48 (lv_at hl 5 rfl) ?_
    refine lv_aload_n hx hb dX10_fetch_50 rfl (lv_at hl 0 rfl) ?_
    refine zg (v := .ref (g.2.2 3)) E hZ (xb_X10 xs_0) ((xe_X10 xs_0) _) kc_X10 1 (by decide) kw_353 rfl rfl dX10_fetch_51 ?_
    refine zg (v := .int (M 3 10)) E hZ (xb_X9 xs_3) ((xe_X9 xs_3) _) kc_X9 10 (by decide) kw_96 rfl rfl dX10_fetch_54 ?_
    refine zic_ge (tgt := 120) h E dX10_fetch_57 (by decide) (fun c_8 h => ?_) (fun c_8 h => ?_)
    · refine lv_iload_n hx hb dX10_fetch_120 rfl (lv_at hl 3 rfl) ?_
      exact hret _ _ _ _ _ _ _ _ h rfl hZ dX10_fetch_121 (by decide) (by decide)
    · refine lv_iload hx hb dX10_fetch_60 (lv_at hl 5 rfl) ?_
      refine lv_iload_n hx hb dX10_fetch_62 rfl (lv_at hl 1 rfl) ?_
      refine zic_eq (tgt := 114) h E dX10_fetch_63 (by decide) (fun c_7 h => ?_) (fun c_7 h => ?_)
      · exact lb_X10_fetch_114 g  E X hret M x1 x2 x3 x4 x5 (fun x3 x4 x5 => b_X10_fetch_48  M x1 x2 n x3 x4 x5) ih H locs ls h hZ (lv_sub hl [0, 1, 2, 3, 4, 5] rfl)
      · refine lv_aload_n hx hb dX10_fetch_66 rfl (lv_at hl 0 rfl) ?_
        refine zg (v := .ref (g.2.2 3)) E hZ (xb_X10 xs_0) ((xe_X10 xs_0) _) kc_X10 1 (by decide) kw_353 rfl rfl dX10_fetch_67 ?_
        refine lv_iload hx hb dX10_fetch_70 (lv_at hl 5 rfl) ?_
        obtain ⟨u_2, qu_2, h⟩ := zbn_some h
        refine zciR (zrunV E hZ (xb_X9 xs_3) ((xe_X9 xs_3) _) rfl rfl v_X9_isDrowned kw_459 (c_X9_isDrowned l g M 3 xs_3 x5 qu_2 _) rfl hl.1 rfl (Nat.le_of_ble_eq_true rfl) ⟨by decide, by decide⟩ ⟨by decide, by decide⟩ dX10_fetch_72) hZ (fun H locs hZ => ?_)
        refine zif_ne (tgt := 114) h E dX10_fetch_75 (by decide) (fun c_6 h => ?_) (fun c_6 h => ?_)
        · exact lb_X10_fetch_114 g  E X hret M x1 x2 x3 x4 x5 (fun x3 x4 x5 => b_X10_fetch_48  M x1 x2 n x3 x4 x5) ih H locs ls h hZ (lv_sub hl [0, 1, 2, 3, 4, 5] rfl)
        · refine lv_aload_n hx hb dX10_fetch_78 rfl (lv_at hl 0 rfl) ?_
          refine zg (v := .ref (g.2.2 43)) E hZ (xb_X10 xs_0) ((xe_X10 xs_0) _) kc_X10 10 (by decide) kw_362 rfl rfl dX10_fetch_79 ?_
          refine lv_aload_n hx hb dX10_fetch_82 rfl (lv_at hl 0 rfl) ?_
          refine zg (v := .ref (g.2.2 3)) E hZ (xb_X10 xs_0) ((xe_X10 xs_0) _) kc_X10 1 (by decide) kw_353 rfl rfl dX10_fetch_83 ?_
          refine lv_iload hx hb dX10_fetch_86 (lv_at hl 5 rfl) ?_
          refine lv_iload_n hx hb dX10_fetch_88 rfl (lv_at hl 2 rfl) ?_
          obtain ⟨u_3, qu_3, h⟩ := zbn_some h
          refine zciR (zrunV E hZ (xb_X8 xs_43) ((xe_X8 xs_43) _) rfl rfl v_X8_hoursOfMonk kw_1147 (c_X8_hoursOfMonk l g M 3 xs_3 x5 x2 qu_3 _) rfl hl.1 rfl (Nat.le_of_ble_eq_true rfl) ⟨by decide, by decide⟩ ⟨by decide, by decide⟩ dX10_fetch_89) hZ (fun H locs hZ => ?_)
          refine lv_istore (lv' := [(6, .int u_3), (0, .ref (g.2.2 0)), (1, .int x1), (2, .int x2), (3, .int x3), (4, .int x4), (5, .int x5)]) hx hb dX10_fetch_92 hl (by decide) rfl (fun ls hl => ?_)
          refine lv_iload hx hb dX10_fetch_94 (lv_at hl 0 rfl) ?_
          refine lv_iconst (v := (-1)) hx hb dX10_fetch_96 (by decide) ?_
          refine zic_eq (tgt := 114) h E dX10_fetch_97 (by decide) (fun c_5 h => ?_) (fun c_5 h => ?_)
          · exact lb_X10_fetch_114 g  E X hret M x1 x2 x3 x4 x5 (fun x3 x4 x5 => b_X10_fetch_48  M x1 x2 n x3 x4 x5) ih H locs ls h hZ (lv_sub hl [1, 2, 3, 4, 5, 6] rfl)
          · refine lv_iload hx hb dX10_fetch_100 (lv_at hl 0 rfl) ?_
            refine lv_iload hx hb dX10_fetch_102 (lv_at hl 5 rfl) ?_
            refine zic_ge (tgt := 114) h E dX10_fetch_104 (by decide) (fun c_4 h => ?_) (fun c_4 h => ?_)
            · exact lb_X10_fetch_114 g  E X hret M x1 x2 x3 x4 x5 (fun x3 x4 x5 => b_X10_fetch_48  M x1 x2 n x3 x4 x5) ih H locs ls h hZ (lv_sub hl [1, 2, 3, 4, 5, 6] rfl)
            · refine lv_iload hx hb dX10_fetch_107 (lv_at hl 0 rfl) ?_
              refine lv_istore (lv' := [(4, .int u_3), (6, .int u_3), (0, .ref (g.2.2 0)), (1, .int x1), (2, .int x2), (3, .int x3), (5, .int x5)]) hx hb dX10_fetch_109 hl (by decide) rfl (fun ls hl => ?_)
              refine lv_iload hx hb dX10_fetch_111 (lv_at hl 6 rfl) ?_
              refine lv_istore_n (lv' := [(3, .int x5), (4, .int u_3), (6, .int u_3), (0, .ref (g.2.2 0)), (1, .int x1), (2, .int x2), (5, .int x5)]) hx hb dX10_fetch_113 rfl hl (by decide) rfl (fun ls hl => ?_)
              exact lb_X10_fetch_114 g  E X hret M x1 x2 x5 u_3 x5 (fun x3 x4 x5 => b_X10_fetch_48  M x1 x2 n x3 x4 x5) ih H locs ls h hZ (lv_sub hl [3, 4, 5, 0, 1, 6] rfl)
def f_X10_fetch (M : zM) (x1 : Int32) : Option (zT1) :=
  zbt (f_X10_needMonk M x1) (fun M_10 _ => zbn (f_X9_isDrowned M_10 3 x1) (fun u_11 => if u_11 = 0 then (zbn (f_X8_look M_10 3) (fun u_12 => zbn (f_X9_monkCell u_12 3 x1 0) (fun u_13 => b_X10_fetch_48  u_12 x1 u_13 6000 ((-1)) 61 0))) else (some (M_10, .inr ((-1))))))
set_option maxRecDepth 100000 in
set_option maxHeartbeats 4000000 in
theorem w_X10_fetch (g : zG)  {r : zT1} (E : zX g p m c cX10_fetch 7 s args (zWs yX10_fetch cX10_fetch 7 (some .int)) RX10) (X : zXt g 125 l s c meth) (hret : zRti g xE 125 p l e (zrm 9 1 (6 * 1)) s m args below meth c 1 cX10_fetch .int r) (M : zM) (x1 : Int32) (H : Heap) (locs : List Loc) (ls : Array Slot) (h : f_X10_fetch M x1 = some r) (hZ : zS g xE 125 s H locs M) (hl : lv_has ls 7 [(0, .ref (g.2.2 0)), (1, .int x1)]) : W p l e (zrm 9 1 (6 * 1)) s m args below meth c H locs 0 0 (zQt g xE 125 below args s 1 r) (F0 m 0 ls []) := by
  have hx := E.1.1
  have hb := E.1.2.1
  unfold f_X10_fetch at h
  refine lv_aload_n hx hb dX10_fetch_0 rfl (lv_at hl 0 rfl) ?_
  refine lv_iload_n hx hb dX10_fetch_1 rfl (lv_at hl 1 rfl) ?_
  obtain ⟨u_9, qu_9, h⟩ := zbt_some h
  refine zctv (zrunVt E X hZ (xb_X10 xs_0) ((xe_X10 xs_0) _) rfl rfl v_X10_needMonk kw_872 (c_X10_needMonk l X.1 g M  x1 qu_9 _) rfl hl.1 rfl (Nat.le_of_ble_eq_true rfl) ⟨by decide, by decide⟩ ⟨by decide, by decide⟩ dX10_fetch_2) X hZ h (by decide) (by decide) (fun M_10 H locs eM_10 h hZ => ?_)
  refine W.widen (k := 1) (n := 6) (by decide) (by decide) ?_
  refine lv_aload_n hx hb dX10_fetch_5 rfl (lv_at hl 0 rfl) ?_
  refine zg (v := .ref (g.2.2 3)) E hZ (xb_X10 xs_0) ((xe_X10 xs_0) _) kc_X10 1 (by decide) kw_353 rfl rfl dX10_fetch_6 ?_
  refine lv_iload_n hx hb dX10_fetch_9 rfl (lv_at hl 1 rfl) ?_
  obtain ⟨u_11, qu_11, h⟩ := zbn_some h
  refine zciR (zrunV E hZ (xb_X9 xs_3) ((xe_X9 xs_3) _) rfl rfl v_X9_isDrowned kw_459 (c_X9_isDrowned l g M_10 3 xs_3 x1 qu_11 _) rfl hl.1 rfl (Nat.le_of_ble_eq_true rfl) ⟨by decide, by decide⟩ ⟨by decide, by decide⟩ dX10_fetch_10) hZ (fun H locs hZ => ?_)
  refine zif_eq (tgt := 18) h E dX10_fetch_13 (by decide) (fun c_14 h => ?_) (fun c_14 h => ?_)
  · refine lv_aload_n hx hb dX10_fetch_18 rfl (lv_at hl 0 rfl) ?_
    refine zg (v := .ref (g.2.2 43)) E hZ (xb_X10 xs_0) ((xe_X10 xs_0) _) kc_X10 10 (by decide) kw_362 rfl rfl dX10_fetch_19 ?_
    refine lv_aload_n hx hb dX10_fetch_22 rfl (lv_at hl 0 rfl) ?_
    refine zg (v := .ref (g.2.2 3)) E hZ (xb_X10 xs_0) ((xe_X10 xs_0) _) kc_X10 1 (by decide) kw_353 rfl rfl dX10_fetch_23 ?_
    obtain ⟨u_12, qu_12, h⟩ := zbn_some h
    refine zcvS (zrunV E hZ (xb_X8 xs_43) ((xe_X8 xs_43) _) rfl rfl v_X8_look kw_1094 (c_X8_look l g M_10 3 xs_3  qu_12 _) rfl hl.1 rfl (Nat.le_of_ble_eq_true rfl) ⟨by decide, by decide⟩ ⟨by decide, by decide⟩ dX10_fetch_26) hZ (fun H locs hZ => ?_)
    refine lv_aload_n hx hb dX10_fetch_29 rfl (lv_at hl 0 rfl) ?_
    refine zg (v := .ref (g.2.2 3)) E hZ (xb_X10 xs_0) ((xe_X10 xs_0) _) kc_X10 1 (by decide) kw_353 rfl rfl dX10_fetch_30 ?_
    refine lv_iload_n hx hb dX10_fetch_33 rfl (lv_at hl 1 rfl) ?_
    refine lv_iconst (v := 0) hx hb dX10_fetch_34 (by decide) ?_
    obtain ⟨u_13, qu_13, h⟩ := zbn_some h
    refine zciR (zrunV E hZ (xb_X9 xs_3) ((xe_X9 xs_3) _) rfl rfl v_X9_monkCell kw_455 (c_X9_monkCell l g u_12 3 xs_3 x1 0 qu_13 _) rfl hl.1 rfl (Nat.le_of_ble_eq_true rfl) ⟨by decide, by decide⟩ ⟨by decide, by decide⟩ dX10_fetch_35) hZ (fun H locs hZ => ?_)
    refine lv_istore_n (lv' := [(2, .int u_13), (0, .ref (g.2.2 0)), (1, .int x1)]) hx hb dX10_fetch_38 rfl hl (by decide) rfl (fun ls hl => ?_)
    refine lv_iconst (v := (-1)) hx hb dX10_fetch_39 (by decide) ?_
    refine lv_istore_n (lv' := [(3, .int ((-1))), (2, .int u_13), (0, .ref (g.2.2 0)), (1, .int x1)]) hx hb dX10_fetch_40 rfl hl (by decide) rfl (fun ls hl => ?_)
    refine lv_bipush (v := 61) hx hb dX10_fetch_41 (by decide) ?_
    refine lv_istore (lv' := [(4, .int 61), (3, .int ((-1))), (2, .int u_13), (0, .ref (g.2.2 0)), (1, .int x1)]) hx hb dX10_fetch_43 hl (by decide) rfl (fun ls hl => ?_)
    refine lv_iconst (v := 0) hx hb dX10_fetch_45 (by decide) ?_
    refine lv_istore (lv' := [(5, .int 0), (4, .int 61), (3, .int ((-1))), (2, .int u_13), (0, .ref (g.2.2 0)), (1, .int x1)]) hx hb dX10_fetch_46 hl (by decide) rfl (fun ls hl => ?_)
    exact lb_X10_fetch_48 g  E X hret u_12 x1 u_13  6000 ((-1)) 61 0 H locs ls h hZ (lv_sub hl [4, 5, 3, 2, 1, 0] rfl)
  · refine lv_iconst (v := (-1)) hx hb dX10_fetch_16 (by decide) ?_
    exact hret _ _ _ _ _ _ _ _ h rfl hZ dX10_fetch_17 (by decide) (by decide)
theorem c_X10_fetch (l : Launch) (hst : l.stackTraces = false) (g : zG) (M : zM)  (x1 : Int32) {r : zT1} (h : f_X10_fetch M x1 = some r) : zMt l g xE 125 yX10_fetch (zWs yX10_fetch cX10_fetch 7 (some .int)) 9 1 [.ref (g.2.2 0), .int x1] M r :=
  zMt_of hst (by decide +kernel) (Nat.le_of_ble_eq_true rfl) (fun p e s m args below meth c ls E X hret hZ hl => w_X10_fetch g  E X hret M x1 _ _ ls h hZ hl)
theorem v_X10_fetch : zYV yX10_fetch cX10_fetch 7 (some .int) 1 := ⟨kw_1146, kw_1, kw_1144, kw_1145, by decide +kernel⟩

def b_X10_send_76  (M : zM) (x1 : Int32) (x2 : Int32) : Option (zT1) :=
  zbn (f_X2_sendAll M 3 2 x2) (fun u_1 => if u_1.1 = ((-1)) then (some (u_1.2, .inr u_1.1)) else (if x1 = ((-1)) then (some (u_1.2, .inr u_1.1)) else (zbn (f_X2_sentTo u_1.2 x1) (fun u_2 => some (u_1.2, .inr u_2)))))
set_option maxRecDepth 100000 in
set_option maxHeartbeats 4000000 in
theorem lb_X10_send_76 (g : zG)  {r : zT1} (E : zX g p m c cX10_send 4 s args (zWs yX10_send cX10_send 4 (some .int)) RX10) (X : zXt g 125 l s c meth) (hret : zRti g xE 125 p l e (zrm 9 10 (6 * 10)) s m args below meth c 10 cX10_send .int r) (M : zM) (x1 : Int32) (x2 : Int32)  (H : Heap) (locs : List Loc) (ls : Array Slot) (h : b_X10_send_76  M x1 x2 = some r) (hZ : zS g xE 125 s H locs M) (hl : lv_has ls 4 [(0, .ref (g.2.2 0)), (1, .int x1), (2, .int x2)]) : W p l e (zrm 9 10 (6 * 10)) s m args below meth c H locs 9 54 (zQt g xE 125 below args s 10 r) (F0 m 76 ls []) := by
  have hx := E.1.1
  have hb := E.1.2.1
  unfold b_X10_send_76 at h
  refine lv_aload_n hx hb dX10_send_76 rfl (lv_at hl 0 rfl) ?_
  refine zg (v := .ref (g.2.2 45)) E hZ (xb_X10 xs_0) ((xe_X10 xs_0) _) kc_X10 11 (by decide) kw_363 rfl rfl dX10_send_77 ?_
  refine lv_aload_n hx hb dX10_send_80 rfl (lv_at hl 0 rfl) ?_
  refine zg (v := .ref (g.2.2 3)) E hZ (xb_X10 xs_0) ((xe_X10 xs_0) _) kc_X10 1 (by decide) kw_353 rfl rfl dX10_send_81 ?_
  refine lv_aload_n hx hb dX10_send_84 rfl (lv_at hl 0 rfl) ?_
  refine zg (v := .ref (g.2.2 1)) E hZ (xb_X10 xs_0) ((xe_X10 xs_0) _) kc_X10 0 (by decide) kw_352 rfl rfl dX10_send_85 ?_
  refine zg (v := .ref (g.2.2 2)) E hZ (xb_X6 xs_1) ((xe_X6 xs_1) _) kc_X6 0 (by decide) kw_44 rfl rfl dX10_send_88 ?_
  refine lv_iload_n hx hb dX10_send_91 rfl (lv_at hl 2 rfl) ?_
  obtain ⟨u_1, qu_1, h⟩ := zbn_some h
  refine zciS (zrunV E hZ (xb_X2 xs_45) ((xe_X2 xs_45) _) rfl rfl v_X2_sendAll kw_1165 (c_X2_sendAll l g M 3 xs_3 2 xs_2.1 x2 qu_1 _) rfl hl.1 rfl (Nat.le_of_ble_eq_true rfl) ⟨by decide, by decide⟩ ⟨by decide, by decide⟩ dX10_send_92) hZ (fun H locs hZ => ?_)
  refine lv_istore_n (lv' := [(3, .int u_1.1), (0, .ref (g.2.2 0)), (1, .int x1), (2, .int x2)]) hx hb dX10_send_95 rfl hl (by decide) rfl (fun ls hl => ?_)
  refine lv_iload_n hx hb dX10_send_96 rfl (lv_at hl 0 rfl) ?_
  refine lv_iconst (v := (-1)) hx hb dX10_send_97 (by decide) ?_
  refine zic_eq (tgt := 106) h E dX10_send_98 (by decide) (fun c_4 h => ?_) (fun c_4 h => ?_)
  · refine lv_iload_n hx hb dX10_send_106 rfl (lv_at hl 0 rfl) ?_
    refine lv_goto (tgt := 118) hx hb dX10_send_107 (by decide) ?_
    exact hret _ _ _ _ _ _ _ _ h rfl hZ dX10_send_118 (by decide) (by decide)
  · refine lv_iload_n hx hb dX10_send_101 rfl (lv_at hl 2 rfl) ?_
    refine lv_iconst (v := (-1)) hx hb dX10_send_102 (by decide) ?_
    refine zic_ne (tgt := 110) h E dX10_send_103 (by decide) (fun c_3 h => ?_) (fun c_3 h => ?_)
    · refine lv_aload_n hx hb dX10_send_110 rfl (lv_at hl 1 rfl) ?_
      refine zg (v := .ref (g.2.2 45)) E hZ (xb_X10 xs_0) ((xe_X10 xs_0) _) kc_X10 11 (by decide) kw_363 rfl rfl dX10_send_111 ?_
      refine lv_iload_n hx hb dX10_send_114 rfl (lv_at hl 2 rfl) ?_
      obtain ⟨u_2, qu_2, h⟩ := zbn_some h
      refine zciR (zrunV E hZ (xb_X2 xs_45) ((xe_X2 xs_45) _) rfl rfl v_X2_sentTo kw_1194 (c_X2_sentTo l g u_1.2  x1 qu_2 _) rfl hl.1 rfl (Nat.le_of_ble_eq_true rfl) ⟨by decide, by decide⟩ ⟨by decide, by decide⟩ dX10_send_115) hZ (fun H locs hZ => ?_)
      exact hret _ _ _ _ _ _ _ _ h rfl hZ dX10_send_118 (by decide) (by decide)
    · refine lv_iload_n hx hb dX10_send_106 rfl (lv_at hl 0 rfl) ?_
      refine lv_goto (tgt := 118) hx hb dX10_send_107 (by decide) ?_
      exact hret _ _ _ _ _ _ _ _ h rfl hZ dX10_send_118 (by decide) (by decide)
def b_X10_send_47  (x1 : Int32) (x2 : Int32) : Nat → zM → Int32 → Option (zT1)
  | 0, _, _ => none
  | n + 1, M, x3 =>
    if x2 ≤ x3 then (b_X10_send_76  M x1 x2) else (zbn (f_X10_at M 2 x3) (fun u_5 => zbt (f_X10_needWithin M u_5 0 11) (fun M_7 _ => znm (x3 + 1) (fun x3_8 => b_X10_send_47  x1 x2 n M_7 x3_8))))
set_option maxRecDepth 100000 in
set_option maxHeartbeats 4000000 in
theorem lb_X10_send_47 (g : zG)  {r : zT1} (E : zX g p m c cX10_send 4 s args (zWs yX10_send cX10_send 4 (some .int)) RX10) (X : zXt g 125 l s c meth) (hret : zRti g xE 125 p l e (zrm 9 10 (6 * 10)) s m args below meth c 10 cX10_send .int r) (x1 : Int32) (x2 : Int32)  : ∀ (n : Nat) (cn : Nat) (hcn : cn + 1 * n ≤ 9) (M : zM) (x3 : Int32) (H : Heap) (locs : List Loc) (ls : Array Slot), b_X10_send_47  x1 x2 n M x3 = some r → zS g xE 125 s H locs M → lv_has ls 4 [(0, .ref (g.2.2 0)), (1, .int x1), (2, .int x2), (3, .int x3)] → W p l e (zrm 9 10 (6 * 10)) s m args below meth c H locs cn (6 * cn) (zQt g xE 125 below args s 10 r) (F0 m 47 ls []) := by
  have hx := E.1.1
  have hb := E.1.2.1
  intro n
  induction n with
  | zero => intro cn hcn M x3 H locs ls h hZ hl; cases h
  | succ n ih =>
    intro cn hcn M x3 H locs ls h hZ hl
    rw [b_X10_send_47] at h
    refine lv_iload_n hx hb dX10_send_47 rfl (lv_at hl 3 rfl) ?_
    refine lv_iload_n hx hb dX10_send_48 rfl (lv_at hl 2 rfl) ?_
    refine zic_ge (tgt := 76) h E dX10_send_49 (by decide) (fun c_9 h => ?_) (fun c_9 h => ?_)
    · refine W.widen (k := 9) (n := 54) (by omega) (by omega) ?_
      exact lb_X10_send_76 g  E X hret M x1 x2  H locs ls h hZ (lv_sub hl [0, 1, 2] rfl)
    · refine lv_aload_n hx hb dX10_send_52 rfl (lv_at hl 0 rfl) ?_
      refine lv_aload_n hx hb dX10_send_53 rfl (lv_at hl 0 rfl) ?_
      refine zg (v := .ref (g.2.2 1)) E hZ (xb_X10 xs_0) ((xe_X10 xs_0) _) kc_X10 0 (by decide) kw_352 rfl rfl dX10_send_54 ?_
      refine zg (v := .ref (g.2.2 2)) E hZ (xb_X6 xs_1) ((xe_X6 xs_1) _) kc_X6 0 (by decide) kw_44 rfl rfl dX10_send_57 ?_
      refine lv_iload_n hx hb dX10_send_60 rfl (lv_at hl 3 rfl) ?_
      obtain ⟨u_5, qu_5, h⟩ := zbn_some h
      refine zciR (zrunS E hZ v_X10_at kw_863 (c_X10_at l g M 2 xs_2.1 x3 qu_5 _) rfl hl.1 rfl (Nat.le_of_ble_eq_true rfl) ⟨by decide, by decide⟩ ⟨by simp only [zrm]; omega, by simp only [zrm]; omega⟩ dX10_send_61) hZ (fun H locs hZ => ?_)
      refine lv_iconst (v := 0) hx hb dX10_send_64 (by decide) ?_
      refine lv_bipush (v := 11) hx hb dX10_send_65 (by decide) ?_
      obtain ⟨u_6, qu_6, h⟩ := zbt_some h
      refine zctv (zrunVt E X hZ (xb_X10 xs_0) ((xe_X10 xs_0) _) rfl rfl v_X10_needWithin kw_917 (c_X10_needWithin l X.1 g M  u_5 0 11 qu_6 _) rfl hl.1 rfl (Nat.le_of_ble_eq_true rfl) ⟨by decide, by decide⟩ ⟨by simp only [zrm]; omega, by simp only [zrm]; omega⟩ dX10_send_67) X hZ h (by omega) (by omega) (fun M_7 H locs eM_7 h hZ => ?_)
      refine W.widen (k := (cn + 1)) (n := (6 * (cn + 1))) (by omega) (by omega) ?_
      obtain ⟨x3_8, ex3_8, h⟩ := znm_ex h
      refine lv_iinc (v := x3_8) (lv' := [(3, .int x3_8), (0, .ref (g.2.2 0)), (1, .int x1), (2, .int x2)]) hx hb dX10_send_70 hl (k := 3) rfl (by rw [ex3_8]; rfl) (by decide) rfl (fun ls hl => ?_)
      refine lv_goto (tgt := 47) hx hb dX10_send_73 (by decide) ?_
      exact ih (cn + 1) (by omega) M_7 x3_8 H locs ls h hZ (lv_sub hl [1, 2, 3, 0] rfl)
def b_X10_send_26  (M : zM) (x1 : Int32) (x2 : Int32) : Option (zT1) :=
  zbn (f_X9_alive M 3) (fun u_10 => if x2 = u_10 then (b_X10_send_47  x1 x2 8 M 0) else (some (M, .inl 1)))
set_option maxRecDepth 100000 in
set_option maxHeartbeats 4000000 in
theorem lb_X10_send_26 (g : zG)  {r : zT1} (E : zX g p m c cX10_send 4 s args (zWs yX10_send cX10_send 4 (some .int)) RX10) (X : zXt g 125 l s c meth) (hret : zRti g xE 125 p l e (zrm 9 10 (6 * 10)) s m args below meth c 10 cX10_send .int r) (M : zM) (x1 : Int32) (x2 : Int32)  (H : Heap) (locs : List Loc) (ls : Array Slot) (h : b_X10_send_26  M x1 x2 = some r) (hZ : zS g xE 125 s H locs M) (hl : lv_has ls 4 [(0, .ref (g.2.2 0)), (1, .int x1), (2, .int x2)]) : W p l e (zrm 9 10 (6 * 10)) s m args below meth c H locs 1 6 (zQt g xE 125 below args s 10 r) (F0 m 26 ls []) := by
  have hx := E.1.1
  have hb := E.1.2.1
  unfold b_X10_send_26 at h
  refine lv_iload_n hx hb dX10_send_26 rfl (lv_at hl 2 rfl) ?_
  refine lv_aload_n hx hb dX10_send_27 rfl (lv_at hl 0 rfl) ?_
  refine zg (v := .ref (g.2.2 3)) E hZ (xb_X10 xs_0) ((xe_X10 xs_0) _) kc_X10 1 (by decide) kw_353 rfl rfl dX10_send_28 ?_
  obtain ⟨u_10, qu_10, h⟩ := zbn_some h
  refine zciR (zrunV E hZ (xb_X9 xs_3) ((xe_X9 xs_3) _) rfl rfl v_X9_alive kw_1160 (c_X9_alive l g M 3 xs_3  qu_10 _) rfl hl.1 rfl (Nat.le_of_ble_eq_true rfl) ⟨by decide, by decide⟩ ⟨by decide, by decide⟩ dX10_send_31) hZ (fun H locs hZ => ?_)
  refine zic_eq (tgt := 45) h E dX10_send_34 (by decide) (fun c_11 h => ?_) (fun c_11 h => ?_)
  · refine lv_iconst (v := 0) hx hb dX10_send_45 (by decide) ?_
    refine lv_istore_n (lv' := [(3, .int 0), (0, .ref (g.2.2 0)), (1, .int x1), (2, .int x2)]) hx hb dX10_send_46 rfl hl (by decide) rfl (fun ls hl => ?_)
    exact lb_X10_send_47 g  E X hret x1 x2  8 1 (by decide) M 0 H locs ls h hZ (lv_sub hl [1, 2, 3, 0] rfl)
  · exact zthrow 1 h E X hZ kw_706 kw_21 (by decide) xx1_X10_117 xx2_X10_117 xx3_X10_117 hl.1 dX10_send_37 dX10_send_40 dX10_send_41 dX10_send_44 ⟨by decide, Nat.le_of_ble_eq_true rfl⟩ (by decide) (by decide) (by decide) (by decide)
def f_X10_send (M : zM) (x1 : Int32) : Option (zT1) :=
  znm (M 1 1) (fun x2_12 => znm (zu M 1 1 0) (fun M_13 => if x1 = ((-1)) then (b_X10_send_26  M_13 x1 x2_12) else (zbt (f_X10_needMonk M_13 x1) (fun M_15 _ => b_X10_send_26  M_15 x1 x2_12))))
set_option maxRecDepth 100000 in
set_option maxHeartbeats 4000000 in
theorem w_X10_send (g : zG)  {r : zT1} (E : zX g p m c cX10_send 4 s args (zWs yX10_send cX10_send 4 (some .int)) RX10) (X : zXt g 125 l s c meth) (hret : zRti g xE 125 p l e (zrm 9 10 (6 * 10)) s m args below meth c 10 cX10_send .int r) (M : zM) (x1 : Int32) (H : Heap) (locs : List Loc) (ls : Array Slot) (h : f_X10_send M x1 = some r) (hZ : zS g xE 125 s H locs M) (hl : lv_has ls 4 [(0, .ref (g.2.2 0)), (1, .int x1)]) : W p l e (zrm 9 10 (6 * 10)) s m args below meth c H locs 0 0 (zQt g xE 125 below args s 10 r) (F0 m 0 ls []) := by
  have hx := E.1.1
  have hb := E.1.2.1
  unfold f_X10_send at h
  refine lv_aload_n hx hb dX10_send_0 rfl (lv_at hl 0 rfl) ?_
  refine zg (v := .ref (g.2.2 1)) E hZ (xb_X10 xs_0) ((xe_X10 xs_0) _) kc_X10 0 (by decide) kw_352 rfl rfl dX10_send_1 ?_
  refine zg (v := .int (M 1 1)) E hZ (xb_X6 xs_1) ((xe_X6 xs_1) _) kc_X6 1 (by decide) kw_46 rfl rfl dX10_send_4 ?_
  refine zni h (fun x2_12 ex2_12 h => ?_)
  refine lv_istore_n (lv' := [(2, .int x2_12), (0, .ref (g.2.2 0)), (1, .int x1)]) hx hb dX10_send_7 rfl hl (by decide) rfl (fun ls hl => ?_)
  refine lv_aload_n hx hb dX10_send_8 rfl (lv_at hl 1 rfl) ?_
  refine zg (v := .ref (g.2.2 1)) E hZ (xb_X10 xs_0) ((xe_X10 xs_0) _) kc_X10 0 (by decide) kw_352 rfl rfl dX10_send_9 ?_
  refine lv_iconst (v := 0) hx hb dX10_send_12 (by decide) ?_
  refine zp h E hZ (xb_X6 xs_1) ((xe_X6 xs_1) _) (((xe_X6 xs_1) _).trans (congrArg (fun z => Sum.inr (5, z)) (fs_X6_1 g _ _ _))) kc_X6 (by decide) kw_46 rfl rfl rfl (Nat.le_of_ble_eq_true rfl) dX10_send_13 (fun M_13 H locs eM_13 h hZ => ?_)
  refine lv_iload_n hx hb dX10_send_16 rfl (lv_at hl 2 rfl) ?_
  refine lv_iconst (v := (-1)) hx hb dX10_send_17 (by decide) ?_
  refine zic_eq (tgt := 26) h E dX10_send_18 (by decide) (fun c_16 h => ?_) (fun c_16 h => ?_)
  · refine W.widen (k := 1) (n := 6) (by decide) (by decide) ?_
    exact lb_X10_send_26 g  E X hret M_13 x1 x2_12  H locs ls h hZ (lv_sub hl [1, 2, 0] rfl)
  · refine lv_aload_n hx hb dX10_send_21 rfl (lv_at hl 1 rfl) ?_
    refine lv_iload_n hx hb dX10_send_22 rfl (lv_at hl 2 rfl) ?_
    obtain ⟨u_14, qu_14, h⟩ := zbt_some h
    refine zctv (zrunVt E X hZ (xb_X10 xs_0) ((xe_X10 xs_0) _) rfl rfl v_X10_needMonk kw_872 (c_X10_needMonk l X.1 g M_13  x1 qu_14 _) rfl hl.1 rfl (Nat.le_of_ble_eq_true rfl) ⟨by decide, by decide⟩ ⟨by decide, by decide⟩ dX10_send_23) X hZ h (by decide) (by decide) (fun M_15 H locs eM_15 h hZ => ?_)
    refine W.widen (k := 1) (n := 6) (by decide) (by decide) ?_
    exact lb_X10_send_26 g  E X hret M_15 x1 x2_12  H locs ls h hZ (lv_sub hl [1, 2, 0] rfl)
theorem c_X10_send (l : Launch) (hst : l.stackTraces = false) (g : zG) (M : zM)  (x1 : Int32) {r : zT1} (h : f_X10_send M x1 = some r) : zMt l g xE 125 yX10_send (zWs yX10_send cX10_send 4 (some .int)) 9 10 [.ref (g.2.2 0), .int x1] M r :=
  zMt_of hst (by decide +kernel) (Nat.le_of_ble_eq_true rfl) (fun p e s m args below meth c ls E X hret hZ hl => w_X10_send g  E X hret M x1 _ _ ls h hZ hl)
theorem v_X10_send : zYV yX10_send cX10_send 4 (some .int) 1 := ⟨kw_1159, kw_1, kw_1157, kw_1158, by decide +kernel⟩

def b_X10_most_32  (M : zM) (x2 : Int32) (t0 : Int32) : Option (zT1) :=
  if x2 = ((-1)) then (some (M, .inr t0)) else (if x2 < 0 then (some (M, .inr ((-1)))) else (if t0 ≤ x2 then (some (M, .inr ((-1)))) else (zbn (f_X2_keptAs M x2) (fun u_1 => some (M, .inr u_1)))))
set_option maxRecDepth 100000 in
set_option maxHeartbeats 4000000 in
theorem lb_X10_most_32 (g : zG)  {r : zT1} (E : zX g p m c cX10_most 4 s args (zWs yX10_most cX10_most 4 (some .int)) RX10) (X : zXt g 125 l s c meth) (hret : zRti g xE 125 p l e (zrm 83 1 (6 * 1)) s m args below meth c 1 cX10_most .int r) (M : zM) (x2 : Int32) (t0 : Int32)  (H : Heap) (locs : List Loc) (ls : Array Slot) (h : b_X10_most_32  M x2 t0 = some r) (hZ : zS g xE 125 s H locs M) (hl : lv_has ls 4 [(0, .ref (g.2.2 0)), (2, .int x2)]) : W p l e (zrm 83 1 (6 * 1)) s m args below meth c H locs 1 6 (zQt g xE 125 below args s 1 r) (F0 m 32 ls [.int t0]) := by
  have hx := E.1.1
  have hb := E.1.2.1
  unfold b_X10_most_32 at h
  refine lv_istore_n (lv' := [(3, .int t0), (0, .ref (g.2.2 0)), (2, .int x2)]) hx hb dX10_most_32 rfl hl (by decide) rfl (fun ls hl => ?_)
  refine lv_iload_n hx hb dX10_most_33 rfl (lv_at hl 2 rfl) ?_
  refine lv_iconst (v := (-1)) hx hb dX10_most_34 (by decide) ?_
  refine zic_ne (tgt := 40) h E dX10_most_35 (by decide) (fun c_4 h => ?_) (fun c_4 h => ?_)
  · refine lv_iload_n hx hb dX10_most_40 rfl (lv_at hl 2 rfl) ?_
    refine zif_lt (tgt := 60) h E dX10_most_41 (by decide) (fun c_3 h => ?_) (fun c_3 h => ?_)
    · refine lv_iconst (v := (-1)) hx hb dX10_most_60 (by decide) ?_
      exact hret _ _ _ _ _ _ _ _ h rfl hZ dX10_most_61 (by decide) (by decide)
    · refine lv_iload_n hx hb dX10_most_44 rfl (lv_at hl 2 rfl) ?_
      refine lv_iload_n hx hb dX10_most_45 rfl (lv_at hl 0 rfl) ?_
      refine zic_ge (tgt := 60) h E dX10_most_46 (by decide) (fun c_2 h => ?_) (fun c_2 h => ?_)
      · refine lv_iconst (v := (-1)) hx hb dX10_most_60 (by decide) ?_
        exact hret _ _ _ _ _ _ _ _ h rfl hZ dX10_most_61 (by decide) (by decide)
      · refine lv_aload_n hx hb dX10_most_49 rfl (lv_at hl 1 rfl) ?_
        refine zg (v := .ref (g.2.2 45)) E hZ (xb_X10 xs_0) ((xe_X10 xs_0) _) kc_X10 11 (by decide) kw_363 rfl rfl dX10_most_50 ?_
        refine lv_iload_n hx hb dX10_most_53 rfl (lv_at hl 2 rfl) ?_
        obtain ⟨u_1, qu_1, h⟩ := zbn_some h
        refine zciR (zrunV E hZ (xb_X2 xs_45) ((xe_X2 xs_45) _) rfl rfl v_X2_keptAs kw_1218 (c_X2_keptAs l g M  x2 qu_1 _) rfl hl.1 rfl (Nat.le_of_ble_eq_true rfl) ⟨by decide, by decide⟩ ⟨by decide, by decide⟩ dX10_most_54) hZ (fun H locs hZ => ?_)
        refine lv_goto (tgt := 61) hx hb dX10_most_57 (by decide) ?_
        exact hret _ _ _ _ _ _ _ _ h rfl hZ dX10_most_61 (by decide) (by decide)
  · refine lv_iload_n hx hb dX10_most_38 rfl (lv_at hl 0 rfl) ?_
    exact hret _ _ _ _ _ _ _ _ h rfl hZ dX10_most_39 (by decide) (by decide)
def f_X10_most (M : zM) (x1 : Int32) (x2 : Int32) : Option (zT1) :=
  zbt (f_X10_needMonk M x1) (fun M_6 _ => zbn (f_X9_isDrowned M_6 3 x1) (fun u_7 => if u_7 = 0 then (zbn (f_X2_keepMost M_6 3 x1) (fun u_8 => b_X10_most_32  u_8.2 x2 u_8.1)) else (b_X10_most_32  M_6 x2 0)))
set_option maxRecDepth 100000 in
set_option maxHeartbeats 4000000 in
theorem w_X10_most (g : zG)  {r : zT1} (E : zX g p m c cX10_most 4 s args (zWs yX10_most cX10_most 4 (some .int)) RX10) (X : zXt g 125 l s c meth) (hret : zRti g xE 125 p l e (zrm 83 1 (6 * 1)) s m args below meth c 1 cX10_most .int r) (M : zM) (x1 : Int32) (x2 : Int32) (H : Heap) (locs : List Loc) (ls : Array Slot) (h : f_X10_most M x1 x2 = some r) (hZ : zS g xE 125 s H locs M) (hl : lv_has ls 4 [(0, .ref (g.2.2 0)), (1, .int x1), (2, .int x2)]) : W p l e (zrm 83 1 (6 * 1)) s m args below meth c H locs 0 0 (zQt g xE 125 below args s 1 r) (F0 m 0 ls []) := by
  have hx := E.1.1
  have hb := E.1.2.1
  unfold f_X10_most at h
  refine lv_aload_n hx hb dX10_most_0 rfl (lv_at hl 0 rfl) ?_
  refine lv_iload_n hx hb dX10_most_1 rfl (lv_at hl 1 rfl) ?_
  obtain ⟨u_5, qu_5, h⟩ := zbt_some h
  refine zctv (zrunVt E X hZ (xb_X10 xs_0) ((xe_X10 xs_0) _) rfl rfl v_X10_needMonk kw_872 (c_X10_needMonk l X.1 g M  x1 qu_5 _) rfl hl.1 rfl (Nat.le_of_ble_eq_true rfl) ⟨by decide, by decide⟩ ⟨by decide, by decide⟩ dX10_most_2) X hZ h (by decide) (by decide) (fun M_6 H locs eM_6 h hZ => ?_)
  refine W.widen (k := 1) (n := 6) (by decide) (by decide) ?_
  refine lv_aload_n hx hb dX10_most_5 rfl (lv_at hl 0 rfl) ?_
  refine zg (v := .ref (g.2.2 3)) E hZ (xb_X10 xs_0) ((xe_X10 xs_0) _) kc_X10 1 (by decide) kw_353 rfl rfl dX10_most_6 ?_
  refine lv_iload_n hx hb dX10_most_9 rfl (lv_at hl 1 rfl) ?_
  obtain ⟨u_7, qu_7, h⟩ := zbn_some h
  refine zciR (zrunV E hZ (xb_X9 xs_3) ((xe_X9 xs_3) _) rfl rfl v_X9_isDrowned kw_459 (c_X9_isDrowned l g M_6 3 xs_3 x1 qu_7 _) rfl hl.1 rfl (Nat.le_of_ble_eq_true rfl) ⟨by decide, by decide⟩ ⟨by decide, by decide⟩ dX10_most_10) hZ (fun H locs hZ => ?_)
  refine zif_eq (tgt := 20) h E dX10_most_13 (by decide) (fun c_9 h => ?_) (fun c_9 h => ?_)
  · refine lv_aload_n hx hb dX10_most_20 rfl (lv_at hl 0 rfl) ?_
    refine zg (v := .ref (g.2.2 45)) E hZ (xb_X10 xs_0) ((xe_X10 xs_0) _) kc_X10 11 (by decide) kw_363 rfl rfl dX10_most_21 ?_
    refine lv_aload_n hx hb dX10_most_24 rfl (lv_at hl 0 rfl) ?_
    refine zg (v := .ref (g.2.2 3)) E hZ (xb_X10 xs_0) ((xe_X10 xs_0) _) kc_X10 1 (by decide) kw_353 rfl rfl dX10_most_25 ?_
    refine lv_iload_n hx hb dX10_most_28 rfl (lv_at hl 1 rfl) ?_
    obtain ⟨u_8, qu_8, h⟩ := zbn_some h
    refine zciS (zrunV E hZ (xb_X2 xs_45) ((xe_X2 xs_45) _) rfl rfl v_X2_keepMost kw_1205 (c_X2_keepMost l g M_6 3 xs_3 x1 qu_8 _) rfl hl.1 rfl (Nat.le_of_ble_eq_true rfl) ⟨by decide, by decide⟩ ⟨by decide, by decide⟩ dX10_most_29) hZ (fun H locs hZ => ?_)
    exact lb_X10_most_32 g  E X hret u_8.2 x2 u_8.1  H locs ls h hZ (lv_sub hl [0, 2] rfl)
  · refine lv_iconst (v := 0) hx hb dX10_most_16 (by decide) ?_
    refine lv_goto (tgt := 32) hx hb dX10_most_17 (by decide) ?_
    exact lb_X10_most_32 g  E X hret M_6 x2 0  H locs ls h hZ (lv_sub hl [0, 2] rfl)
theorem c_X10_most (l : Launch) (hst : l.stackTraces = false) (g : zG) (M : zM)  (x1 : Int32) (x2 : Int32) {r : zT1} (h : f_X10_most M x1 x2 = some r) : zMt l g xE 125 yX10_most (zWs yX10_most cX10_most 4 (some .int)) 83 1 [.ref (g.2.2 0), .int x1, .int x2] M r :=
  zMt_of hst (by decide +kernel) (Nat.le_of_ble_eq_true rfl) (fun p e s m args below meth c ls E X hret hZ hl => w_X10_most g  E X hret M x1 x2 _ _ ls h hZ hl)
theorem v_X10_most : zYV yX10_most cX10_most 4 (some .int) 2 := ⟨kw_1204, kw_1, kw_1202, kw_1203, by decide +kernel⟩

def b_X10_useTold_35  (x1 : Int32) : Nat → zM → Int32 → Option (zT1)
  | 0, _, _ => none
  | n + 1, M, x2 =>
    if x1 ≤ x2 then (some (M, .inr x1)) else (zbn (f_X10_at M 2 x2) (fun u_1 => zbt (f_X10_needWithin M u_1 0 11) (fun M_3 _ => zbn (f_X10_at M_3 2 (x2 + 1)) (fun u_4 => zbt (f_X10_needWithin M_3 u_4 0 12) (fun M_6 _ => znm (x2 + 2) (fun x2_7 => b_X10_useTold_35  x1 n M_6 x2_7))))))
set_option maxRecDepth 100000 in
set_option maxHeartbeats 4000000 in
theorem lb_X10_useTold_35 (g : zG)  {r : zT1} (E : zX g p m c cX10_useTold 3 s args (zWs yX10_useTold cX10_useTold 3 (some .int)) RX10) (X : zXt g 125 l s c meth) (hret : zRti g xE 125 p l e (zrm 9 46 (6 * 46)) s m args below meth c 46 cX10_useTold .int r) (x1 : Int32)  : ∀ (n : Nat) (cn : Nat) (hcn : cn + 2 * n ≤ 44) (M : zM) (x2 : Int32) (H : Heap) (locs : List Loc) (ls : Array Slot), b_X10_useTold_35  x1 n M x2 = some r → zS g xE 125 s H locs M → lv_has ls 3 [(0, .ref (g.2.2 0)), (1, .int x1), (2, .int x2)] → W p l e (zrm 9 46 (6 * 46)) s m args below meth c H locs cn (6 * cn) (zQt g xE 125 below args s 46 r) (F0 m 35 ls []) := by
  have hx := E.1.1
  have hb := E.1.2.1
  intro n
  induction n with
  | zero => intro cn hcn M x2 H locs ls h hZ hl; cases h
  | succ n ih =>
    intro cn hcn M x2 H locs ls h hZ hl
    rw [b_X10_useTold_35] at h
    refine lv_iload_n hx hb dX10_useTold_35 rfl (lv_at hl 2 rfl) ?_
    refine lv_iload_n hx hb dX10_useTold_36 rfl (lv_at hl 1 rfl) ?_
    refine zic_ge (tgt := 84) h E dX10_useTold_37 (by decide) (fun c_8 h => ?_) (fun c_8 h => ?_)
    · refine lv_iload_n hx hb dX10_useTold_84 rfl (lv_at hl 1 rfl) ?_
      exact hret _ _ _ _ _ _ _ _ h rfl hZ dX10_useTold_85 (by omega) (by omega)
    · refine lv_aload_n hx hb dX10_useTold_40 rfl (lv_at hl 0 rfl) ?_
      refine lv_aload_n hx hb dX10_useTold_41 rfl (lv_at hl 0 rfl) ?_
      refine zg (v := .ref (g.2.2 1)) E hZ (xb_X10 xs_0) ((xe_X10 xs_0) _) kc_X10 0 (by decide) kw_352 rfl rfl dX10_useTold_42 ?_
      refine zg (v := .ref (g.2.2 2)) E hZ (xb_X6 xs_1) ((xe_X6 xs_1) _) kc_X6 0 (by decide) kw_44 rfl rfl dX10_useTold_45 ?_
      refine lv_iload_n hx hb dX10_useTold_48 rfl (lv_at hl 2 rfl) ?_
      obtain ⟨u_1, qu_1, h⟩ := zbn_some h
      refine zciR (zrunS E hZ v_X10_at kw_863 (c_X10_at l g M 2 xs_2.1 x2 qu_1 _) rfl hl.1 rfl (Nat.le_of_ble_eq_true rfl) ⟨by decide, by decide⟩ ⟨by simp only [zrm]; omega, by simp only [zrm]; omega⟩ dX10_useTold_49) hZ (fun H locs hZ => ?_)
      refine lv_iconst (v := 0) hx hb dX10_useTold_52 (by decide) ?_
      refine lv_bipush (v := 11) hx hb dX10_useTold_53 (by decide) ?_
      obtain ⟨u_2, qu_2, h⟩ := zbt_some h
      refine zctv (zrunVt E X hZ (xb_X10 xs_0) ((xe_X10 xs_0) _) rfl rfl v_X10_needWithin kw_917 (c_X10_needWithin l X.1 g M  u_1 0 11 qu_2 _) rfl hl.1 rfl (Nat.le_of_ble_eq_true rfl) ⟨by decide, by decide⟩ ⟨by simp only [zrm]; omega, by simp only [zrm]; omega⟩ dX10_useTold_55) X hZ h (by omega) (by omega) (fun M_3 H locs eM_3 h hZ => ?_)
      refine W.widen (k := (cn + 1)) (n := (6 * (cn + 1))) (by omega) (by omega) ?_
      refine lv_aload_n hx hb dX10_useTold_58 rfl (lv_at hl 0 rfl) ?_
      refine lv_aload_n hx hb dX10_useTold_59 rfl (lv_at hl 0 rfl) ?_
      refine zg (v := .ref (g.2.2 1)) E hZ (xb_X10 xs_0) ((xe_X10 xs_0) _) kc_X10 0 (by decide) kw_352 rfl rfl dX10_useTold_60 ?_
      refine zg (v := .ref (g.2.2 2)) E hZ (xb_X6 xs_1) ((xe_X6 xs_1) _) kc_X6 0 (by decide) kw_44 rfl rfl dX10_useTold_63 ?_
      refine lv_iload_n hx hb dX10_useTold_66 rfl (lv_at hl 2 rfl) ?_
      refine lv_iconst (v := 1) hx hb dX10_useTold_67 (by decide) ?_
      refine lv_iadd hx hb dX10_useTold_68 ?_
      obtain ⟨u_4, qu_4, h⟩ := zbn_some h
      refine zciR (zrunS E hZ v_X10_at kw_863 (c_X10_at l g M_3 2 xs_2.1 (x2 + 1) qu_4 _) rfl hl.1 rfl (Nat.le_of_ble_eq_true rfl) ⟨by decide, by decide⟩ ⟨by simp only [zrm]; omega, by simp only [zrm]; omega⟩ dX10_useTold_69) hZ (fun H locs hZ => ?_)
      refine lv_iconst (v := 0) hx hb dX10_useTold_72 (by decide) ?_
      refine lv_bipush (v := 12) hx hb dX10_useTold_73 (by decide) ?_
      obtain ⟨u_5, qu_5, h⟩ := zbt_some h
      refine zctv (zrunVt E X hZ (xb_X10 xs_0) ((xe_X10 xs_0) _) rfl rfl v_X10_needWithin kw_917 (c_X10_needWithin l X.1 g M_3  u_4 0 12 qu_5 _) rfl hl.1 rfl (Nat.le_of_ble_eq_true rfl) ⟨by decide, by decide⟩ ⟨by simp only [zrm]; omega, by simp only [zrm]; omega⟩ dX10_useTold_75) X hZ h (by omega) (by omega) (fun M_6 H locs eM_6 h hZ => ?_)
      refine W.widen (k := (cn + 2)) (n := (6 * (cn + 2))) (by omega) (by omega) ?_
      obtain ⟨x2_7, ex2_7, h⟩ := znm_ex h
      refine lv_iinc (v := x2_7) (lv' := [(2, .int x2_7), (0, .ref (g.2.2 0)), (1, .int x1)]) hx hb dX10_useTold_78 hl (k := 2) rfl (by rw [ex2_7]; rfl) (by decide) rfl (fun ls hl => ?_)
      refine lv_goto (tgt := 35) hx hb dX10_useTold_81 (by decide) ?_
      exact ih (cn + 2) (by omega) M_6 x2_7 H locs ls h hZ (lv_sub hl [1, 2, 0] rfl)
def f_X10_useTold (M : zM)  : Option (zT1) :=
  znm (M 1 1) (fun x1_9 => znm (zu M 1 1 0) (fun M_10 => zbt (f_X10_needWithin M_10 x1_9 0 40) (fun M_12 _ => zck (decide (¬ (2 : Int32) = 0)) (zbt (f_X10_needWithin M_12 (x1_9 - x1_9 / 2 * 2) 0 0) (fun M_14 _ => b_X10_useTold_35  x1_9 21 M_14 0)))))
set_option maxRecDepth 100000 in
set_option maxHeartbeats 4000000 in
theorem w_X10_useTold (g : zG)  {r : zT1} (E : zX g p m c cX10_useTold 3 s args (zWs yX10_useTold cX10_useTold 3 (some .int)) RX10) (X : zXt g 125 l s c meth) (hret : zRti g xE 125 p l e (zrm 9 46 (6 * 46)) s m args below meth c 46 cX10_useTold .int r) (M : zM)  (H : Heap) (locs : List Loc) (ls : Array Slot) (h : f_X10_useTold M  = some r) (hZ : zS g xE 125 s H locs M) (hl : lv_has ls 3 [(0, .ref (g.2.2 0))]) : W p l e (zrm 9 46 (6 * 46)) s m args below meth c H locs 0 0 (zQt g xE 125 below args s 46 r) (F0 m 0 ls []) := by
  have hx := E.1.1
  have hb := E.1.2.1
  unfold f_X10_useTold at h
  refine lv_aload_n hx hb dX10_useTold_0 rfl (lv_at hl 0 rfl) ?_
  refine zg (v := .ref (g.2.2 1)) E hZ (xb_X10 xs_0) ((xe_X10 xs_0) _) kc_X10 0 (by decide) kw_352 rfl rfl dX10_useTold_1 ?_
  refine zg (v := .int (M 1 1)) E hZ (xb_X6 xs_1) ((xe_X6 xs_1) _) kc_X6 1 (by decide) kw_46 rfl rfl dX10_useTold_4 ?_
  refine zni h (fun x1_9 ex1_9 h => ?_)
  refine lv_istore_n (lv' := [(1, .int x1_9), (0, .ref (g.2.2 0))]) hx hb dX10_useTold_7 rfl hl (by decide) rfl (fun ls hl => ?_)
  refine lv_aload_n hx hb dX10_useTold_8 rfl (lv_at hl 1 rfl) ?_
  refine zg (v := .ref (g.2.2 1)) E hZ (xb_X10 xs_0) ((xe_X10 xs_0) _) kc_X10 0 (by decide) kw_352 rfl rfl dX10_useTold_9 ?_
  refine lv_iconst (v := 0) hx hb dX10_useTold_12 (by decide) ?_
  refine zp h E hZ (xb_X6 xs_1) ((xe_X6 xs_1) _) (((xe_X6 xs_1) _).trans (congrArg (fun z => Sum.inr (5, z)) (fs_X6_1 g _ _ _))) kc_X6 (by decide) kw_46 rfl rfl rfl (Nat.le_of_ble_eq_true rfl) dX10_useTold_13 (fun M_10 H locs eM_10 h hZ => ?_)
  refine lv_aload_n hx hb dX10_useTold_16 rfl (lv_at hl 1 rfl) ?_
  refine lv_iload_n hx hb dX10_useTold_17 rfl (lv_at hl 0 rfl) ?_
  refine lv_iconst (v := 0) hx hb dX10_useTold_18 (by decide) ?_
  refine lv_bipush (v := 40) hx hb dX10_useTold_19 (by decide) ?_
  obtain ⟨u_11, qu_11, h⟩ := zbt_some h
  refine zctv (zrunVt E X hZ (xb_X10 xs_0) ((xe_X10 xs_0) _) rfl rfl v_X10_needWithin kw_917 (c_X10_needWithin l X.1 g M_10  x1_9 0 40 qu_11 _) rfl hl.1 rfl (Nat.le_of_ble_eq_true rfl) ⟨by decide, by decide⟩ ⟨by decide, by decide⟩ dX10_useTold_21) X hZ h (by decide) (by decide) (fun M_12 H locs eM_12 h hZ => ?_)
  refine W.widen (k := 1) (n := 6) (by decide) (by decide) ?_
  refine lv_aload_n hx hb dX10_useTold_24 rfl (lv_at hl 1 rfl) ?_
  refine lv_iload_n hx hb dX10_useTold_25 rfl (lv_at hl 0 rfl) ?_
  refine lv_iconst (v := 2) hx hb dX10_useTold_26 (by decide) ?_
  refine zrem h E dX10_useTold_27 (fun h => ?_)
  refine lv_iconst (v := 0) hx hb dX10_useTold_28 (by decide) ?_
  refine lv_iconst (v := 0) hx hb dX10_useTold_29 (by decide) ?_
  obtain ⟨u_13, qu_13, h⟩ := zbt_some h
  refine zctv (zrunVt E X hZ (xb_X10 xs_0) ((xe_X10 xs_0) _) rfl rfl v_X10_needWithin kw_917 (c_X10_needWithin l X.1 g M_12  (x1_9 - x1_9 / 2 * 2) 0 0 qu_13 _) rfl hl.1 rfl (Nat.le_of_ble_eq_true rfl) ⟨by decide, by decide⟩ ⟨by decide, by decide⟩ dX10_useTold_30) X hZ h (by decide) (by decide) (fun M_14 H locs eM_14 h hZ => ?_)
  refine W.widen (k := 2) (n := 12) (by decide) (by decide) ?_
  refine lv_iconst (v := 0) hx hb dX10_useTold_33 (by decide) ?_
  refine lv_istore_n (lv' := [(2, .int 0), (1, .int x1_9), (0, .ref (g.2.2 0))]) hx hb dX10_useTold_34 rfl hl (by decide) rfl (fun ls hl => ?_)
  exact lb_X10_useTold_35 g  E X hret x1_9  21 2 (by decide) M_14 0 H locs ls h hZ (lv_sub hl [2, 1, 0] rfl)
theorem c_X10_useTold (l : Launch) (hst : l.stackTraces = false) (g : zG) (M : zM)   {r : zT1} (h : f_X10_useTold M  = some r) : zMt l g xE 125 yX10_useTold (zWs yX10_useTold cX10_useTold 3 (some .int)) 9 46 [.ref (g.2.2 0)] M r :=
  zMt_of hst (by decide +kernel) (Nat.le_of_ble_eq_true rfl) (fun p e s m args below meth c ls E X hret hZ hl => w_X10_useTold g  E X hret M  _ _ ls h hZ hl)
theorem v_X10_useTold : zYV yX10_useTold cX10_useTold 3 (some .int) 0 := ⟨kw_1232, kw_1, kw_1231, kp_37, by decide +kernel⟩

def b_X10_came_44  (M : zM) (x1 : Int32) (x3 : Int32) (x4 : Int32) : Option (zT1) :=
  if x1 = 0 then (some (M, .inr x3)) else (some (M, .inr x4))
set_option maxRecDepth 100000 in
set_option maxHeartbeats 4000000 in
theorem lb_X10_came_44 (g : zG)  {r : zT1} (E : zX g p m c cX10_came 6 s args (zWs yX10_came cX10_came 6 (some .int)) RX10) (X : zXt g 125 l s c meth) (hret : zRti g xE 125 p l e (zrm 10 46 (6 * 46)) s m args below meth c 46 cX10_came .int r) (M : zM) (x1 : Int32) (x3 : Int32) (x4 : Int32)  (H : Heap) (locs : List Loc) (ls : Array Slot) (h : b_X10_came_44  M x1 x3 x4 = some r) (hZ : zS g xE 125 s H locs M) (hl : lv_has ls 6 [(1, .int x1), (3, .int x3), (4, .int x4)]) : W p l e (zrm 10 46 (6 * 46)) s m args below meth c H locs 46 276 (zQt g xE 125 below args s 46 r) (F0 m 44 ls []) := by
  have hx := E.1.1
  have hb := E.1.2.1
  unfold b_X10_came_44 at h
  refine lv_iload_n hx hb dX10_came_44 rfl (lv_at hl 0 rfl) ?_
  refine zif_eq (tgt := 53) h E dX10_came_45 (by decide) (fun c_1 h => ?_) (fun c_1 h => ?_)
  · refine lv_iload_n hx hb dX10_came_53 rfl (lv_at hl 1 rfl) ?_
    exact hret _ _ _ _ _ _ _ _ h rfl hZ dX10_came_54 (by decide) (by decide)
  · refine lv_iload hx hb dX10_came_48 (lv_at hl 2 rfl) ?_
    refine lv_goto (tgt := 54) hx hb dX10_came_50 (by decide) ?_
    exact hret _ _ _ _ _ _ _ _ h rfl hZ dX10_came_54 (by decide) (by decide)
def b_X10_came_38 (K14 : Int32 → Int32 → Int32 → Option (zT1)) (M : zM) (x1 : Int32) (x2 : Int32) (x3 : Int32) (x4 : Int32) (x5 : Int32) : Option (zT1) :=
  znm (x5 + (-1)) (fun x5_2 => K14 x3 x4 x5_2)
set_option maxRecDepth 100000 in
set_option maxHeartbeats 4000000 in
theorem lb_X10_came_38 (g : zG)  {r : zT1} (E : zX g p m c cX10_came 6 s args (zWs yX10_came cX10_came 6 (some .int)) RX10) (X : zXt g 125 l s c meth) (hret : zRti g xE 125 p l e (zrm 10 46 (6 * 46)) s m args below meth c 46 cX10_came .int r) (M : zM) (x1 : Int32) (x2 : Int32) (x3 : Int32) (x4 : Int32) (x5 : Int32) (K14 : Int32 → Int32 → Int32 → Option (zT1)) (hK14 : ∀ (x3 : Int32) (x4 : Int32) (x5 : Int32) (H : Heap) (locs : List Loc) (ls : Array Slot), K14 x3 x4 x5 = some r → zS g xE 125 s H locs M → lv_has ls 6 [(0, .ref (g.2.2 0)), (1, .int x1), (2, .int x2), (3, .int x3), (4, .int x4), (5, .int x5)] → W p l e (zrm 10 46 (6 * 46)) s m args below meth c H locs 46 276 (zQt g xE 125 below args s 46 r) (F0 m 14 ls [])) (H : Heap) (locs : List Loc) (ls : Array Slot) (h : b_X10_came_38 K14 M x1 x2 x3 x4 x5 = some r) (hZ : zS g xE 125 s H locs M) (hl : lv_has ls 6 [(0, .ref (g.2.2 0)), (1, .int x1), (2, .int x2), (3, .int x3), (4, .int x4), (5, .int x5)]) : W p l e (zrm 10 46 (6 * 46)) s m args below meth c H locs 46 276 (zQt g xE 125 below args s 46 r) (F0 m 38 ls []) := by
  have hx := E.1.1
  have hb := E.1.2.1
  unfold b_X10_came_38 at h
  obtain ⟨x5_2, ex5_2, h⟩ := znm_ex h
  refine lv_iinc (v := x5_2) (lv' := [(5, .int x5_2), (0, .ref (g.2.2 0)), (1, .int x1), (2, .int x2), (3, .int x3), (4, .int x4)]) hx hb dX10_came_38 hl (k := 5) rfl (by rw [ex5_2]; rfl) (by decide) rfl (fun ls hl => ?_)
  refine lv_goto (tgt := 14) hx hb dX10_came_41 (by decide) ?_
  exact hK14 x3 x4 x5_2 H locs ls h hZ (lv_sub hl [1, 2, 3, 4, 5, 0] rfl)
def b_X10_came_14  (M : zM) (x1 : Int32) (x2 : Int32) : Nat → Int32 → Int32 → Int32 → Option (zT1)
  | 0, _, _, _ => none
  | n + 1, x3, x4, x5 =>
    if x5 < ((-3)) then (b_X10_came_44  M x1 x3 x4) else (zbn (f_X10_misfits M x5 x2) (fun u_3 => if u_3 = 0 then (znm (x3 + 1) (fun x3_4 => b_X10_came_38 (fun x3 x4 x5 => b_X10_came_14  M x1 x2 n x3 x4 x5) M x1 x2 x3_4 x5 x5)) else (b_X10_came_38 (fun x3 x4 x5 => b_X10_came_14  M x1 x2 n x3 x4 x5) M x1 x2 x3 x4 x5)))
set_option maxRecDepth 100000 in
set_option maxHeartbeats 4000000 in
theorem lb_X10_came_14 (g : zG)  {r : zT1} (E : zX g p m c cX10_came 6 s args (zWs yX10_came cX10_came 6 (some .int)) RX10) (X : zXt g 125 l s c meth) (hret : zRti g xE 125 p l e (zrm 10 46 (6 * 46)) s m args below meth c 46 cX10_came .int r) (M : zM) (x1 : Int32) (x2 : Int32)  : ∀ (n : Nat) (x3 : Int32) (x4 : Int32) (x5 : Int32) (H : Heap) (locs : List Loc) (ls : Array Slot), b_X10_came_14  M x1 x2 n x3 x4 x5 = some r → zS g xE 125 s H locs M → lv_has ls 6 [(0, .ref (g.2.2 0)), (1, .int x1), (2, .int x2), (3, .int x3), (4, .int x4), (5, .int x5)] → W p l e (zrm 10 46 (6 * 46)) s m args below meth c H locs 46 276 (zQt g xE 125 below args s 46 r) (F0 m 14 ls []) := by
  have hx := E.1.1
  have hb := E.1.2.1
  intro n
  induction n with
  | zero => intro x3 x4 x5 H locs ls h hZ hl; cases h
  | succ n ih =>
    intro x3 x4 x5 H locs ls h hZ hl
    rw [b_X10_came_14] at h
    refine lv_iload hx hb dX10_came_14 (lv_at hl 5 rfl) ?_
    refine lv_bipush (v := (-3)) hx hb dX10_came_16 (by decide) ?_
    refine zic_lt (tgt := 44) h E dX10_came_18 (by decide) (fun c_6 h => ?_) (fun c_6 h => ?_)
    · exact lb_X10_came_44 g  E X hret M x1 x3 x4  H locs ls h hZ (lv_sub hl [1, 3, 4] rfl)
    · refine lv_aload_n hx hb dX10_came_21 rfl (lv_at hl 0 rfl) ?_
      refine lv_iload hx hb dX10_came_22 (lv_at hl 5 rfl) ?_
      refine lv_iload_n hx hb dX10_came_24 rfl (lv_at hl 2 rfl) ?_
      obtain ⟨u_3, qu_3, h⟩ := zbn_some h
      refine zciR (zrunV E hZ (xb_X10 xs_0) ((xe_X10 xs_0) _) rfl rfl v_X10_misfits kw_1233 (c_X10_misfits l g M  x5 x2 qu_3 _) rfl hl.1 rfl (Nat.le_of_ble_eq_true rfl) ⟨by decide, by decide⟩ ⟨by decide, by decide⟩ dX10_came_25) hZ (fun H locs hZ => ?_)
      refine zif_ne (tgt := 38) h E dX10_came_28 (by decide) (fun c_5 h => ?_) (fun c_5 h => ?_)
      · exact lb_X10_came_38 g  E X hret M x1 x2 x3 x4 x5 (fun x3 x4 x5 => b_X10_came_14  M x1 x2 n x3 x4 x5) ih H locs ls h hZ (lv_sub hl [0, 1, 2, 3, 4, 5] rfl)
      · obtain ⟨x3_4, ex3_4, h⟩ := znm_ex h
        refine lv_iinc (v := x3_4) (lv' := [(3, .int x3_4), (0, .ref (g.2.2 0)), (1, .int x1), (2, .int x2), (4, .int x4), (5, .int x5)]) hx hb dX10_came_31 hl (k := 3) rfl (by rw [ex3_4]; rfl) (by decide) rfl (fun ls hl => ?_)
        refine lv_iload hx hb dX10_came_34 (lv_at hl 5 rfl) ?_
        refine lv_istore (lv' := [(4, .int x5), (3, .int x3_4), (0, .ref (g.2.2 0)), (1, .int x1), (2, .int x2), (5, .int x5)]) hx hb dX10_came_36 hl (by decide) rfl (fun ls hl => ?_)
        exact lb_X10_came_38 g  E X hret M x1 x2 x3_4 x5 x5 (fun x3 x4 x5 => b_X10_came_14  M x1 x2 n x3 x4 x5) ih H locs ls h hZ (lv_sub hl [2, 3, 4, 1, 0, 5] rfl)
def f_X10_came (M : zM) (x1 : Int32) : Option (zT1) :=
  zbt (f_X10_useTold M ) (fun M_8 v_9 => b_X10_came_14  M_8 x1 v_9 6000 0 ((-9)) 3)
set_option maxRecDepth 100000 in
set_option maxHeartbeats 4000000 in
theorem w_X10_came (g : zG)  {r : zT1} (E : zX g p m c cX10_came 6 s args (zWs yX10_came cX10_came 6 (some .int)) RX10) (X : zXt g 125 l s c meth) (hret : zRti g xE 125 p l e (zrm 10 46 (6 * 46)) s m args below meth c 46 cX10_came .int r) (M : zM) (x1 : Int32) (H : Heap) (locs : List Loc) (ls : Array Slot) (h : f_X10_came M x1 = some r) (hZ : zS g xE 125 s H locs M) (hl : lv_has ls 6 [(0, .ref (g.2.2 0)), (1, .int x1)]) : W p l e (zrm 10 46 (6 * 46)) s m args below meth c H locs 0 0 (zQt g xE 125 below args s 46 r) (F0 m 0 ls []) := by
  have hx := E.1.1
  have hb := E.1.2.1
  unfold f_X10_came at h
  refine lv_aload_n hx hb dX10_came_0 rfl (lv_at hl 0 rfl) ?_
  obtain ⟨u_7, qu_7, h⟩ := zbt_some h
  refine zct (zrunVt E X hZ (xb_X10 xs_0) ((xe_X10 xs_0) _) rfl rfl v_X10_useTold kw_1229 (c_X10_useTold l X.1 g M   qu_7 _) rfl hl.1 rfl (Nat.le_of_ble_eq_true rfl) ⟨by decide, by decide⟩ ⟨by decide, by decide⟩ dX10_came_1) X hZ h (by decide) (by decide) (fun v_9 M_8 H locs eM_8 h hZ => ?_)
  refine W.widen (k := 46) (n := 276) (by decide) (by decide) ?_
  refine lv_istore_n (lv' := [(2, .int v_9), (0, .ref (g.2.2 0)), (1, .int x1)]) hx hb dX10_came_4 rfl hl (by decide) rfl (fun ls hl => ?_)
  refine lv_iconst (v := 0) hx hb dX10_came_5 (by decide) ?_
  refine lv_istore_n (lv' := [(3, .int 0), (2, .int v_9), (0, .ref (g.2.2 0)), (1, .int x1)]) hx hb dX10_came_6 rfl hl (by decide) rfl (fun ls hl => ?_)
  refine lv_bipush (v := (-9)) hx hb dX10_came_7 (by decide) ?_
  refine lv_istore (lv' := [(4, .int ((-9))), (3, .int 0), (2, .int v_9), (0, .ref (g.2.2 0)), (1, .int x1)]) hx hb dX10_came_9 hl (by decide) rfl (fun ls hl => ?_)
  refine lv_iconst (v := 3) hx hb dX10_came_11 (by decide) ?_
  refine lv_istore (lv' := [(5, .int 3), (4, .int ((-9))), (3, .int 0), (2, .int v_9), (0, .ref (g.2.2 0)), (1, .int x1)]) hx hb dX10_came_12 hl (by decide) rfl (fun ls hl => ?_)
  exact lb_X10_came_14 g  E X hret M_8 x1 v_9  6000 0 ((-9)) 3 H locs ls h hZ (lv_sub hl [4, 5, 3, 2, 1, 0] rfl)
theorem c_X10_came (l : Launch) (hst : l.stackTraces = false) (g : zG) (M : zM)  (x1 : Int32) {r : zT1} (h : f_X10_came M x1 = some r) : zMt l g xE 125 yX10_came (zWs yX10_came cX10_came 6 (some .int)) 10 46 [.ref (g.2.2 0), .int x1] M r :=
  zMt_of hst (by decide +kernel) (Nat.le_of_ble_eq_true rfl) (fun p e s m args below meth c ls E X hret hZ hl => w_X10_came g  E X hret M x1 _ _ ls h hZ hl)
theorem v_X10_came : zYV yX10_came cX10_came 6 (some .int) 1 := ⟨kw_1228, kw_1, kw_1226, kw_1227, by decide +kernel⟩

def b_X10_amends_56  (M : zM) (x1 : Int32) (x3 : Int32) (x4 : Int32) : Option (zT1) :=
  if x1 = 0 then (some (M, .inr x4)) else (some (M, .inr x3))
set_option maxRecDepth 100000 in
set_option maxHeartbeats 4000000 in
theorem lb_X10_amends_56 (g : zG)  {r : zT1} (E : zX g p m c cX10_amends 7 s args (zWs yX10_amends cX10_amends 7 (some .int)) RX10) (X : zXt g 125 l s c meth) (hret : zRti g xE 125 p l e (zrm 10 46 (6 * 46)) s m args below meth c 46 cX10_amends .int r) (M : zM) (x1 : Int32) (x3 : Int32) (x4 : Int32)  (H : Heap) (locs : List Loc) (ls : Array Slot) (h : b_X10_amends_56  M x1 x3 x4 = some r) (hZ : zS g xE 125 s H locs M) (hl : lv_has ls 7 [(1, .int x1), (3, .int x3), (4, .int x4)]) : W p l e (zrm 10 46 (6 * 46)) s m args below meth c H locs 46 276 (zQt g xE 125 below args s 46 r) (F0 m 56 ls []) := by
  have hx := E.1.1
  have hb := E.1.2.1
  unfold b_X10_amends_56 at h
  refine lv_iload_n hx hb dX10_amends_56 rfl (lv_at hl 0 rfl) ?_
  refine zif_eq (tgt := 64) h E dX10_amends_57 (by decide) (fun c_1 h => ?_) (fun c_1 h => ?_)
  · refine lv_iload hx hb dX10_amends_64 (lv_at hl 2 rfl) ?_
    exact hret _ _ _ _ _ _ _ _ h rfl hZ dX10_amends_66 (by decide) (by decide)
  · refine lv_iload_n hx hb dX10_amends_60 rfl (lv_at hl 1 rfl) ?_
    refine lv_goto (tgt := 66) hx hb dX10_amends_61 (by decide) ?_
    exact hret _ _ _ _ _ _ _ _ h rfl hZ dX10_amends_66 (by decide) (by decide)
def b_X10_amends_50 (K21 : Int32 → Int32 → Int32 → Option (zT1)) (M : zM) (x1 : Int32) (x2 : Int32) (x3 : Int32) (x4 : Int32) (x5 : Int32) : Option (zT1) :=
  znm (x5 + 1) (fun x5_2 => K21 x3 x4 x5_2)
set_option maxRecDepth 100000 in
set_option maxHeartbeats 4000000 in
theorem lb_X10_amends_50 (g : zG)  {r : zT1} (E : zX g p m c cX10_amends 7 s args (zWs yX10_amends cX10_amends 7 (some .int)) RX10) (X : zXt g 125 l s c meth) (hret : zRti g xE 125 p l e (zrm 10 46 (6 * 46)) s m args below meth c 46 cX10_amends .int r) (M : zM) (x1 : Int32) (x2 : Int32) (x3 : Int32) (x4 : Int32) (x5 : Int32) (K21 : Int32 → Int32 → Int32 → Option (zT1)) (hK21 : ∀ (x3 : Int32) (x4 : Int32) (x5 : Int32) (H : Heap) (locs : List Loc) (ls : Array Slot), K21 x3 x4 x5 = some r → zS g xE 125 s H locs M → lv_has ls 7 [(0, .ref (g.2.2 0)), (1, .int x1), (2, .int x2), (3, .int x3), (4, .int x4), (5, .int x5)] → W p l e (zrm 10 46 (6 * 46)) s m args below meth c H locs 46 276 (zQt g xE 125 below args s 46 r) (F0 m 21 ls [])) (H : Heap) (locs : List Loc) (ls : Array Slot) (h : b_X10_amends_50 K21 M x1 x2 x3 x4 x5 = some r) (hZ : zS g xE 125 s H locs M) (hl : lv_has ls 7 [(0, .ref (g.2.2 0)), (1, .int x1), (2, .int x2), (3, .int x3), (4, .int x4), (5, .int x5)]) : W p l e (zrm 10 46 (6 * 46)) s m args below meth c H locs 46 276 (zQt g xE 125 below args s 46 r) (F0 m 50 ls []) := by
  have hx := E.1.1
  have hb := E.1.2.1
  unfold b_X10_amends_50 at h
  obtain ⟨x5_2, ex5_2, h⟩ := znm_ex h
  refine lv_iinc (v := x5_2) (lv' := [(5, .int x5_2), (0, .ref (g.2.2 0)), (1, .int x1), (2, .int x2), (3, .int x3), (4, .int x4)]) hx hb dX10_amends_50 hl (k := 5) rfl (by rw [ex5_2]; rfl) (by decide) rfl (fun ls hl => ?_)
  refine lv_goto (tgt := 21) hx hb dX10_amends_53 (by decide) ?_
  exact hK21 x3 x4 x5_2 H locs ls h hZ (lv_sub hl [1, 2, 3, 4, 5, 0] rfl)
def b_X10_amends_21  (M : zM) (x1 : Int32) (x2 : Int32) : Nat → Int32 → Int32 → Int32 → Option (zT1)
  | 0, _, _, _ => none
  | n + 1, x3, x4, x5 =>
    if 3 < x5 then (b_X10_amends_56  M x1 x3 x4) else (zbn (f_X10_misfits M x5 x2) (fun u_3 => if x4 ≤ u_3 then (b_X10_amends_50 (fun x3 x4 x5 => b_X10_amends_21  M x1 x2 n x3 x4 x5) M x1 x2 x3 x4 x5) else (b_X10_amends_50 (fun x3 x4 x5 => b_X10_amends_21  M x1 x2 n x3 x4 x5) M x1 x2 x5 u_3 x5)))
set_option maxRecDepth 100000 in
set_option maxHeartbeats 4000000 in
theorem lb_X10_amends_21 (g : zG)  {r : zT1} (E : zX g p m c cX10_amends 7 s args (zWs yX10_amends cX10_amends 7 (some .int)) RX10) (X : zXt g 125 l s c meth) (hret : zRti g xE 125 p l e (zrm 10 46 (6 * 46)) s m args below meth c 46 cX10_amends .int r) (M : zM) (x1 : Int32) (x2 : Int32)  : ∀ (n : Nat) (x3 : Int32) (x4 : Int32) (x5 : Int32) (H : Heap) (locs : List Loc) (ls : Array Slot), b_X10_amends_21  M x1 x2 n x3 x4 x5 = some r → zS g xE 125 s H locs M → lv_has ls 7 [(0, .ref (g.2.2 0)), (1, .int x1), (2, .int x2), (3, .int x3), (4, .int x4), (5, .int x5)] → W p l e (zrm 10 46 (6 * 46)) s m args below meth c H locs 46 276 (zQt g xE 125 below args s 46 r) (F0 m 21 ls []) := by
  have hx := E.1.1
  have hb := E.1.2.1
  intro n
  induction n with
  | zero => intro x3 x4 x5 H locs ls h hZ hl; cases h
  | succ n ih =>
    intro x3 x4 x5 H locs ls h hZ hl
    rw [b_X10_amends_21] at h
    refine lv_iload hx hb dX10_amends_21 (lv_at hl 5 rfl) ?_
    refine lv_iconst (v := 3) hx hb dX10_amends_23 (by decide) ?_
    refine zic_gt (tgt := 56) h E dX10_amends_24 (by decide) (fun c_5 h => ?_) (fun c_5 h => ?_)
    · exact lb_X10_amends_56 g  E X hret M x1 x3 x4  H locs ls h hZ (lv_sub hl [1, 3, 4] rfl)
    · refine lv_aload_n hx hb dX10_amends_27 rfl (lv_at hl 0 rfl) ?_
      refine lv_iload hx hb dX10_amends_28 (lv_at hl 5 rfl) ?_
      refine lv_iload_n hx hb dX10_amends_30 rfl (lv_at hl 2 rfl) ?_
      obtain ⟨u_3, qu_3, h⟩ := zbn_some h
      refine zciR (zrunV E hZ (xb_X10 xs_0) ((xe_X10 xs_0) _) rfl rfl v_X10_misfits kw_1233 (c_X10_misfits l g M  x5 x2 qu_3 _) rfl hl.1 rfl (Nat.le_of_ble_eq_true rfl) ⟨by decide, by decide⟩ ⟨by decide, by decide⟩ dX10_amends_31) hZ (fun H locs hZ => ?_)
      refine lv_istore (lv' := [(6, .int u_3), (0, .ref (g.2.2 0)), (1, .int x1), (2, .int x2), (3, .int x3), (4, .int x4), (5, .int x5)]) hx hb dX10_amends_34 hl (by decide) rfl (fun ls hl => ?_)
      refine lv_iload hx hb dX10_amends_36 (lv_at hl 0 rfl) ?_
      refine lv_iload hx hb dX10_amends_38 (lv_at hl 5 rfl) ?_
      refine zic_ge (tgt := 50) h E dX10_amends_40 (by decide) (fun c_4 h => ?_) (fun c_4 h => ?_)
      · exact lb_X10_amends_50 g  E X hret M x1 x2 x3 x4 x5 (fun x3 x4 x5 => b_X10_amends_21  M x1 x2 n x3 x4 x5) ih H locs ls h hZ (lv_sub hl [1, 2, 3, 4, 5, 6] rfl)
      · refine lv_iload hx hb dX10_amends_43 (lv_at hl 0 rfl) ?_
        refine lv_istore (lv' := [(4, .int u_3), (6, .int u_3), (0, .ref (g.2.2 0)), (1, .int x1), (2, .int x2), (3, .int x3), (5, .int x5)]) hx hb dX10_amends_45 hl (by decide) rfl (fun ls hl => ?_)
        refine lv_iload hx hb dX10_amends_47 (lv_at hl 6 rfl) ?_
        refine lv_istore_n (lv' := [(3, .int x5), (4, .int u_3), (6, .int u_3), (0, .ref (g.2.2 0)), (1, .int x1), (2, .int x2), (5, .int x5)]) hx hb dX10_amends_49 rfl hl (by decide) rfl (fun ls hl => ?_)
        exact lb_X10_amends_50 g  E X hret M x1 x2 x5 u_3 x5 (fun x3 x4 x5 => b_X10_amends_21  M x1 x2 n x3 x4 x5) ih H locs ls h hZ (lv_sub hl [3, 4, 5, 0, 1, 6] rfl)
def f_X10_amends (M : zM) (x1 : Int32) : Option (zT1) :=
  zbt (f_X10_useTold M ) (fun M_7 v_8 => zbn (f_X10_misfits M_7 ((-3)) v_8) (fun u_9 => znm (((-3)) + 1) (fun x5_10 => b_X10_amends_21  M_7 x1 v_8 6000 ((-3)) u_9 x5_10)))
set_option maxRecDepth 100000 in
set_option maxHeartbeats 4000000 in
theorem w_X10_amends (g : zG)  {r : zT1} (E : zX g p m c cX10_amends 7 s args (zWs yX10_amends cX10_amends 7 (some .int)) RX10) (X : zXt g 125 l s c meth) (hret : zRti g xE 125 p l e (zrm 10 46 (6 * 46)) s m args below meth c 46 cX10_amends .int r) (M : zM) (x1 : Int32) (H : Heap) (locs : List Loc) (ls : Array Slot) (h : f_X10_amends M x1 = some r) (hZ : zS g xE 125 s H locs M) (hl : lv_has ls 7 [(0, .ref (g.2.2 0)), (1, .int x1)]) : W p l e (zrm 10 46 (6 * 46)) s m args below meth c H locs 0 0 (zQt g xE 125 below args s 46 r) (F0 m 0 ls []) := by
  have hx := E.1.1
  have hb := E.1.2.1
  unfold f_X10_amends at h
  refine lv_aload_n hx hb dX10_amends_0 rfl (lv_at hl 0 rfl) ?_
  obtain ⟨u_6, qu_6, h⟩ := zbt_some h
  refine zct (zrunVt E X hZ (xb_X10 xs_0) ((xe_X10 xs_0) _) rfl rfl v_X10_useTold kw_1229 (c_X10_useTold l X.1 g M   qu_6 _) rfl hl.1 rfl (Nat.le_of_ble_eq_true rfl) ⟨by decide, by decide⟩ ⟨by decide, by decide⟩ dX10_amends_1) X hZ h (by decide) (by decide) (fun v_8 M_7 H locs eM_7 h hZ => ?_)
  refine W.widen (k := 46) (n := 276) (by decide) (by decide) ?_
  refine lv_istore_n (lv' := [(2, .int v_8), (0, .ref (g.2.2 0)), (1, .int x1)]) hx hb dX10_amends_4 rfl hl (by decide) rfl (fun ls hl => ?_)
  refine lv_bipush (v := (-3)) hx hb dX10_amends_5 (by decide) ?_
  refine lv_istore_n (lv' := [(3, .int ((-3))), (2, .int v_8), (0, .ref (g.2.2 0)), (1, .int x1)]) hx hb dX10_amends_7 rfl hl (by decide) rfl (fun ls hl => ?_)
  refine lv_aload_n hx hb dX10_amends_8 rfl (lv_at hl 2 rfl) ?_
  refine lv_iload_n hx hb dX10_amends_9 rfl (lv_at hl 0 rfl) ?_
  refine lv_iload_n hx hb dX10_amends_10 rfl (lv_at hl 1 rfl) ?_
  obtain ⟨u_9, qu_9, h⟩ := zbn_some h
  refine zciR (zrunV E hZ (xb_X10 xs_0) ((xe_X10 xs_0) _) rfl rfl v_X10_misfits kw_1233 (c_X10_misfits l g M_7  ((-3)) v_8 qu_9 _) rfl hl.1 rfl (Nat.le_of_ble_eq_true rfl) ⟨by decide, by decide⟩ ⟨by decide, by decide⟩ dX10_amends_11) hZ (fun H locs hZ => ?_)
  refine lv_istore (lv' := [(4, .int u_9), (3, .int ((-3))), (2, .int v_8), (0, .ref (g.2.2 0)), (1, .int x1)]) hx hb dX10_amends_14 hl (by decide) rfl (fun ls hl => ?_)
  refine lv_iload_n hx hb dX10_amends_16 rfl (lv_at hl 1 rfl) ?_
  refine lv_iconst (v := 1) hx hb dX10_amends_17 (by decide) ?_
  refine lv_iadd hx hb dX10_amends_18 ?_
  refine zni h (fun x5_10 ex5_10 h => ?_)
  refine lv_istore (lv' := [(5, .int x5_10), (4, .int u_9), (3, .int ((-3))), (2, .int v_8), (0, .ref (g.2.2 0)), (1, .int x1)]) hx hb dX10_amends_19 hl (by decide) rfl (fun ls hl => ?_)
  exact lb_X10_amends_21 g  E X hret M_7 x1 v_8  6000 ((-3)) u_9 x5_10 H locs ls h hZ (lv_sub hl [4, 5, 3, 2, 1, 0] rfl)
theorem c_X10_amends (l : Launch) (hst : l.stackTraces = false) (g : zG) (M : zM)  (x1 : Int32) {r : zT1} (h : f_X10_amends M x1 = some r) : zMt l g xE 125 yX10_amends (zWs yX10_amends cX10_amends 7 (some .int)) 10 46 [.ref (g.2.2 0), .int x1] M r :=
  zMt_of hst (by decide +kernel) (Nat.le_of_ble_eq_true rfl) (fun p e s m args below meth c ls E X hret hZ hl => w_X10_amends g  E X hret M x1 _ _ ls h hZ hl)
theorem v_X10_amends : zYV yX10_amends cX10_amends 7 (some .int) 1 := ⟨kw_1243, kw_1, kw_1241, kw_1242, by decide +kernel⟩

def b_X10_witness_91 (K44 : Int32 → Int32 → Int32 → Option (zT1)) (M : zM) (x2 : Int32) (x3 : Int32) (x4 : Int32) (x5 : Int32) : Option (zT1) :=
  znm (x5 + 1) (fun x5_1 => K44 x3 x4 x5_1)
set_option maxRecDepth 100000 in
set_option maxHeartbeats 4000000 in
theorem lb_X10_witness_91 (g : zG)  {r : zT1} (E : zX g p m c cX10_witness 7 s args (zWs yX10_witness cX10_witness 7 (some .int)) RX10) (X : zXt g 125 l s c meth) (hret : zRti g xE 125 p l e (zrm 10 46 (6 * 46)) s m args below meth c 46 cX10_witness .int r) (M : zM) (x2 : Int32) (x3 : Int32) (x4 : Int32) (x5 : Int32) (K44 : Int32 → Int32 → Int32 → Option (zT1)) (hK44 : ∀ (x3 : Int32) (x4 : Int32) (x5 : Int32) (H : Heap) (locs : List Loc) (ls : Array Slot), K44 x3 x4 x5 = some r → zS g xE 125 s H locs M → lv_has ls 7 [(0, .ref (g.2.2 0)), (2, .int x2), (3, .int x3), (4, .int x4), (5, .int x5)] → W p l e (zrm 10 46 (6 * 46)) s m args below meth c H locs 46 276 (zQt g xE 125 below args s 46 r) (F0 m 44 ls [])) (H : Heap) (locs : List Loc) (ls : Array Slot) (h : b_X10_witness_91 K44 M x2 x3 x4 x5 = some r) (hZ : zS g xE 125 s H locs M) (hl : lv_has ls 7 [(0, .ref (g.2.2 0)), (2, .int x2), (3, .int x3), (4, .int x4), (5, .int x5)]) : W p l e (zrm 10 46 (6 * 46)) s m args below meth c H locs 46 276 (zQt g xE 125 below args s 46 r) (F0 m 91 ls []) := by
  have hx := E.1.1
  have hb := E.1.2.1
  unfold b_X10_witness_91 at h
  obtain ⟨x5_1, ex5_1, h⟩ := znm_ex h
  refine lv_iinc (v := x5_1) (lv' := [(5, .int x5_1), (0, .ref (g.2.2 0)), (2, .int x2), (3, .int x3), (4, .int x4)]) hx hb dX10_witness_91 hl (k := 4) rfl (by rw [ex5_1]; rfl) (by decide) rfl (fun ls hl => ?_)
  refine lv_goto (tgt := 44) hx hb dX10_witness_94 (by decide) ?_
  exact hK44 x3 x4 x5_1 H locs ls h hZ (lv_sub hl [1, 2, 3, 4, 0] rfl)
def b_X10_witness_44  (M : zM) (x2 : Int32) : Nat → Int32 → Int32 → Int32 → Option (zT1)
  | 0, _, _, _ => none
  | n + 1, x3, x4, x5 =>
    if 12 ≤ x5 then (some (M, .inr x3)) else (zbn (f_X10_at M (3 + 2) x5) (fun u_2 => znm (if 0 ≤ u_2 then u_2 else 0 - u_2) (fun v_3 => zbn (f_X10_has M x2 x5) (fun u_4 => if u_4 = 0 then (if v_3 ≤ x4 then (b_X10_witness_91 (fun x3 x4 x5 => b_X10_witness_44  M x2 n x3 x4 x5) M x2 x3 x4 x5) else (b_X10_witness_91 (fun x3 x4 x5 => b_X10_witness_44  M x2 n x3 x4 x5) M x2 x5 v_3 x5)) else (b_X10_witness_91 (fun x3 x4 x5 => b_X10_witness_44  M x2 n x3 x4 x5) M x2 x3 x4 x5)))))
set_option maxRecDepth 100000 in
set_option maxHeartbeats 4000000 in
theorem lb_X10_witness_44 (g : zG)  {r : zT1} (E : zX g p m c cX10_witness 7 s args (zWs yX10_witness cX10_witness 7 (some .int)) RX10) (X : zXt g 125 l s c meth) (hret : zRti g xE 125 p l e (zrm 10 46 (6 * 46)) s m args below meth c 46 cX10_witness .int r) (M : zM) (x2 : Int32)  : ∀ (n : Nat) (x3 : Int32) (x4 : Int32) (x5 : Int32) (H : Heap) (locs : List Loc) (ls : Array Slot), b_X10_witness_44  M x2 n x3 x4 x5 = some r → zS g xE 125 s H locs M → lv_has ls 7 [(0, .ref (g.2.2 0)), (2, .int x2), (3, .int x3), (4, .int x4), (5, .int x5)] → W p l e (zrm 10 46 (6 * 46)) s m args below meth c H locs 46 276 (zQt g xE 125 below args s 46 r) (F0 m 44 ls []) := by
  have hx := E.1.1
  have hb := E.1.2.1
  intro n
  induction n with
  | zero => intro x3 x4 x5 H locs ls h hZ hl; cases h
  | succ n ih =>
    intro x3 x4 x5 H locs ls h hZ hl
    rw [b_X10_witness_44] at h
    refine lv_iload hx hb dX10_witness_44 (lv_at hl 4 rfl) ?_
    refine lv_bipush (v := 12) hx hb dX10_witness_46 (by decide) ?_
    refine zic_ge (tgt := 97) h E dX10_witness_48 (by decide) (fun c_7 h => ?_) (fun c_7 h => ?_)
    · refine lv_iload_n hx hb dX10_witness_97 rfl (lv_at hl 2 rfl) ?_
      exact hret _ _ _ _ _ _ _ _ h rfl hZ dX10_witness_98 (by decide) (by decide)
    · refine lv_aload_n hx hb dX10_witness_51 rfl (lv_at hl 0 rfl) ?_
      refine zg (v := .ref (g.2.2 3)) E hZ (xb_X10 xs_0) ((xe_X10 xs_0) _) kc_X10 1 (by decide) kw_353 rfl rfl dX10_witness_52 ?_
      refine zg (v := .ref (g.2.2 (3 + 2))) E hZ (xb_X9 xs_3) ((xe_X9 xs_3) _) kc_X9 16 (by decide) kw_116 rfl rfl dX10_witness_55 ?_
      refine lv_iload hx hb dX10_witness_58 (lv_at hl 4 rfl) ?_
      obtain ⟨u_2, qu_2, h⟩ := zbn_some h
      refine zciR (zrunS E hZ v_X10_at kw_863 (c_X10_at l g M (3 + 2) (xc_X9_errors xs_3).1 x5 qu_2 _) rfl hl.1 rfl (Nat.le_of_ble_eq_true rfl) ⟨by decide, by decide⟩ ⟨by decide, by decide⟩ dX10_witness_60) hZ (fun H locs hZ => ?_)
      refine va_mabs hx hb (E.1.2.2.1.trans hl.1.symm) E.1.2.2.2.1 (E.w kw_1251) (E.w kw_450) (E.w kw_16) (E.w kw_451) (Nat.le_of_ble_eq_true rfl) (Nat.le_of_ble_eq_true rfl) (Nat.le_of_ble_eq_true rfl) (Nat.le_of_ble_eq_true rfl) dX10_witness_63 ?_
      refine zni h (fun v_3 ev_3 h => ?_)
      refine lv_istore (lv' := [(6, .int v_3), (0, .ref (g.2.2 0)), (2, .int x2), (3, .int x3), (4, .int x4), (5, .int x5)]) hx hb dX10_witness_66 hl (by decide) rfl (fun ls hl => ?_)
      refine lv_iload_n hx hb dX10_witness_68 rfl (lv_at hl 2 rfl) ?_
      refine lv_iload hx hb dX10_witness_69 (lv_at hl 5 rfl) ?_
      obtain ⟨u_4, qu_4, h⟩ := zbn_some h
      refine zciR (zrunS E hZ v_X10_has kw_1252 (c_X10_has l g M  x2 x5 qu_4 _) rfl hl.1 rfl (Nat.le_of_ble_eq_true rfl) ⟨by decide, by decide⟩ ⟨by decide, by decide⟩ dX10_witness_71) hZ (fun H locs hZ => ?_)
      refine zif_ne (tgt := 91) h E dX10_witness_74 (by decide) (fun c_6 h => ?_) (fun c_6 h => ?_)
      · exact lb_X10_witness_91 g  E X hret M x2 x3 x4 x5 (fun x3 x4 x5 => b_X10_witness_44  M x2 n x3 x4 x5) ih H locs ls h hZ (lv_sub hl [1, 2, 3, 4, 5] rfl)
      · refine lv_iload hx hb dX10_witness_77 (lv_at hl 0 rfl) ?_
        refine lv_iload hx hb dX10_witness_79 (lv_at hl 4 rfl) ?_
        refine zic_le (tgt := 91) h E dX10_witness_81 (by decide) (fun c_5 h => ?_) (fun c_5 h => ?_)
        · exact lb_X10_witness_91 g  E X hret M x2 x3 x4 x5 (fun x3 x4 x5 => b_X10_witness_44  M x2 n x3 x4 x5) ih H locs ls h hZ (lv_sub hl [1, 2, 3, 4, 5] rfl)
        · refine lv_iload hx hb dX10_witness_84 (lv_at hl 0 rfl) ?_
          refine lv_istore (lv' := [(4, .int v_3), (6, .int v_3), (0, .ref (g.2.2 0)), (2, .int x2), (3, .int x3), (5, .int x5)]) hx hb dX10_witness_86 hl (by decide) rfl (fun ls hl => ?_)
          refine lv_iload hx hb dX10_witness_88 (lv_at hl 5 rfl) ?_
          refine lv_istore_n (lv' := [(3, .int x5), (4, .int v_3), (6, .int v_3), (0, .ref (g.2.2 0)), (2, .int x2), (5, .int x5)]) hx hb dX10_witness_90 rfl hl (by decide) rfl (fun ls hl => ?_)
          exact lb_X10_witness_91 g  E X hret M x2 x5 v_3 x5 (fun x3 x4 x5 => b_X10_witness_44  M x2 n x3 x4 x5) ih H locs ls h hZ (lv_sub hl [3, 4, 0, 1, 5] rfl)
def b_X10_witness_36  (M : zM) (x2 : Int32) : Option (zT1) :=
  b_X10_witness_44  M x2 6000 ((-1)) ((-1)) 0
set_option maxRecDepth 100000 in
set_option maxHeartbeats 4000000 in
theorem lb_X10_witness_36 (g : zG)  {r : zT1} (E : zX g p m c cX10_witness 7 s args (zWs yX10_witness cX10_witness 7 (some .int)) RX10) (X : zXt g 125 l s c meth) (hret : zRti g xE 125 p l e (zrm 10 46 (6 * 46)) s m args below meth c 46 cX10_witness .int r) (M : zM) (x2 : Int32)  (H : Heap) (locs : List Loc) (ls : Array Slot) (h : b_X10_witness_36  M x2 = some r) (hZ : zS g xE 125 s H locs M) (hl : lv_has ls 7 [(0, .ref (g.2.2 0)), (2, .int x2)]) : W p l e (zrm 10 46 (6 * 46)) s m args below meth c H locs 46 276 (zQt g xE 125 below args s 46 r) (F0 m 36 ls []) := by
  have hx := E.1.1
  have hb := E.1.2.1
  unfold b_X10_witness_36 at h
  refine lv_iconst (v := (-1)) hx hb dX10_witness_36 (by decide) ?_
  refine lv_istore_n (lv' := [(3, .int ((-1))), (0, .ref (g.2.2 0)), (2, .int x2)]) hx hb dX10_witness_37 rfl hl (by decide) rfl (fun ls hl => ?_)
  refine lv_iconst (v := (-1)) hx hb dX10_witness_38 (by decide) ?_
  refine lv_istore (lv' := [(4, .int ((-1))), (3, .int ((-1))), (0, .ref (g.2.2 0)), (2, .int x2)]) hx hb dX10_witness_39 hl (by decide) rfl (fun ls hl => ?_)
  refine lv_iconst (v := 0) hx hb dX10_witness_41 (by decide) ?_
  refine lv_istore (lv' := [(5, .int 0), (4, .int ((-1))), (3, .int ((-1))), (0, .ref (g.2.2 0)), (2, .int x2)]) hx hb dX10_witness_42 hl (by decide) rfl (fun ls hl => ?_)
  exact lb_X10_witness_44 g  E X hret M x2  6000 ((-1)) ((-1)) 0 H locs ls h hZ (lv_sub hl [3, 4, 2, 1, 0] rfl)
def b_X10_witness_9  (M : zM) (x1 : Int32) : Nat → Int32 → Int32 → Option (zT1)
  | 0, _, _ => none
  | n + 1, x2, x3 =>
    if x1 ≤ x3 then (b_X10_witness_36  M x2) else (zbn (f_X10_at M 2 x3) (fun u_8 => znm (x2 ||| ((1 : Int32) <<< (u_8 &&& 31))) (fun x2_9 => znm (x3 + 2) (fun x3_10 => b_X10_witness_9  M x1 n x2_9 x3_10))))
set_option maxRecDepth 100000 in
set_option maxHeartbeats 4000000 in
theorem lb_X10_witness_9 (g : zG)  {r : zT1} (E : zX g p m c cX10_witness 7 s args (zWs yX10_witness cX10_witness 7 (some .int)) RX10) (X : zXt g 125 l s c meth) (hret : zRti g xE 125 p l e (zrm 10 46 (6 * 46)) s m args below meth c 46 cX10_witness .int r) (M : zM) (x1 : Int32)  : ∀ (n : Nat) (x2 : Int32) (x3 : Int32) (H : Heap) (locs : List Loc) (ls : Array Slot), b_X10_witness_9  M x1 n x2 x3 = some r → zS g xE 125 s H locs M → lv_has ls 7 [(0, .ref (g.2.2 0)), (1, .int x1), (2, .int x2), (3, .int x3)] → W p l e (zrm 10 46 (6 * 46)) s m args below meth c H locs 46 276 (zQt g xE 125 below args s 46 r) (F0 m 9 ls []) := by
  have hx := E.1.1
  have hb := E.1.2.1
  intro n
  induction n with
  | zero => intro x2 x3 H locs ls h hZ hl; cases h
  | succ n ih =>
    intro x2 x3 H locs ls h hZ hl
    rw [b_X10_witness_9] at h
    refine lv_iload_n hx hb dX10_witness_9 rfl (lv_at hl 3 rfl) ?_
    refine lv_iload_n hx hb dX10_witness_10 rfl (lv_at hl 1 rfl) ?_
    refine zic_ge (tgt := 36) h E dX10_witness_11 (by decide) (fun c_11 h => ?_) (fun c_11 h => ?_)
    · exact lb_X10_witness_36 g  E X hret M x2  H locs ls h hZ (lv_sub hl [0, 2] rfl)
    · refine lv_iload_n hx hb dX10_witness_14 rfl (lv_at hl 2 rfl) ?_
      refine lv_iconst (v := 1) hx hb dX10_witness_15 (by decide) ?_
      refine lv_aload_n hx hb dX10_witness_16 rfl (lv_at hl 0 rfl) ?_
      refine zg (v := .ref (g.2.2 1)) E hZ (xb_X10 xs_0) ((xe_X10 xs_0) _) kc_X10 0 (by decide) kw_352 rfl rfl dX10_witness_17 ?_
      refine zg (v := .ref (g.2.2 2)) E hZ (xb_X6 xs_1) ((xe_X6 xs_1) _) kc_X6 0 (by decide) kw_44 rfl rfl dX10_witness_20 ?_
      refine lv_iload_n hx hb dX10_witness_23 rfl (lv_at hl 3 rfl) ?_
      obtain ⟨u_8, qu_8, h⟩ := zbn_some h
      refine zciR (zrunS E hZ v_X10_at kw_863 (c_X10_at l g M 2 xs_2.1 x3 qu_8 _) rfl hl.1 rfl (Nat.le_of_ble_eq_true rfl) ⟨by decide, by decide⟩ ⟨by decide, by decide⟩ dX10_witness_24) hZ (fun H locs hZ => ?_)
      refine lv_ishl hx hb dX10_witness_27 ?_
      refine lv_ior hx hb dX10_witness_28 ?_
      refine zni h (fun x2_9 ex2_9 h => ?_)
      refine lv_istore_n (lv' := [(2, .int x2_9), (0, .ref (g.2.2 0)), (1, .int x1), (3, .int x3)]) hx hb dX10_witness_29 rfl hl (by decide) rfl (fun ls hl => ?_)
      obtain ⟨x3_10, ex3_10, h⟩ := znm_ex h
      refine lv_iinc (v := x3_10) (lv' := [(3, .int x3_10), (2, .int x2_9), (0, .ref (g.2.2 0)), (1, .int x1)]) hx hb dX10_witness_30 hl (k := 3) rfl (by rw [ex3_10]; rfl) (by decide) rfl (fun ls hl => ?_)
      refine lv_goto (tgt := 9) hx hb dX10_witness_33 (by decide) ?_
      exact ih x2_9 x3_10 H locs ls h hZ (lv_sub hl [2, 3, 1, 0] rfl)
def f_X10_witness (M : zM)  : Option (zT1) :=
  zbt (f_X10_useTold M ) (fun M_13 v_14 => b_X10_witness_9  M_13 v_14 6000 0 0)
set_option maxRecDepth 100000 in
set_option maxHeartbeats 4000000 in
theorem w_X10_witness (g : zG)  {r : zT1} (E : zX g p m c cX10_witness 7 s args (zWs yX10_witness cX10_witness 7 (some .int)) RX10) (X : zXt g 125 l s c meth) (hret : zRti g xE 125 p l e (zrm 10 46 (6 * 46)) s m args below meth c 46 cX10_witness .int r) (M : zM)  (H : Heap) (locs : List Loc) (ls : Array Slot) (h : f_X10_witness M  = some r) (hZ : zS g xE 125 s H locs M) (hl : lv_has ls 7 [(0, .ref (g.2.2 0))]) : W p l e (zrm 10 46 (6 * 46)) s m args below meth c H locs 0 0 (zQt g xE 125 below args s 46 r) (F0 m 0 ls []) := by
  have hx := E.1.1
  have hb := E.1.2.1
  unfold f_X10_witness at h
  refine lv_aload_n hx hb dX10_witness_0 rfl (lv_at hl 0 rfl) ?_
  obtain ⟨u_12, qu_12, h⟩ := zbt_some h
  refine zct (zrunVt E X hZ (xb_X10 xs_0) ((xe_X10 xs_0) _) rfl rfl v_X10_useTold kw_1229 (c_X10_useTold l X.1 g M   qu_12 _) rfl hl.1 rfl (Nat.le_of_ble_eq_true rfl) ⟨by decide, by decide⟩ ⟨by decide, by decide⟩ dX10_witness_1) X hZ h (by decide) (by decide) (fun v_14 M_13 H locs eM_13 h hZ => ?_)
  refine W.widen (k := 46) (n := 276) (by decide) (by decide) ?_
  refine lv_istore_n (lv' := [(1, .int v_14), (0, .ref (g.2.2 0))]) hx hb dX10_witness_4 rfl hl (by decide) rfl (fun ls hl => ?_)
  refine lv_iconst (v := 0) hx hb dX10_witness_5 (by decide) ?_
  refine lv_istore_n (lv' := [(2, .int 0), (1, .int v_14), (0, .ref (g.2.2 0))]) hx hb dX10_witness_6 rfl hl (by decide) rfl (fun ls hl => ?_)
  refine lv_iconst (v := 0) hx hb dX10_witness_7 (by decide) ?_
  refine lv_istore_n (lv' := [(3, .int 0), (2, .int 0), (1, .int v_14), (0, .ref (g.2.2 0))]) hx hb dX10_witness_8 rfl hl (by decide) rfl (fun ls hl => ?_)
  exact lb_X10_witness_9 g  E X hret M_13 v_14  6000 0 0 H locs ls h hZ (lv_sub hl [3, 2, 1, 0] rfl)
theorem c_X10_witness (l : Launch) (hst : l.stackTraces = false) (g : zG) (M : zM)   {r : zT1} (h : f_X10_witness M  = some r) : zMt l g xE 125 yX10_witness (zWs yX10_witness cX10_witness 7 (some .int)) 10 46 [.ref (g.2.2 0)] M r :=
  zMt_of hst (by decide +kernel) (Nat.le_of_ble_eq_true rfl) (fun p e s m args below meth c ls E X hret hZ hl => w_X10_witness g  E X hret M  _ _ ls h hZ hl)
theorem v_X10_witness : zYV yX10_witness cX10_witness 7 (some .int) 0 := ⟨kw_1250, kw_1, kw_1248, kw_1249, by decide +kernel⟩

def b_X10_clash_58 (K15 : Int32 → Int32 → Option (zT1)) (M : zM) (x1 : Int32) (x2 : Int32) (x3 : Int32) (x4 : Int32) : Option (zT1) :=
  znm (x4 + 1) (fun x4_1 => K15 x3 x4_1)
set_option maxRecDepth 100000 in
set_option maxHeartbeats 4000000 in
theorem lb_X10_clash_58 (g : zG)  {r : zT1} (E : zX g p m c cX10_clash 5 s args (zWs yX10_clash cX10_clash 5 (some .int)) RX10) (X : zXt g 125 l s c meth) (hret : zRti g xE 125 p l e (zrm 10 2 (6 * 2)) s m args below meth c 2 cX10_clash .int r) (M : zM) (x1 : Int32) (x2 : Int32) (x3 : Int32) (x4 : Int32) (K15 : Int32 → Int32 → Option (zT1)) (hK15 : ∀ (x3 : Int32) (x4 : Int32) (H : Heap) (locs : List Loc) (ls : Array Slot), K15 x3 x4 = some r → zS g xE 125 s H locs M → lv_has ls 5 [(0, .ref (g.2.2 0)), (1, .int x1), (2, .int x2), (3, .int x3), (4, .int x4)] → W p l e (zrm 10 2 (6 * 2)) s m args below meth c H locs 2 12 (zQt g xE 125 below args s 2 r) (F0 m 15 ls [])) (H : Heap) (locs : List Loc) (ls : Array Slot) (h : b_X10_clash_58 K15 M x1 x2 x3 x4 = some r) (hZ : zS g xE 125 s H locs M) (hl : lv_has ls 5 [(0, .ref (g.2.2 0)), (1, .int x1), (2, .int x2), (3, .int x3), (4, .int x4)]) : W p l e (zrm 10 2 (6 * 2)) s m args below meth c H locs 2 12 (zQt g xE 125 below args s 2 r) (F0 m 58 ls []) := by
  have hx := E.1.1
  have hb := E.1.2.1
  unfold b_X10_clash_58 at h
  obtain ⟨x4_1, ex4_1, h⟩ := znm_ex h
  refine lv_iinc (v := x4_1) (lv' := [(4, .int x4_1), (0, .ref (g.2.2 0)), (1, .int x1), (2, .int x2), (3, .int x3)]) hx hb dX10_clash_58 hl (k := 4) rfl (by rw [ex4_1]; rfl) (by decide) rfl (fun ls hl => ?_)
  refine lv_goto (tgt := 15) hx hb dX10_clash_61 (by decide) ?_
  exact hK15 x3 x4_1 H locs ls h hZ (lv_sub hl [1, 2, 3, 4, 0] rfl)
def b_X10_clash_15  (M : zM) (x1 : Int32) (x2 : Int32) : Nat → Int32 → Int32 → Option (zT1)
  | 0, _, _ => none
  | n + 1, x3, x4 =>
    if 12 ≤ x4 then (some (M, .inr x3)) else (zbn (f_X9_printedBy M 3 x1 x4) (fun u_2 => zbn (f_X10_dayOf M u_2) (fun u_3 => zbn (f_X9_printedBy M 3 x2 x4) (fun u_4 => zbn (f_X10_dayOf M u_4) (fun u_5 => if u_3 = u_5 then (b_X10_clash_58 (fun x3 x4 => b_X10_clash_15  M x1 x2 n x3 x4) M x1 x2 x3 x4) else (znm (x3 ||| ((1 : Int32) <<< (x4 &&& 31))) (fun x3_6 => b_X10_clash_58 (fun x3 x4 => b_X10_clash_15  M x1 x2 n x3 x4) M x1 x2 x3_6 x4)))))))
set_option maxRecDepth 100000 in
set_option maxHeartbeats 4000000 in
theorem lb_X10_clash_15 (g : zG)  {r : zT1} (E : zX g p m c cX10_clash 5 s args (zWs yX10_clash cX10_clash 5 (some .int)) RX10) (X : zXt g 125 l s c meth) (hret : zRti g xE 125 p l e (zrm 10 2 (6 * 2)) s m args below meth c 2 cX10_clash .int r) (M : zM) (x1 : Int32) (x2 : Int32)  : ∀ (n : Nat) (x3 : Int32) (x4 : Int32) (H : Heap) (locs : List Loc) (ls : Array Slot), b_X10_clash_15  M x1 x2 n x3 x4 = some r → zS g xE 125 s H locs M → lv_has ls 5 [(0, .ref (g.2.2 0)), (1, .int x1), (2, .int x2), (3, .int x3), (4, .int x4)] → W p l e (zrm 10 2 (6 * 2)) s m args below meth c H locs 2 12 (zQt g xE 125 below args s 2 r) (F0 m 15 ls []) := by
  have hx := E.1.1
  have hb := E.1.2.1
  intro n
  induction n with
  | zero => intro x3 x4 H locs ls h hZ hl; cases h
  | succ n ih =>
    intro x3 x4 H locs ls h hZ hl
    rw [b_X10_clash_15] at h
    refine lv_iload hx hb dX10_clash_15 (lv_at hl 4 rfl) ?_
    refine lv_bipush (v := 12) hx hb dX10_clash_17 (by decide) ?_
    refine zic_ge (tgt := 64) h E dX10_clash_19 (by decide) (fun c_8 h => ?_) (fun c_8 h => ?_)
    · refine lv_iload_n hx hb dX10_clash_64 rfl (lv_at hl 3 rfl) ?_
      exact hret _ _ _ _ _ _ _ _ h rfl hZ dX10_clash_65 (by decide) (by decide)
    · refine lv_aload_n hx hb dX10_clash_22 rfl (lv_at hl 0 rfl) ?_
      refine zg (v := .ref (g.2.2 3)) E hZ (xb_X10 xs_0) ((xe_X10 xs_0) _) kc_X10 1 (by decide) kw_353 rfl rfl dX10_clash_23 ?_
      refine lv_iload_n hx hb dX10_clash_26 rfl (lv_at hl 1 rfl) ?_
      refine lv_iload hx hb dX10_clash_27 (lv_at hl 4 rfl) ?_
      obtain ⟨u_2, qu_2, h⟩ := zbn_some h
      refine zciR (zrunV E hZ (xb_X9 xs_3) ((xe_X9 xs_3) _) rfl rfl v_X9_printedBy kw_421 (c_X9_printedBy l g M 3 xs_3 x1 x4 qu_2 _) rfl hl.1 rfl (Nat.le_of_ble_eq_true rfl) ⟨by decide, by decide⟩ ⟨by decide, by decide⟩ dX10_clash_29) hZ (fun H locs hZ => ?_)
      obtain ⟨u_3, qu_3, h⟩ := zbn_some h
      refine zciR (zrunS E hZ v_X10_dayOf kw_1260 (c_X10_dayOf l g M  u_2 qu_3 _) rfl hl.1 rfl (Nat.le_of_ble_eq_true rfl) ⟨by decide, by decide⟩ ⟨by decide, by decide⟩ dX10_clash_32) hZ (fun H locs hZ => ?_)
      refine lv_aload_n hx hb dX10_clash_35 rfl (lv_at hl 0 rfl) ?_
      refine zg (v := .ref (g.2.2 3)) E hZ (xb_X10 xs_0) ((xe_X10 xs_0) _) kc_X10 1 (by decide) kw_353 rfl rfl dX10_clash_36 ?_
      refine lv_iload_n hx hb dX10_clash_39 rfl (lv_at hl 2 rfl) ?_
      refine lv_iload hx hb dX10_clash_40 (lv_at hl 4 rfl) ?_
      obtain ⟨u_4, qu_4, h⟩ := zbn_some h
      refine zciR (zrunV E hZ (xb_X9 xs_3) ((xe_X9 xs_3) _) rfl rfl v_X9_printedBy kw_421 (c_X9_printedBy l g M 3 xs_3 x2 x4 qu_4 _) rfl hl.1 rfl (Nat.le_of_ble_eq_true rfl) ⟨by decide, by decide⟩ ⟨by decide, by decide⟩ dX10_clash_42) hZ (fun H locs hZ => ?_)
      obtain ⟨u_5, qu_5, h⟩ := zbn_some h
      refine zciR (zrunS E hZ v_X10_dayOf kw_1260 (c_X10_dayOf l g M  u_4 qu_5 _) rfl hl.1 rfl (Nat.le_of_ble_eq_true rfl) ⟨by decide, by decide⟩ ⟨by decide, by decide⟩ dX10_clash_45) hZ (fun H locs hZ => ?_)
      refine zic_eq (tgt := 58) h E dX10_clash_48 (by decide) (fun c_7 h => ?_) (fun c_7 h => ?_)
      · exact lb_X10_clash_58 g  E X hret M x1 x2 x3 x4 (fun x3 x4 => b_X10_clash_15  M x1 x2 n x3 x4) ih H locs ls h hZ (lv_sub hl [0, 1, 2, 3, 4] rfl)
      · refine lv_iload_n hx hb dX10_clash_51 rfl (lv_at hl 3 rfl) ?_
        refine lv_iconst (v := 1) hx hb dX10_clash_52 (by decide) ?_
        refine lv_iload hx hb dX10_clash_53 (lv_at hl 4 rfl) ?_
        refine lv_ishl hx hb dX10_clash_55 ?_
        refine lv_ior hx hb dX10_clash_56 ?_
        refine zni h (fun x3_6 ex3_6 h => ?_)
        refine lv_istore_n (lv' := [(3, .int x3_6), (0, .ref (g.2.2 0)), (1, .int x1), (2, .int x2), (4, .int x4)]) hx hb dX10_clash_57 rfl hl (by decide) rfl (fun ls hl => ?_)
        exact lb_X10_clash_58 g  E X hret M x1 x2 x3_6 x4 (fun x3 x4 => b_X10_clash_15  M x1 x2 n x3 x4) ih H locs ls h hZ (lv_sub hl [1, 2, 3, 0, 4] rfl)
def f_X10_clash (M : zM) (x1 : Int32) (x2 : Int32) : Option (zT1) :=
  zbt (f_X10_needPrint M x1) (fun M_10 _ => zbt (f_X10_needPrint M_10 x2) (fun M_12 _ => b_X10_clash_15  M_12 x1 x2 6000 0 0))
set_option maxRecDepth 100000 in
set_option maxHeartbeats 4000000 in
theorem w_X10_clash (g : zG)  {r : zT1} (E : zX g p m c cX10_clash 5 s args (zWs yX10_clash cX10_clash 5 (some .int)) RX10) (X : zXt g 125 l s c meth) (hret : zRti g xE 125 p l e (zrm 10 2 (6 * 2)) s m args below meth c 2 cX10_clash .int r) (M : zM) (x1 : Int32) (x2 : Int32) (H : Heap) (locs : List Loc) (ls : Array Slot) (h : f_X10_clash M x1 x2 = some r) (hZ : zS g xE 125 s H locs M) (hl : lv_has ls 5 [(0, .ref (g.2.2 0)), (1, .int x1), (2, .int x2)]) : W p l e (zrm 10 2 (6 * 2)) s m args below meth c H locs 0 0 (zQt g xE 125 below args s 2 r) (F0 m 0 ls []) := by
  have hx := E.1.1
  have hb := E.1.2.1
  unfold f_X10_clash at h
  refine lv_aload_n hx hb dX10_clash_0 rfl (lv_at hl 0 rfl) ?_
  refine lv_iload_n hx hb dX10_clash_1 rfl (lv_at hl 1 rfl) ?_
  obtain ⟨u_9, qu_9, h⟩ := zbt_some h
  refine zctv (zrunVt E X hZ (xb_X10 xs_0) ((xe_X10 xs_0) _) rfl rfl v_X10_needPrint kw_988 (c_X10_needPrint l X.1 g M  x1 qu_9 _) rfl hl.1 rfl (Nat.le_of_ble_eq_true rfl) ⟨by decide, by decide⟩ ⟨by decide, by decide⟩ dX10_clash_2) X hZ h (by decide) (by decide) (fun M_10 H locs eM_10 h hZ => ?_)
  refine W.widen (k := 1) (n := 6) (by decide) (by decide) ?_
  refine lv_aload_n hx hb dX10_clash_5 rfl (lv_at hl 0 rfl) ?_
  refine lv_iload_n hx hb dX10_clash_6 rfl (lv_at hl 2 rfl) ?_
  obtain ⟨u_11, qu_11, h⟩ := zbt_some h
  refine zctv (zrunVt E X hZ (xb_X10 xs_0) ((xe_X10 xs_0) _) rfl rfl v_X10_needPrint kw_988 (c_X10_needPrint l X.1 g M_10  x2 qu_11 _) rfl hl.1 rfl (Nat.le_of_ble_eq_true rfl) ⟨by decide, by decide⟩ ⟨by decide, by decide⟩ dX10_clash_7) X hZ h (by decide) (by decide) (fun M_12 H locs eM_12 h hZ => ?_)
  refine W.widen (k := 2) (n := 12) (by decide) (by decide) ?_
  refine lv_iconst (v := 0) hx hb dX10_clash_10 (by decide) ?_
  refine lv_istore_n (lv' := [(3, .int 0), (0, .ref (g.2.2 0)), (1, .int x1), (2, .int x2)]) hx hb dX10_clash_11 rfl hl (by decide) rfl (fun ls hl => ?_)
  refine lv_iconst (v := 0) hx hb dX10_clash_12 (by decide) ?_
  refine lv_istore (lv' := [(4, .int 0), (3, .int 0), (0, .ref (g.2.2 0)), (1, .int x1), (2, .int x2)]) hx hb dX10_clash_13 hl (by decide) rfl (fun ls hl => ?_)
  exact lb_X10_clash_15 g  E X hret M_12 x1 x2  6000 0 0 H locs ls h hZ (lv_sub hl [2, 3, 4, 1, 0] rfl)
theorem c_X10_clash (l : Launch) (hst : l.stackTraces = false) (g : zG) (M : zM)  (x1 : Int32) (x2 : Int32) {r : zT1} (h : f_X10_clash M x1 x2 = some r) : zMt l g xE 125 yX10_clash (zWs yX10_clash cX10_clash 5 (some .int)) 10 2 [.ref (g.2.2 0), .int x1, .int x2] M r :=
  zMt_of hst (by decide +kernel) (Nat.le_of_ble_eq_true rfl) (fun p e s m args below meth c ls E X hret hZ hl => w_X10_clash g  E X hret M x1 x2 _ _ ls h hZ hl)
theorem v_X10_clash : zYV yX10_clash cX10_clash 5 (some .int) 2 := ⟨kw_1259, kw_1, kw_1257, kw_1258, by decide +kernel⟩

def f_X10_ahead (M : zM) (x1 : Int32) (x2 : Int32) : Option (zT1) :=
  zbt (f_X10_needMonk M x1) (fun M_2 _ => zbt (f_X10_needWithin M_2 x2 0 100) (fun M_4 _ => zbn (f_X10_trialCopy M_4 ) (fun u_5 => zmo u_5.1 (none) (fun k_6 => zck (decide (k_6 = 9)) (zbn (f_X0_run u_5.2 9 21 x2 0) (fun u_7 => zbn (f_X9_monkCell u_7.2 9 x1 0) (fun u_8 => some (u_7.2, .inr u_8))))))))
set_option maxRecDepth 100000 in
set_option maxHeartbeats 4000000 in
theorem w_X10_ahead (g : zG)  {r : zT1} (E : zX g p m c cX10_ahead 4 s args (zWs yX10_ahead cX10_ahead 4 (some .int)) RX10) (X : zXt g 125 l s c meth) (hret : zRti g xE 125 p l e (zrm 9 2 (6 * 2)) s m args below meth c 2 cX10_ahead .int r) (M : zM) (x1 : Int32) (x2 : Int32) (H : Heap) (locs : List Loc) (ls : Array Slot) (h : f_X10_ahead M x1 x2 = some r) (hZ : zS g xE 125 s H locs M) (hl : lv_has ls 4 [(0, .ref (g.2.2 0)), (1, .int x1), (2, .int x2)]) : W p l e (zrm 9 2 (6 * 2)) s m args below meth c H locs 0 0 (zQt g xE 125 below args s 2 r) (F0 m 0 ls []) := by
  have hx := E.1.1
  have hb := E.1.2.1
  unfold f_X10_ahead at h
  refine lv_aload_n hx hb dX10_ahead_0 rfl (lv_at hl 0 rfl) ?_
  refine lv_iload_n hx hb dX10_ahead_1 rfl (lv_at hl 1 rfl) ?_
  obtain ⟨u_1, qu_1, h⟩ := zbt_some h
  refine zctv (zrunVt E X hZ (xb_X10 xs_0) ((xe_X10 xs_0) _) rfl rfl v_X10_needMonk kw_872 (c_X10_needMonk l X.1 g M  x1 qu_1 _) rfl hl.1 rfl (Nat.le_of_ble_eq_true rfl) ⟨by decide, by decide⟩ ⟨by decide, by decide⟩ dX10_ahead_2) X hZ h (by decide) (by decide) (fun M_2 H locs eM_2 h hZ => ?_)
  refine W.widen (k := 1) (n := 6) (by decide) (by decide) ?_
  refine lv_aload_n hx hb dX10_ahead_5 rfl (lv_at hl 0 rfl) ?_
  refine lv_iload_n hx hb dX10_ahead_6 rfl (lv_at hl 2 rfl) ?_
  refine lv_iconst (v := 0) hx hb dX10_ahead_7 (by decide) ?_
  refine lv_bipush (v := 100) hx hb dX10_ahead_8 (by decide) ?_
  obtain ⟨u_3, qu_3, h⟩ := zbt_some h
  refine zctv (zrunVt E X hZ (xb_X10 xs_0) ((xe_X10 xs_0) _) rfl rfl v_X10_needWithin kw_917 (c_X10_needWithin l X.1 g M_2  x2 0 100 qu_3 _) rfl hl.1 rfl (Nat.le_of_ble_eq_true rfl) ⟨by decide, by decide⟩ ⟨by decide, by decide⟩ dX10_ahead_10) X hZ h (by decide) (by decide) (fun M_4 H locs eM_4 h hZ => ?_)
  refine W.widen (k := 2) (n := 12) (by decide) (by decide) ?_
  refine lv_aload_n hx hb dX10_ahead_13 rfl (lv_at hl 0 rfl) ?_
  obtain ⟨u_5, qu_5, h⟩ := zbn_some h
  refine zceS h (zrunV E hZ (xb_X10 xs_0) ((xe_X10 xs_0) _) rfl rfl v_X10_trialCopy kw_581 (c_X10_trialCopy l g M_4   qu_5 _) rfl hl.1 rfl (Nat.le_of_ble_eq_true rfl) ⟨by decide, by decide⟩ ⟨by decide, by decide⟩ dX10_ahead_14) hZ (fun h H locs hZ => ?_) (fun k_6 h H locs hZ => ?_)
  · cases h
  · replace h := zck_some h
    obtain ⟨hk_6, h⟩ := h
    have hk_6 := of_decide_eq_true hk_6
    subst hk_6
    refine lv_astore_n (lv' := [(3, .ref (g.2.2 9)), (0, .ref (g.2.2 0)), (1, .int x1), (2, .int x2)]) hx hb dX10_ahead_17 rfl hl (by decide) rfl (fun ls hl => ?_)
    refine lv_aload_n hx hb dX10_ahead_18 rfl (lv_at hl 0 rfl) ?_
    refine lv_aload_n hx hb dX10_ahead_19 rfl (lv_at hl 1 rfl) ?_
    refine zg (v := .ref (g.2.2 21)) E hZ (xb_X10 xs_0) ((xe_X10 xs_0) _) kc_X10 4 (by decide) kw_356 rfl rfl dX10_ahead_20 ?_
    refine lv_iload_n hx hb dX10_ahead_23 rfl (lv_at hl 3 rfl) ?_
    refine lv_iconst (v := 0) hx hb dX10_ahead_24 (by decide) ?_
    obtain ⟨u_7, qu_7, h⟩ := zbn_some h
    refine zciS (zrunS E hZ v_X0_run kw_1021 (c_X0_run l g u_5.2 9 xs_9 21 xs_21 x2 0 qu_7 _) rfl hl.1 rfl (Nat.le_of_ble_eq_true rfl) ⟨by decide, by decide⟩ ⟨by decide, by decide⟩ dX10_ahead_25) hZ (fun H locs hZ => ?_)
    refine lv_pop hx hb dX10_ahead_28 rfl ?_
    refine lv_aload_n hx hb dX10_ahead_29 rfl (lv_at hl 0 rfl) ?_
    refine lv_iload_n hx hb dX10_ahead_30 rfl (lv_at hl 2 rfl) ?_
    refine lv_iconst (v := 0) hx hb dX10_ahead_31 (by decide) ?_
    obtain ⟨u_8, qu_8, h⟩ := zbn_some h
    refine zciR (zrunV E hZ (xb_X9 xs_9) ((xe_X9 xs_9) _) rfl rfl v_X9_monkCell kw_455 (c_X9_monkCell l g u_7.2 9 xs_9 x1 0 qu_8 _) rfl hl.1 rfl (Nat.le_of_ble_eq_true rfl) ⟨by decide, by decide⟩ ⟨by decide, by decide⟩ dX10_ahead_32) hZ (fun H locs hZ => ?_)
    exact hret _ _ _ _ _ _ _ _ h rfl hZ dX10_ahead_35 (by decide) (by decide)
theorem c_X10_ahead (l : Launch) (hst : l.stackTraces = false) (g : zG) (M : zM)  (x1 : Int32) (x2 : Int32) {r : zT1} (h : f_X10_ahead M x1 x2 = some r) : zMt l g xE 125 yX10_ahead (zWs yX10_ahead cX10_ahead 4 (some .int)) 9 2 [.ref (g.2.2 0), .int x1, .int x2] M r :=
  zMt_of hst (by decide +kernel) (Nat.le_of_ble_eq_true rfl) (fun p e s m args below meth c ls E X hret hZ hl => w_X10_ahead g  E X hret M x1 x2 _ _ ls h hZ hl)
theorem v_X10_ahead : zYV yX10_ahead cX10_ahead 4 (some .int) 2 := ⟨kw_1269, kw_1, kw_1267, kw_1268, by decide +kernel⟩

def f_X10_doomed (M : zM) (x1 : Int32) : Option (zT1) :=
  zbt (f_X10_needWithin M x1 0 100) (fun M_2 _ => zbn (f_X10_trialCopy M_2 ) (fun u_3 => zmo u_3.1 (none) (fun k_4 => zck (decide (k_4 = 9)) (zbn (f_X0_run u_3.2 9 21 x1 0) (fun u_5 => some (u_5.2, .inr ((u_5.2 9 12) &&& ((u_5.2 3 12) ^^^ ((-1))))))))))
set_option maxRecDepth 100000 in
set_option maxHeartbeats 4000000 in
theorem w_X10_doomed (g : zG)  {r : zT1} (E : zX g p m c cX10_doomed 3 s args (zWs yX10_doomed cX10_doomed 3 (some .int)) RX10) (X : zXt g 125 l s c meth) (hret : zRti g xE 125 p l e (zrm 9 1 (6 * 1)) s m args below meth c 1 cX10_doomed .int r) (M : zM) (x1 : Int32) (H : Heap) (locs : List Loc) (ls : Array Slot) (h : f_X10_doomed M x1 = some r) (hZ : zS g xE 125 s H locs M) (hl : lv_has ls 3 [(0, .ref (g.2.2 0)), (1, .int x1)]) : W p l e (zrm 9 1 (6 * 1)) s m args below meth c H locs 0 0 (zQt g xE 125 below args s 1 r) (F0 m 0 ls []) := by
  have hx := E.1.1
  have hb := E.1.2.1
  unfold f_X10_doomed at h
  refine lv_aload_n hx hb dX10_doomed_0 rfl (lv_at hl 0 rfl) ?_
  refine lv_iload_n hx hb dX10_doomed_1 rfl (lv_at hl 1 rfl) ?_
  refine lv_iconst (v := 0) hx hb dX10_doomed_2 (by decide) ?_
  refine lv_bipush (v := 100) hx hb dX10_doomed_3 (by decide) ?_
  obtain ⟨u_1, qu_1, h⟩ := zbt_some h
  refine zctv (zrunVt E X hZ (xb_X10 xs_0) ((xe_X10 xs_0) _) rfl rfl v_X10_needWithin kw_917 (c_X10_needWithin l X.1 g M  x1 0 100 qu_1 _) rfl hl.1 rfl (Nat.le_of_ble_eq_true rfl) ⟨by decide, by decide⟩ ⟨by decide, by decide⟩ dX10_doomed_5) X hZ h (by decide) (by decide) (fun M_2 H locs eM_2 h hZ => ?_)
  refine W.widen (k := 1) (n := 6) (by decide) (by decide) ?_
  refine lv_aload_n hx hb dX10_doomed_8 rfl (lv_at hl 0 rfl) ?_
  obtain ⟨u_3, qu_3, h⟩ := zbn_some h
  refine zceS h (zrunV E hZ (xb_X10 xs_0) ((xe_X10 xs_0) _) rfl rfl v_X10_trialCopy kw_581 (c_X10_trialCopy l g M_2   qu_3 _) rfl hl.1 rfl (Nat.le_of_ble_eq_true rfl) ⟨by decide, by decide⟩ ⟨by decide, by decide⟩ dX10_doomed_9) hZ (fun h H locs hZ => ?_) (fun k_4 h H locs hZ => ?_)
  · cases h
  · replace h := zck_some h
    obtain ⟨hk_4, h⟩ := h
    have hk_4 := of_decide_eq_true hk_4
    subst hk_4
    refine lv_astore_n (lv' := [(2, .ref (g.2.2 9)), (0, .ref (g.2.2 0)), (1, .int x1)]) hx hb dX10_doomed_12 rfl hl (by decide) rfl (fun ls hl => ?_)
    refine lv_aload_n hx hb dX10_doomed_13 rfl (lv_at hl 0 rfl) ?_
    refine lv_aload_n hx hb dX10_doomed_14 rfl (lv_at hl 1 rfl) ?_
    refine zg (v := .ref (g.2.2 21)) E hZ (xb_X10 xs_0) ((xe_X10 xs_0) _) kc_X10 4 (by decide) kw_356 rfl rfl dX10_doomed_15 ?_
    refine lv_iload_n hx hb dX10_doomed_18 rfl (lv_at hl 2 rfl) ?_
    refine lv_iconst (v := 0) hx hb dX10_doomed_19 (by decide) ?_
    obtain ⟨u_5, qu_5, h⟩ := zbn_some h
    refine zciS (zrunS E hZ v_X0_run kw_1021 (c_X0_run l g u_3.2 9 xs_9 21 xs_21 x1 0 qu_5 _) rfl hl.1 rfl (Nat.le_of_ble_eq_true rfl) ⟨by decide, by decide⟩ ⟨by decide, by decide⟩ dX10_doomed_20) hZ (fun H locs hZ => ?_)
    refine lv_pop hx hb dX10_doomed_23 rfl ?_
    refine lv_aload_n hx hb dX10_doomed_24 rfl (lv_at hl 0 rfl) ?_
    refine zg (v := .int (u_5.2 9 12)) E hZ (xb_X9 xs_9) ((xe_X9 xs_9) _) kc_X9 12 (by decide) kw_104 rfl rfl dX10_doomed_25 ?_
    refine lv_aload_n hx hb dX10_doomed_28 rfl (lv_at hl 1 rfl) ?_
    refine zg (v := .ref (g.2.2 3)) E hZ (xb_X10 xs_0) ((xe_X10 xs_0) _) kc_X10 1 (by decide) kw_353 rfl rfl dX10_doomed_29 ?_
    refine zg (v := .int (u_5.2 3 12)) E hZ (xb_X9 xs_3) ((xe_X9 xs_3) _) kc_X9 12 (by decide) kw_104 rfl rfl dX10_doomed_32 ?_
    refine lv_iconst (v := (-1)) hx hb dX10_doomed_35 (by decide) ?_
    refine lv_ixor hx hb dX10_doomed_36 ?_
    refine lv_iand hx hb dX10_doomed_37 ?_
    exact hret _ _ _ _ _ _ _ _ h rfl hZ dX10_doomed_38 (by decide) (by decide)
theorem c_X10_doomed (l : Launch) (hst : l.stackTraces = false) (g : zG) (M : zM)  (x1 : Int32) {r : zT1} (h : f_X10_doomed M x1 = some r) : zMt l g xE 125 yX10_doomed (zWs yX10_doomed cX10_doomed 3 (some .int)) 9 1 [.ref (g.2.2 0), .int x1] M r :=
  zMt_of hst (by decide +kernel) (Nat.le_of_ble_eq_true rfl) (fun p e s m args below meth c ls E X hret hZ hl => w_X10_doomed g  E X hret M x1 _ _ ls h hZ hl)
theorem v_X10_doomed : zYV yX10_doomed cX10_doomed 3 (some .int) 1 := ⟨kw_1276, kw_1, kw_1274, kw_1275, by decide +kernel⟩

def f_X10_done (M : zM) (x1 : Int32) : Option (zT1) :=
  zbt (f_X10_needWithin M x1 0 100) (fun M_2 _ => zbn (f_X10_trialCopy M_2 ) (fun u_3 => zmo u_3.1 (none) (fun k_4 => zck (decide (k_4 = 9)) (zbn (f_X0_run u_3.2 9 21 x1 0) (fun u_5 => some (u_5.2, .inr (u_5.2 9 13)))))))
set_option maxRecDepth 100000 in
set_option maxHeartbeats 4000000 in
theorem w_X10_done (g : zG)  {r : zT1} (E : zX g p m c cX10_done 3 s args (zWs yX10_done cX10_done 3 (some .int)) RX10) (X : zXt g 125 l s c meth) (hret : zRti g xE 125 p l e (zrm 9 1 (6 * 1)) s m args below meth c 1 cX10_done .int r) (M : zM) (x1 : Int32) (H : Heap) (locs : List Loc) (ls : Array Slot) (h : f_X10_done M x1 = some r) (hZ : zS g xE 125 s H locs M) (hl : lv_has ls 3 [(0, .ref (g.2.2 0)), (1, .int x1)]) : W p l e (zrm 9 1 (6 * 1)) s m args below meth c H locs 0 0 (zQt g xE 125 below args s 1 r) (F0 m 0 ls []) := by
  have hx := E.1.1
  have hb := E.1.2.1
  unfold f_X10_done at h
  refine lv_aload_n hx hb dX10_done_0 rfl (lv_at hl 0 rfl) ?_
  refine lv_iload_n hx hb dX10_done_1 rfl (lv_at hl 1 rfl) ?_
  refine lv_iconst (v := 0) hx hb dX10_done_2 (by decide) ?_
  refine lv_bipush (v := 100) hx hb dX10_done_3 (by decide) ?_
  obtain ⟨u_1, qu_1, h⟩ := zbt_some h
  refine zctv (zrunVt E X hZ (xb_X10 xs_0) ((xe_X10 xs_0) _) rfl rfl v_X10_needWithin kw_917 (c_X10_needWithin l X.1 g M  x1 0 100 qu_1 _) rfl hl.1 rfl (Nat.le_of_ble_eq_true rfl) ⟨by decide, by decide⟩ ⟨by decide, by decide⟩ dX10_done_5) X hZ h (by decide) (by decide) (fun M_2 H locs eM_2 h hZ => ?_)
  refine W.widen (k := 1) (n := 6) (by decide) (by decide) ?_
  refine lv_aload_n hx hb dX10_done_8 rfl (lv_at hl 0 rfl) ?_
  obtain ⟨u_3, qu_3, h⟩ := zbn_some h
  refine zceS h (zrunV E hZ (xb_X10 xs_0) ((xe_X10 xs_0) _) rfl rfl v_X10_trialCopy kw_581 (c_X10_trialCopy l g M_2   qu_3 _) rfl hl.1 rfl (Nat.le_of_ble_eq_true rfl) ⟨by decide, by decide⟩ ⟨by decide, by decide⟩ dX10_done_9) hZ (fun h H locs hZ => ?_) (fun k_4 h H locs hZ => ?_)
  · cases h
  · replace h := zck_some h
    obtain ⟨hk_4, h⟩ := h
    have hk_4 := of_decide_eq_true hk_4
    subst hk_4
    refine lv_astore_n (lv' := [(2, .ref (g.2.2 9)), (0, .ref (g.2.2 0)), (1, .int x1)]) hx hb dX10_done_12 rfl hl (by decide) rfl (fun ls hl => ?_)
    refine lv_aload_n hx hb dX10_done_13 rfl (lv_at hl 0 rfl) ?_
    refine lv_aload_n hx hb dX10_done_14 rfl (lv_at hl 1 rfl) ?_
    refine zg (v := .ref (g.2.2 21)) E hZ (xb_X10 xs_0) ((xe_X10 xs_0) _) kc_X10 4 (by decide) kw_356 rfl rfl dX10_done_15 ?_
    refine lv_iload_n hx hb dX10_done_18 rfl (lv_at hl 2 rfl) ?_
    refine lv_iconst (v := 0) hx hb dX10_done_19 (by decide) ?_
    obtain ⟨u_5, qu_5, h⟩ := zbn_some h
    refine zciS (zrunS E hZ v_X0_run kw_1021 (c_X0_run l g u_3.2 9 xs_9 21 xs_21 x1 0 qu_5 _) rfl hl.1 rfl (Nat.le_of_ble_eq_true rfl) ⟨by decide, by decide⟩ ⟨by decide, by decide⟩ dX10_done_20) hZ (fun H locs hZ => ?_)
    refine lv_pop hx hb dX10_done_23 rfl ?_
    refine lv_aload_n hx hb dX10_done_24 rfl (lv_at hl 0 rfl) ?_
    refine zg (v := .int (u_5.2 9 13)) E hZ (xb_X9 xs_9) ((xe_X9 xs_9) _) kc_X9 13 (by decide) kw_108 rfl rfl dX10_done_25 ?_
    exact hret _ _ _ _ _ _ _ _ h rfl hZ dX10_done_28 (by decide) (by decide)
theorem c_X10_done (l : Launch) (hst : l.stackTraces = false) (g : zG) (M : zM)  (x1 : Int32) {r : zT1} (h : f_X10_done M x1 = some r) : zMt l g xE 125 yX10_done (zWs yX10_done cX10_done 3 (some .int)) 9 1 [.ref (g.2.2 0), .int x1] M r :=
  zMt_of hst (by decide +kernel) (Nat.le_of_ble_eq_true rfl) (fun p e s m args below meth c ls E X hret hZ hl => w_X10_done g  E X hret M x1 _ _ ls h hZ hl)
theorem v_X10_done : zYV yX10_done cX10_done 3 (some .int) 1 := ⟨kw_1283, kw_1, kw_1281, kw_1282, by decide +kernel⟩

def b_X10_odds_73  (M : zM) (x1 : Int32) (x3 : Int64) : Option (zT1) :=
  zbn (f_X10_power M 100 x1) (fun u_1 => zbn (f_J9_max_f86c9 1 u_1) (fun u_2 => zck (decide (¬ (u_2 : Int64) = 0)) (some (M, .inr (((x3 * 10000) / u_2 : Int64).toInt32)))))
set_option maxRecDepth 100000 in
set_option maxHeartbeats 4000000 in
theorem lb_X10_odds_73 (g : zG)  {r : zT1} (E : zX g p m c cX10_odds 6 s args (zWs yX10_odds cX10_odds 6 (some .int)) RX10) (X : zXt g 125 l s c meth) (hret : zRti g xE 125 p l e (zrm 9 2 (6 * 2)) s m args below meth c 2 cX10_odds .int r) (M : zM) (x1 : Int32) (x3 : Int64)  (H : Heap) (locs : List Loc) (ls : Array Slot) (h : b_X10_odds_73  M x1 x3 = some r) (hZ : zS g xE 125 s H locs M) (hl : lv_has ls 6 [(1, .int x1), (3, .long x3)]) : W p l e (zrm 9 2 (6 * 2)) s m args below meth c H locs 2 12 (zQt g xE 125 below args s 2 r) (F0 m 73 ls []) := by
  have hx := E.1.1
  have hb := E.1.2.1
  unfold b_X10_odds_73 at h
  refine lv_lload_n hx hb dX10_odds_73 rfl (lv_at hl 1 rfl) ?_
  refine lv_ldc2 (v := 10000) hx hb E.1.2.2.2.1 (E.w kw_1297) dX10_odds_74 ?_
  refine lv_lmul hx hb dX10_odds_77 ?_
  refine lv_lconst (v := 1) hx hb dX10_odds_78 (by decide) ?_
  refine lv_bipush (v := 100) hx hb dX10_odds_79 (by decide) ?_
  refine lv_iload_n hx hb dX10_odds_81 rfl (lv_at hl 0 rfl) ?_
  obtain ⟨u_1, qu_1, h⟩ := zbn_some h
  refine zclR (zrunS E hZ v_X10_power kw_1294 (c_X10_power l g M  100 x1 qu_1 _) rfl hl.1 rfl (Nat.le_of_ble_eq_true rfl) ⟨by decide, by decide⟩ ⟨by decide, by decide⟩ dX10_odds_82) hZ (fun H locs hZ => ?_)
  obtain ⟨u_2, qu_2, h⟩ := zbn_some h
  refine zclR (zrunS E hZ v_J9_max_f86c9 kw_1298 (c_J9_max_f86c9 l g xE 125 M  1 u_1 qu_2 _) rfl hl.1 rfl (Nat.le_of_ble_eq_true rfl) ⟨by decide, by decide⟩ ⟨by decide, by decide⟩ dX10_odds_85) hZ (fun H locs hZ => ?_)
  refine zldv h E dX10_odds_88 (fun h => ?_)
  refine lv_l2i hx hb dX10_odds_89 rfl ?_
  exact hret _ _ _ _ _ _ _ _ h rfl hZ dX10_odds_90 (by decide) (by decide)
def b_X10_odds_21  (M : zM) (x1 : Int32) : Nat → Int64 → Int32 → Option (zT1)
  | 0, _, _ => none
  | n + 1, x3, x5 =>
    if x1 < x5 then (b_X10_odds_73  M x1 x3) else (zbn (f_X10_choices M x1 x5) (fun u_3 => zbn (f_X10_power M (M 3 4) x5) (fun u_4 => zbn (f_X10_power M (100 - (M 3 4)) (x1 - x5)) (fun u_5 => znm (x3 + ((u_3 * u_4) * u_5)) (fun x3_6 => znm (x5 + 1) (fun x5_7 => b_X10_odds_21  M x1 n x3_6 x5_7))))))
set_option maxRecDepth 100000 in
set_option maxHeartbeats 4000000 in
theorem lb_X10_odds_21 (g : zG)  {r : zT1} (E : zX g p m c cX10_odds 6 s args (zWs yX10_odds cX10_odds 6 (some .int)) RX10) (X : zXt g 125 l s c meth) (hret : zRti g xE 125 p l e (zrm 9 2 (6 * 2)) s m args below meth c 2 cX10_odds .int r) (M : zM) (x1 : Int32)  : ∀ (n : Nat) (x3 : Int64) (x5 : Int32) (H : Heap) (locs : List Loc) (ls : Array Slot), b_X10_odds_21  M x1 n x3 x5 = some r → zS g xE 125 s H locs M → lv_has ls 6 [(0, .ref (g.2.2 0)), (1, .int x1), (3, .long x3), (5, .int x5)] → W p l e (zrm 9 2 (6 * 2)) s m args below meth c H locs 2 12 (zQt g xE 125 below args s 2 r) (F0 m 21 ls []) := by
  have hx := E.1.1
  have hb := E.1.2.1
  intro n
  induction n with
  | zero => intro x3 x5 H locs ls h hZ hl; cases h
  | succ n ih =>
    intro x3 x5 H locs ls h hZ hl
    rw [b_X10_odds_21] at h
    refine lv_iload hx hb dX10_odds_21 (lv_at hl 3 rfl) ?_
    refine lv_iload_n hx hb dX10_odds_23 rfl (lv_at hl 1 rfl) ?_
    refine zic_gt (tgt := 73) h E dX10_odds_24 (by decide) (fun c_8 h => ?_) (fun c_8 h => ?_)
    · exact lb_X10_odds_73 g  E X hret M x1 x3  H locs ls h hZ (lv_sub hl [1, 2] rfl)
    · refine lv_lload_n hx hb dX10_odds_27 rfl (lv_at hl 2 rfl) ?_
      refine lv_iload_n hx hb dX10_odds_28 rfl (lv_at hl 1 rfl) ?_
      refine lv_iload hx hb dX10_odds_29 (lv_at hl 3 rfl) ?_
      obtain ⟨u_3, qu_3, h⟩ := zbn_some h
      refine zclR (zrunS E hZ v_X10_choices kw_1291 (c_X10_choices l g M  x1 x5 qu_3 _) rfl hl.1 rfl (Nat.le_of_ble_eq_true rfl) ⟨by decide, by decide⟩ ⟨by decide, by decide⟩ dX10_odds_31) hZ (fun H locs hZ => ?_)
      refine lv_aload_n hx hb dX10_odds_34 rfl (lv_at hl 0 rfl) ?_
      refine zg (v := .ref (g.2.2 3)) E hZ (xb_X10 xs_0) ((xe_X10 xs_0) _) kc_X10 1 (by decide) kw_353 rfl rfl dX10_odds_35 ?_
      refine zg (v := .int (M 3 4)) E hZ (xb_X9 xs_3) ((xe_X9 xs_3) _) kc_X9 4 (by decide) kw_76 rfl rfl dX10_odds_38 ?_
      refine lv_iload hx hb dX10_odds_41 (lv_at hl 3 rfl) ?_
      obtain ⟨u_4, qu_4, h⟩ := zbn_some h
      refine zclR (zrunS E hZ v_X10_power kw_1294 (c_X10_power l g M  (M 3 4) x5 qu_4 _) rfl hl.1 rfl (Nat.le_of_ble_eq_true rfl) ⟨by decide, by decide⟩ ⟨by decide, by decide⟩ dX10_odds_43) hZ (fun H locs hZ => ?_)
      refine lv_lmul hx hb dX10_odds_46 ?_
      refine lv_bipush (v := 100) hx hb dX10_odds_47 (by decide) ?_
      refine lv_aload_n hx hb dX10_odds_49 rfl (lv_at hl 0 rfl) ?_
      refine zg (v := .ref (g.2.2 3)) E hZ (xb_X10 xs_0) ((xe_X10 xs_0) _) kc_X10 1 (by decide) kw_353 rfl rfl dX10_odds_50 ?_
      refine zg (v := .int (M 3 4)) E hZ (xb_X9 xs_3) ((xe_X9 xs_3) _) kc_X9 4 (by decide) kw_76 rfl rfl dX10_odds_53 ?_
      refine lv_isub hx hb dX10_odds_56 ?_
      refine lv_iload_n hx hb dX10_odds_57 rfl (lv_at hl 1 rfl) ?_
      refine lv_iload hx hb dX10_odds_58 (lv_at hl 3 rfl) ?_
      refine lv_isub hx hb dX10_odds_60 ?_
      obtain ⟨u_5, qu_5, h⟩ := zbn_some h
      refine zclR (zrunS E hZ v_X10_power kw_1294 (c_X10_power l g M  (100 - (M 3 4)) (x1 - x5) qu_5 _) rfl hl.1 rfl (Nat.le_of_ble_eq_true rfl) ⟨by decide, by decide⟩ ⟨by decide, by decide⟩ dX10_odds_61) hZ (fun H locs hZ => ?_)
      refine lv_lmul hx hb dX10_odds_64 ?_
      refine lv_ladd hx hb dX10_odds_65 ?_
      refine znl h (fun x3_6 ex3_6 h => ?_)
      refine lv_lstore_n (lv' := [(3, .long x3_6), (0, .ref (g.2.2 0)), (1, .int x1), (5, .int x5)]) hx hb dX10_odds_66 rfl hl (by decide) rfl (fun ls hl => ?_)
      obtain ⟨x5_7, ex5_7, h⟩ := znm_ex h
      refine lv_iinc (v := x5_7) (lv' := [(5, .int x5_7), (3, .long x3_6), (0, .ref (g.2.2 0)), (1, .int x1)]) hx hb dX10_odds_67 hl (k := 3) rfl (by rw [ex5_7]; rfl) (by decide) rfl (fun ls hl => ?_)
      refine lv_goto (tgt := 21) hx hb dX10_odds_70 (by decide) ?_
      exact ih x3_6 x5_7 H locs ls h hZ (lv_sub hl [2, 3, 1, 0] rfl)
def f_X10_odds (M : zM) (x1 : Int32) (x2 : Int32) : Option (zT1) :=
  zbt (f_X10_needWithin M x1 0 6) (fun M_10 _ => zbt (f_X10_needWithin M_10 x2 0 6) (fun M_12 _ => b_X10_odds_21  M_12 x1 6000 0 x2))
set_option maxRecDepth 100000 in
set_option maxHeartbeats 4000000 in
theorem w_X10_odds (g : zG)  {r : zT1} (E : zX g p m c cX10_odds 6 s args (zWs yX10_odds cX10_odds 6 (some .int)) RX10) (X : zXt g 125 l s c meth) (hret : zRti g xE 125 p l e (zrm 9 2 (6 * 2)) s m args below meth c 2 cX10_odds .int r) (M : zM) (x1 : Int32) (x2 : Int32) (H : Heap) (locs : List Loc) (ls : Array Slot) (h : f_X10_odds M x1 x2 = some r) (hZ : zS g xE 125 s H locs M) (hl : lv_has ls 6 [(0, .ref (g.2.2 0)), (1, .int x1), (2, .int x2)]) : W p l e (zrm 9 2 (6 * 2)) s m args below meth c H locs 0 0 (zQt g xE 125 below args s 2 r) (F0 m 0 ls []) := by
  have hx := E.1.1
  have hb := E.1.2.1
  unfold f_X10_odds at h
  refine lv_aload_n hx hb dX10_odds_0 rfl (lv_at hl 0 rfl) ?_
  refine lv_iload_n hx hb dX10_odds_1 rfl (lv_at hl 1 rfl) ?_
  refine lv_iconst (v := 0) hx hb dX10_odds_2 (by decide) ?_
  refine lv_bipush (v := 6) hx hb dX10_odds_3 (by decide) ?_
  obtain ⟨u_9, qu_9, h⟩ := zbt_some h
  refine zctv (zrunVt E X hZ (xb_X10 xs_0) ((xe_X10 xs_0) _) rfl rfl v_X10_needWithin kw_917 (c_X10_needWithin l X.1 g M  x1 0 6 qu_9 _) rfl hl.1 rfl (Nat.le_of_ble_eq_true rfl) ⟨by decide, by decide⟩ ⟨by decide, by decide⟩ dX10_odds_5) X hZ h (by decide) (by decide) (fun M_10 H locs eM_10 h hZ => ?_)
  refine W.widen (k := 1) (n := 6) (by decide) (by decide) ?_
  refine lv_aload_n hx hb dX10_odds_8 rfl (lv_at hl 0 rfl) ?_
  refine lv_iload_n hx hb dX10_odds_9 rfl (lv_at hl 2 rfl) ?_
  refine lv_iconst (v := 0) hx hb dX10_odds_10 (by decide) ?_
  refine lv_bipush (v := 6) hx hb dX10_odds_11 (by decide) ?_
  obtain ⟨u_11, qu_11, h⟩ := zbt_some h
  refine zctv (zrunVt E X hZ (xb_X10 xs_0) ((xe_X10 xs_0) _) rfl rfl v_X10_needWithin kw_917 (c_X10_needWithin l X.1 g M_10  x2 0 6 qu_11 _) rfl hl.1 rfl (Nat.le_of_ble_eq_true rfl) ⟨by decide, by decide⟩ ⟨by decide, by decide⟩ dX10_odds_13) X hZ h (by decide) (by decide) (fun M_12 H locs eM_12 h hZ => ?_)
  refine W.widen (k := 2) (n := 12) (by decide) (by decide) ?_
  refine lv_lconst (v := 0) hx hb dX10_odds_16 (by decide) ?_
  refine lv_lstore_n (lv' := [(3, .long 0), (0, .ref (g.2.2 0)), (1, .int x1), (2, .int x2)]) hx hb dX10_odds_17 rfl hl (by decide) rfl (fun ls hl => ?_)
  refine lv_iload_n hx hb dX10_odds_18 rfl (lv_at hl 3 rfl) ?_
  refine lv_istore (lv' := [(5, .int x2), (3, .long 0), (0, .ref (g.2.2 0)), (1, .int x1), (2, .int x2)]) hx hb dX10_odds_19 hl (by decide) rfl (fun ls hl => ?_)
  exact lb_X10_odds_21 g  E X hret M_12 x1  6000 0 x2 H locs ls h hZ (lv_sub hl [2, 3, 1, 0] rfl)
theorem c_X10_odds (l : Launch) (hst : l.stackTraces = false) (g : zG) (M : zM)  (x1 : Int32) (x2 : Int32) {r : zT1} (h : f_X10_odds M x1 x2 = some r) : zMt l g xE 125 yX10_odds (zWs yX10_odds cX10_odds 6 (some .int)) 9 2 [.ref (g.2.2 0), .int x1, .int x2] M r :=
  zMt_of hst (by decide +kernel) (Nat.le_of_ble_eq_true rfl) (fun p e s m args below meth c ls E X hret hZ hl => w_X10_odds g  E X hret M x1 x2 _ _ ls h hZ hl)
theorem v_X10_odds : zYV yX10_odds cX10_odds 6 (some .int) 2 := ⟨kw_1290, kw_1, kw_1288, kw_1289, by decide +kernel⟩

def b_X10_risk_60 (K29 : Int32 → Int32 → Option (zT1)) (M : zM) (x1 : Int32) (x2 : Int32) (x3 : Int32) (x4 : Int32) (x5 : Int32) : Option (zT1) :=
  znm (x5 + 1) (fun x5_1 => K29 x4 x5_1)
set_option maxRecDepth 100000 in
set_option maxHeartbeats 4000000 in
theorem lb_X10_risk_60 (g : zG)  {r : zT1} (E : zX g p m c cX10_risk 6 s args (zWs yX10_risk cX10_risk 6 (some .int)) RX10) (X : zXt g 125 l s c meth) (hret : zRti g xE 125 p l e (zrm 9 3 (6 * 3)) s m args below meth c 3 cX10_risk .int r) (M : zM) (x1 : Int32) (x2 : Int32) (x3 : Int32) (x4 : Int32) (x5 : Int32) (K29 : Int32 → Int32 → Option (zT1)) (hK29 : ∀ (x4 : Int32) (x5 : Int32) (H : Heap) (locs : List Loc) (ls : Array Slot), K29 x4 x5 = some r → zS g xE 125 s H locs M → lv_has ls 6 [(0, .ref (g.2.2 0)), (1, .int x1), (2, .int x2), (3, .int x3), (4, .int x4), (5, .int x5)] → W p l e (zrm 9 3 (6 * 3)) s m args below meth c H locs 3 18 (zQt g xE 125 below args s 3 r) (F0 m 29 ls [])) (H : Heap) (locs : List Loc) (ls : Array Slot) (h : b_X10_risk_60 K29 M x1 x2 x3 x4 x5 = some r) (hZ : zS g xE 125 s H locs M) (hl : lv_has ls 6 [(0, .ref (g.2.2 0)), (1, .int x1), (2, .int x2), (3, .int x3), (4, .int x4), (5, .int x5)]) : W p l e (zrm 9 3 (6 * 3)) s m args below meth c H locs 3 18 (zQt g xE 125 below args s 3 r) (F0 m 60 ls []) := by
  have hx := E.1.1
  have hb := E.1.2.1
  unfold b_X10_risk_60 at h
  obtain ⟨x5_1, ex5_1, h⟩ := znm_ex h
  refine lv_iinc (v := x5_1) (lv' := [(5, .int x5_1), (0, .ref (g.2.2 0)), (1, .int x1), (2, .int x2), (3, .int x3), (4, .int x4)]) hx hb dX10_risk_60 hl (k := 5) rfl (by rw [ex5_1]; rfl) (by decide) rfl (fun ls hl => ?_)
  refine lv_goto (tgt := 29) hx hb dX10_risk_63 (by decide) ?_
  exact hK29 x4 x5_1 H locs ls h hZ (lv_sub hl [1, 2, 3, 4, 5, 0] rfl)
def b_X10_risk_29  (M : zM) (x1 : Int32) (x2 : Int32) (x3 : Int32) : Nat → Int32 → Int32 → Option (zT1)
  | 0, _, _ => none
  | n + 1, x4, x5 =>
    if 5 < x5 then (some (M, .inr x4)) else (zbn (f_X9_waterWith M 3 x2 x5) (fun u_2 => zbn (f_X9_depthBy M 3 u_2 x1) (fun u_3 => if u_3 ≤ x3 then (b_X10_risk_60 (fun x4 x5 => b_X10_risk_29  M x1 x2 x3 n x4 x5) M x1 x2 x3 x4 x5) else (znm (x4 + 1) (fun x4_4 => b_X10_risk_60 (fun x4 x5 => b_X10_risk_29  M x1 x2 x3 n x4 x5) M x1 x2 x3 x4_4 x5)))))
set_option maxRecDepth 100000 in
set_option maxHeartbeats 4000000 in
theorem lb_X10_risk_29 (g : zG)  {r : zT1} (E : zX g p m c cX10_risk 6 s args (zWs yX10_risk cX10_risk 6 (some .int)) RX10) (X : zXt g 125 l s c meth) (hret : zRti g xE 125 p l e (zrm 9 3 (6 * 3)) s m args below meth c 3 cX10_risk .int r) (M : zM) (x1 : Int32) (x2 : Int32) (x3 : Int32)  : ∀ (n : Nat) (x4 : Int32) (x5 : Int32) (H : Heap) (locs : List Loc) (ls : Array Slot), b_X10_risk_29  M x1 x2 x3 n x4 x5 = some r → zS g xE 125 s H locs M → lv_has ls 6 [(0, .ref (g.2.2 0)), (1, .int x1), (2, .int x2), (3, .int x3), (4, .int x4), (5, .int x5)] → W p l e (zrm 9 3 (6 * 3)) s m args below meth c H locs 3 18 (zQt g xE 125 below args s 3 r) (F0 m 29 ls []) := by
  have hx := E.1.1
  have hb := E.1.2.1
  intro n
  induction n with
  | zero => intro x4 x5 H locs ls h hZ hl; cases h
  | succ n ih =>
    intro x4 x5 H locs ls h hZ hl
    rw [b_X10_risk_29] at h
    refine lv_iload hx hb dX10_risk_29 (lv_at hl 5 rfl) ?_
    refine lv_iconst (v := 5) hx hb dX10_risk_31 (by decide) ?_
    refine zic_gt (tgt := 66) h E dX10_risk_32 (by decide) (fun c_6 h => ?_) (fun c_6 h => ?_)
    · refine lv_iload hx hb dX10_risk_66 (lv_at hl 4 rfl) ?_
      exact hret _ _ _ _ _ _ _ _ h rfl hZ dX10_risk_68 (by decide) (by decide)
    · refine lv_aload_n hx hb dX10_risk_35 rfl (lv_at hl 0 rfl) ?_
      refine zg (v := .ref (g.2.2 3)) E hZ (xb_X10 xs_0) ((xe_X10 xs_0) _) kc_X10 1 (by decide) kw_353 rfl rfl dX10_risk_36 ?_
      refine lv_aload_n hx hb dX10_risk_39 rfl (lv_at hl 0 rfl) ?_
      refine zg (v := .ref (g.2.2 3)) E hZ (xb_X10 xs_0) ((xe_X10 xs_0) _) kc_X10 1 (by decide) kw_353 rfl rfl dX10_risk_40 ?_
      refine lv_iload_n hx hb dX10_risk_43 rfl (lv_at hl 2 rfl) ?_
      refine lv_iload hx hb dX10_risk_44 (lv_at hl 5 rfl) ?_
      obtain ⟨u_2, qu_2, h⟩ := zbn_some h
      refine zciR (zrunV E hZ (xb_X9 xs_3) ((xe_X9 xs_3) _) rfl rfl v_X9_waterWith kw_1308 (c_X9_waterWith l g M 3 xs_3 x2 x5 qu_2 _) rfl hl.1 rfl (Nat.le_of_ble_eq_true rfl) ⟨by decide, by decide⟩ ⟨by decide, by decide⟩ dX10_risk_46) hZ (fun H locs hZ => ?_)
      refine lv_iload_n hx hb dX10_risk_49 rfl (lv_at hl 1 rfl) ?_
      obtain ⟨u_3, qu_3, h⟩ := zbn_some h
      refine zciR (zrunV E hZ (xb_X9 xs_3) ((xe_X9 xs_3) _) rfl rfl v_X9_depthBy kw_466 (c_X9_depthBy l g M 3 xs_3 u_2 x1 qu_3 _) rfl hl.1 rfl (Nat.le_of_ble_eq_true rfl) ⟨by decide, by decide⟩ ⟨by decide, by decide⟩ dX10_risk_50) hZ (fun H locs hZ => ?_)
      refine lv_iload_n hx hb dX10_risk_53 rfl (lv_at hl 3 rfl) ?_
      refine zic_le (tgt := 60) h E dX10_risk_54 (by decide) (fun c_5 h => ?_) (fun c_5 h => ?_)
      · exact lb_X10_risk_60 g  E X hret M x1 x2 x3 x4 x5 (fun x4 x5 => b_X10_risk_29  M x1 x2 x3 n x4 x5) ih H locs ls h hZ (lv_sub hl [0, 1, 2, 3, 4, 5] rfl)
      · obtain ⟨x4_4, ex4_4, h⟩ := znm_ex h
        refine lv_iinc (v := x4_4) (lv' := [(4, .int x4_4), (0, .ref (g.2.2 0)), (1, .int x1), (2, .int x2), (3, .int x3), (5, .int x5)]) hx hb dX10_risk_57 hl (k := 4) rfl (by rw [ex4_4]; rfl) (by decide) rfl (fun ls hl => ?_)
        exact lb_X10_risk_60 g  E X hret M x1 x2 x3 x4_4 x5 (fun x4 x5 => b_X10_risk_29  M x1 x2 x3 n x4 x5) ih H locs ls h hZ (lv_sub hl [1, 2, 3, 4, 0, 5] rfl)
def f_X10_risk (M : zM) (x1 : Int32) (x2 : Int32) (x3 : Int32) : Option (zT1) :=
  zbt (f_X10_needPlace M x1) (fun M_8 _ => zbt (f_X10_needWithin M_8 x2 0 9999) (fun M_10 _ => zbt (f_X10_needWithin M_10 x3 0 9) (fun M_12 _ => b_X10_risk_29  M_12 x1 x2 x3 6000 0 ((-5)))))
set_option maxRecDepth 100000 in
set_option maxHeartbeats 4000000 in
theorem w_X10_risk (g : zG)  {r : zT1} (E : zX g p m c cX10_risk 6 s args (zWs yX10_risk cX10_risk 6 (some .int)) RX10) (X : zXt g 125 l s c meth) (hret : zRti g xE 125 p l e (zrm 9 3 (6 * 3)) s m args below meth c 3 cX10_risk .int r) (M : zM) (x1 : Int32) (x2 : Int32) (x3 : Int32) (H : Heap) (locs : List Loc) (ls : Array Slot) (h : f_X10_risk M x1 x2 x3 = some r) (hZ : zS g xE 125 s H locs M) (hl : lv_has ls 6 [(0, .ref (g.2.2 0)), (1, .int x1), (2, .int x2), (3, .int x3)]) : W p l e (zrm 9 3 (6 * 3)) s m args below meth c H locs 0 0 (zQt g xE 125 below args s 3 r) (F0 m 0 ls []) := by
  have hx := E.1.1
  have hb := E.1.2.1
  unfold f_X10_risk at h
  refine lv_aload_n hx hb dX10_risk_0 rfl (lv_at hl 0 rfl) ?_
  refine lv_iload_n hx hb dX10_risk_1 rfl (lv_at hl 1 rfl) ?_
  obtain ⟨u_7, qu_7, h⟩ := zbt_some h
  refine zctv (zrunVt E X hZ (xb_X10 xs_0) ((xe_X10 xs_0) _) rfl rfl v_X10_needPlace kw_844 (c_X10_needPlace l X.1 g M  x1 qu_7 _) rfl hl.1 rfl (Nat.le_of_ble_eq_true rfl) ⟨by decide, by decide⟩ ⟨by decide, by decide⟩ dX10_risk_2) X hZ h (by decide) (by decide) (fun M_8 H locs eM_8 h hZ => ?_)
  refine W.widen (k := 1) (n := 6) (by decide) (by decide) ?_
  refine lv_aload_n hx hb dX10_risk_5 rfl (lv_at hl 0 rfl) ?_
  refine lv_iload_n hx hb dX10_risk_6 rfl (lv_at hl 2 rfl) ?_
  refine lv_iconst (v := 0) hx hb dX10_risk_7 (by decide) ?_
  refine lv_sipush (v := 9999) hx hb dX10_risk_8 (by decide) ?_
  obtain ⟨u_9, qu_9, h⟩ := zbt_some h
  refine zctv (zrunVt E X hZ (xb_X10 xs_0) ((xe_X10 xs_0) _) rfl rfl v_X10_needWithin kw_917 (c_X10_needWithin l X.1 g M_8  x2 0 9999 qu_9 _) rfl hl.1 rfl (Nat.le_of_ble_eq_true rfl) ⟨by decide, by decide⟩ ⟨by decide, by decide⟩ dX10_risk_11) X hZ h (by decide) (by decide) (fun M_10 H locs eM_10 h hZ => ?_)
  refine W.widen (k := 2) (n := 12) (by decide) (by decide) ?_
  refine lv_aload_n hx hb dX10_risk_14 rfl (lv_at hl 0 rfl) ?_
  refine lv_iload_n hx hb dX10_risk_15 rfl (lv_at hl 3 rfl) ?_
  refine lv_iconst (v := 0) hx hb dX10_risk_16 (by decide) ?_
  refine lv_bipush (v := 9) hx hb dX10_risk_17 (by decide) ?_
  obtain ⟨u_11, qu_11, h⟩ := zbt_some h
  refine zctv (zrunVt E X hZ (xb_X10 xs_0) ((xe_X10 xs_0) _) rfl rfl v_X10_needWithin kw_917 (c_X10_needWithin l X.1 g M_10  x3 0 9 qu_11 _) rfl hl.1 rfl (Nat.le_of_ble_eq_true rfl) ⟨by decide, by decide⟩ ⟨by decide, by decide⟩ dX10_risk_19) X hZ h (by decide) (by decide) (fun M_12 H locs eM_12 h hZ => ?_)
  refine W.widen (k := 3) (n := 18) (by decide) (by decide) ?_
  refine lv_iconst (v := 0) hx hb dX10_risk_22 (by decide) ?_
  refine lv_istore (lv' := [(4, .int 0), (0, .ref (g.2.2 0)), (1, .int x1), (2, .int x2), (3, .int x3)]) hx hb dX10_risk_23 hl (by decide) rfl (fun ls hl => ?_)
  refine lv_bipush (v := (-5)) hx hb dX10_risk_25 (by decide) ?_
  refine lv_istore (lv' := [(5, .int ((-5))), (4, .int 0), (0, .ref (g.2.2 0)), (1, .int x1), (2, .int x2), (3, .int x3)]) hx hb dX10_risk_27 hl (by decide) rfl (fun ls hl => ?_)
  exact lb_X10_risk_29 g  E X hret M_12 x1 x2 x3  6000 0 ((-5)) H locs ls h hZ (lv_sub hl [2, 3, 4, 5, 1, 0] rfl)
theorem c_X10_risk (l : Launch) (hst : l.stackTraces = false) (g : zG) (M : zM)  (x1 : Int32) (x2 : Int32) (x3 : Int32) {r : zT1} (h : f_X10_risk M x1 x2 x3 = some r) : zMt l g xE 125 yX10_risk (zWs yX10_risk cX10_risk 6 (some .int)) 9 3 [.ref (g.2.2 0), .int x1, .int x2, .int x3] M r :=
  zMt_of hst (by decide +kernel) (Nat.le_of_ble_eq_true rfl) (fun p e s m args below meth c ls E X hret hZ hl => w_X10_risk g  E X hret M x1 x2 x3 _ _ ls h hZ hl)
theorem v_X10_risk : zYV yX10_risk cX10_risk 6 (some .int) 3 := ⟨kw_1307, kw_1, kw_1305, kw_1306, by decide +kernel⟩

def f_X10_trial (M : zM) (x1 : Int32) (x2 : Int32) : Option (zT1) :=
  zbt (f_X10_needWithin M x1 0 100) (fun M_2 _ => zbn (f_X10_trialCopy M_2 ) (fun u_3 => zmo u_3.1 (none) (fun k_4 => zck (decide (k_4 = 9)) (zbn (f_X0_run u_3.2 9 21 x1 1) (fun u_5 => if x2 = 0 then (some (u_5.2, .inr u_5.1)) else (some (u_5.2, .inr (u_5.2 9 12))))))))
set_option maxRecDepth 100000 in
set_option maxHeartbeats 4000000 in
theorem w_X10_trial (g : zG)  {r : zT1} (E : zX g p m c cX10_trial 5 s args (zWs yX10_trial cX10_trial 5 (some .int)) RX10) (X : zXt g 125 l s c meth) (hret : zRti g xE 125 p l e (zrm 9 1 (6 * 1)) s m args below meth c 1 cX10_trial .int r) (M : zM) (x1 : Int32) (x2 : Int32) (H : Heap) (locs : List Loc) (ls : Array Slot) (h : f_X10_trial M x1 x2 = some r) (hZ : zS g xE 125 s H locs M) (hl : lv_has ls 5 [(0, .ref (g.2.2 0)), (1, .int x1), (2, .int x2)]) : W p l e (zrm 9 1 (6 * 1)) s m args below meth c H locs 0 0 (zQt g xE 125 below args s 1 r) (F0 m 0 ls []) := by
  have hx := E.1.1
  have hb := E.1.2.1
  unfold f_X10_trial at h
  refine lv_aload_n hx hb dX10_trial_0 rfl (lv_at hl 0 rfl) ?_
  refine lv_iload_n hx hb dX10_trial_1 rfl (lv_at hl 1 rfl) ?_
  refine lv_iconst (v := 0) hx hb dX10_trial_2 (by decide) ?_
  refine lv_bipush (v := 100) hx hb dX10_trial_3 (by decide) ?_
  obtain ⟨u_1, qu_1, h⟩ := zbt_some h
  refine zctv (zrunVt E X hZ (xb_X10 xs_0) ((xe_X10 xs_0) _) rfl rfl v_X10_needWithin kw_917 (c_X10_needWithin l X.1 g M  x1 0 100 qu_1 _) rfl hl.1 rfl (Nat.le_of_ble_eq_true rfl) ⟨by decide, by decide⟩ ⟨by decide, by decide⟩ dX10_trial_5) X hZ h (by decide) (by decide) (fun M_2 H locs eM_2 h hZ => ?_)
  refine W.widen (k := 1) (n := 6) (by decide) (by decide) ?_
  refine lv_aload_n hx hb dX10_trial_8 rfl (lv_at hl 0 rfl) ?_
  obtain ⟨u_3, qu_3, h⟩ := zbn_some h
  refine zceS h (zrunV E hZ (xb_X10 xs_0) ((xe_X10 xs_0) _) rfl rfl v_X10_trialCopy kw_581 (c_X10_trialCopy l g M_2   qu_3 _) rfl hl.1 rfl (Nat.le_of_ble_eq_true rfl) ⟨by decide, by decide⟩ ⟨by decide, by decide⟩ dX10_trial_9) hZ (fun h H locs hZ => ?_) (fun k_4 h H locs hZ => ?_)
  · cases h
  · replace h := zck_some h
    obtain ⟨hk_4, h⟩ := h
    have hk_4 := of_decide_eq_true hk_4
    subst hk_4
    refine lv_astore_n (lv' := [(3, .ref (g.2.2 9)), (0, .ref (g.2.2 0)), (1, .int x1), (2, .int x2)]) hx hb dX10_trial_12 rfl hl (by decide) rfl (fun ls hl => ?_)
    refine lv_aload_n hx hb dX10_trial_13 rfl (lv_at hl 0 rfl) ?_
    refine lv_aload_n hx hb dX10_trial_14 rfl (lv_at hl 1 rfl) ?_
    refine zg (v := .ref (g.2.2 21)) E hZ (xb_X10 xs_0) ((xe_X10 xs_0) _) kc_X10 4 (by decide) kw_356 rfl rfl dX10_trial_15 ?_
    refine lv_iload_n hx hb dX10_trial_18 rfl (lv_at hl 2 rfl) ?_
    refine lv_iconst (v := 1) hx hb dX10_trial_19 (by decide) ?_
    obtain ⟨u_5, qu_5, h⟩ := zbn_some h
    refine zciS (zrunS E hZ v_X0_run kw_1021 (c_X0_run l g u_3.2 9 xs_9 21 xs_21 x1 1 qu_5 _) rfl hl.1 rfl (Nat.le_of_ble_eq_true rfl) ⟨by decide, by decide⟩ ⟨by decide, by decide⟩ dX10_trial_20) hZ (fun H locs hZ => ?_)
    refine lv_istore (lv' := [(4, .int u_5.1), (3, .ref (g.2.2 9)), (0, .ref (g.2.2 0)), (1, .int x1), (2, .int x2)]) hx hb dX10_trial_23 hl (by decide) rfl (fun ls hl => ?_)
    refine lv_iload_n hx hb dX10_trial_25 rfl (lv_at hl 4 rfl) ?_
    refine zif_eq (tgt := 36) h E dX10_trial_26 (by decide) (fun c_6 h => ?_) (fun c_6 h => ?_)
    · refine lv_iload hx hb dX10_trial_36 (lv_at hl 0 rfl) ?_
      exact hret _ _ _ _ _ _ _ _ h rfl hZ dX10_trial_38 (by decide) (by decide)
    · refine lv_aload_n hx hb dX10_trial_29 rfl (lv_at hl 1 rfl) ?_
      refine zg (v := .int (u_5.2 9 12)) E hZ (xb_X9 xs_9) ((xe_X9 xs_9) _) kc_X9 12 (by decide) kw_104 rfl rfl dX10_trial_30 ?_
      refine lv_goto (tgt := 38) hx hb dX10_trial_33 (by decide) ?_
      exact hret _ _ _ _ _ _ _ _ h rfl hZ dX10_trial_38 (by decide) (by decide)
theorem c_X10_trial (l : Launch) (hst : l.stackTraces = false) (g : zG) (M : zM)  (x1 : Int32) (x2 : Int32) {r : zT1} (h : f_X10_trial M x1 x2 = some r) : zMt l g xE 125 yX10_trial (zWs yX10_trial cX10_trial 5 (some .int)) 9 1 [.ref (g.2.2 0), .int x1, .int x2] M r :=
  zMt_of hst (by decide +kernel) (Nat.le_of_ble_eq_true rfl) (fun p e s m args below meth c ls E X hret hZ hl => w_X10_trial g  E X hret M x1 x2 _ _ ls h hZ hl)
theorem v_X10_trial : zYV yX10_trial cX10_trial 5 (some .int) 2 := ⟨kw_1315, kw_1, kw_1313, kw_1314, by decide +kernel⟩

def b_X10_span_72  (M : zM) (x2 : Int32) (x3 : Int32) (x4 : Int32) : Option (zT1) :=
  if x2 = 0 then (some (M, .inr x3)) else (some (M, .inr x4))
set_option maxRecDepth 100000 in
set_option maxHeartbeats 4000000 in
theorem lb_X10_span_72 (g : zG)  {r : zT1} (E : zX g p m c cX10_span 8 s args (zWs yX10_span cX10_span 8 (some .int)) RX10) (X : zXt g 125 l s c meth) (hret : zRti g xE 125 p l e (zrm 9 1 (6 * 1)) s m args below meth c 1 cX10_span .int r) (M : zM) (x2 : Int32) (x3 : Int32) (x4 : Int32)  (H : Heap) (locs : List Loc) (ls : Array Slot) (h : b_X10_span_72  M x2 x3 x4 = some r) (hZ : zS g xE 125 s H locs M) (hl : lv_has ls 8 [(2, .int x2), (3, .int x3), (4, .int x4)]) : W p l e (zrm 9 1 (6 * 1)) s m args below meth c H locs 1 6 (zQt g xE 125 below args s 1 r) (F0 m 72 ls []) := by
  have hx := E.1.1
  have hb := E.1.2.1
  unfold b_X10_span_72 at h
  refine lv_iload_n hx hb dX10_span_72 rfl (lv_at hl 0 rfl) ?_
  refine zif_eq (tgt := 81) h E dX10_span_73 (by decide) (fun c_1 h => ?_) (fun c_1 h => ?_)
  · refine lv_iload_n hx hb dX10_span_81 rfl (lv_at hl 1 rfl) ?_
    exact hret _ _ _ _ _ _ _ _ h rfl hZ dX10_span_82 (by decide) (by decide)
  · refine lv_iload hx hb dX10_span_76 (lv_at hl 2 rfl) ?_
    refine lv_goto (tgt := 82) hx hb dX10_span_78 (by decide) ?_
    exact hret _ _ _ _ _ _ _ _ h rfl hZ dX10_span_82 (by decide) (by decide)
def b_X10_span_17  (x1 : Int32) (x2 : Int32) : Nat → zM → Int32 → Int32 → Int32 → Option (zT1)
  | 0, _, _, _, _ => none
  | n + 1, M, x3, x4, x5 =>
    if 6 < x5 then (b_X10_span_72  M x2 x3 x4) else (zbn (f_X10_trialCopy M ) (fun u_2 => zmo u_2.1 (none) (fun k_3 => zck (decide (k_3 = 9)) (znm (zu u_2.2 9 2 x5) (fun M_4 => zbn (f_X0_run M_4 9 21 x1 1) (fun u_5 => znm (if u_5.1 < x3 then u_5.1 else x3) (fun v_6 => znm (if x4 < u_5.1 then u_5.1 else x4) (fun v_7 => znm (x5 + 1) (fun x5_8 => b_X10_span_17  x1 x2 n u_5.2 v_6 v_7 x5_8)))))))))
set_option maxRecDepth 100000 in
set_option maxHeartbeats 4000000 in
theorem lb_X10_span_17 (g : zG)  {r : zT1} (E : zX g p m c cX10_span 8 s args (zWs yX10_span cX10_span 8 (some .int)) RX10) (X : zXt g 125 l s c meth) (hret : zRti g xE 125 p l e (zrm 9 1 (6 * 1)) s m args below meth c 1 cX10_span .int r) (x1 : Int32) (x2 : Int32)  : ∀ (n : Nat) (M : zM) (x3 : Int32) (x4 : Int32) (x5 : Int32) (H : Heap) (locs : List Loc) (ls : Array Slot), b_X10_span_17  x1 x2 n M x3 x4 x5 = some r → zS g xE 125 s H locs M → lv_has ls 8 [(0, .ref (g.2.2 0)), (1, .int x1), (2, .int x2), (3, .int x3), (4, .int x4), (5, .int x5)] → W p l e (zrm 9 1 (6 * 1)) s m args below meth c H locs 1 6 (zQt g xE 125 below args s 1 r) (F0 m 17 ls []) := by
  have hx := E.1.1
  have hb := E.1.2.1
  intro n
  induction n with
  | zero => intro M x3 x4 x5 H locs ls h hZ hl; cases h
  | succ n ih =>
    intro M x3 x4 x5 H locs ls h hZ hl
    rw [b_X10_span_17] at h
    refine lv_iload hx hb dX10_span_17 (lv_at hl 5 rfl) ?_
    refine lv_bipush (v := 6) hx hb dX10_span_19 (by decide) ?_
    refine zic_gt (tgt := 72) h E dX10_span_21 (by decide) (fun c_9 h => ?_) (fun c_9 h => ?_)
    · exact lb_X10_span_72 g  E X hret M x2 x3 x4  H locs ls h hZ (lv_sub hl [2, 3, 4] rfl)
    · refine lv_aload_n hx hb dX10_span_24 rfl (lv_at hl 0 rfl) ?_
      obtain ⟨u_2, qu_2, h⟩ := zbn_some h
      refine zceS h (zrunV E hZ (xb_X10 xs_0) ((xe_X10 xs_0) _) rfl rfl v_X10_trialCopy kw_581 (c_X10_trialCopy l g M   qu_2 _) rfl hl.1 rfl (Nat.le_of_ble_eq_true rfl) ⟨by decide, by decide⟩ ⟨by decide, by decide⟩ dX10_span_25) hZ (fun h H locs hZ => ?_) (fun k_3 h H locs hZ => ?_)
      · cases h
      · replace h := zck_some h
        obtain ⟨hk_3, h⟩ := h
        have hk_3 := of_decide_eq_true hk_3
        subst hk_3
        refine lv_astore (lv' := [(6, .ref (g.2.2 9)), (0, .ref (g.2.2 0)), (1, .int x1), (2, .int x2), (3, .int x3), (4, .int x4), (5, .int x5)]) hx hb dX10_span_28 hl (by decide) rfl (fun ls hl => ?_)
        refine lv_aload hx hb dX10_span_30 (lv_at hl 0 rfl) ?_
        refine lv_iload hx hb dX10_span_32 (lv_at hl 6 rfl) ?_
        refine zp h E hZ (xb_X9 xs_9) ((xe_X9 xs_9) _) (((xe_X9 xs_9) _).trans (congrArg (fun z => Sum.inr (8, z)) (fs_X9_2 g _ _ _))) kc_X9 (by decide) kw_70 rfl rfl rfl (Nat.le_of_ble_eq_true rfl) dX10_span_34 (fun M_4 H locs eM_4 h hZ => ?_)
        refine lv_aload hx hb dX10_span_37 (lv_at hl 0 rfl) ?_
        refine lv_aload_n hx hb dX10_span_39 rfl (lv_at hl 1 rfl) ?_
        refine zg (v := .ref (g.2.2 21)) E hZ (xb_X10 xs_0) ((xe_X10 xs_0) _) kc_X10 4 (by decide) kw_356 rfl rfl dX10_span_40 ?_
        refine lv_iload_n hx hb dX10_span_43 rfl (lv_at hl 2 rfl) ?_
        refine lv_iconst (v := 1) hx hb dX10_span_44 (by decide) ?_
        obtain ⟨u_5, qu_5, h⟩ := zbn_some h
        refine zciS (zrunS E hZ v_X0_run kw_1021 (c_X0_run l g M_4 9 xs_9 21 xs_21 x1 1 qu_5 _) rfl hl.1 rfl (Nat.le_of_ble_eq_true rfl) ⟨by decide, by decide⟩ ⟨by decide, by decide⟩ dX10_span_45) hZ (fun H locs hZ => ?_)
        refine lv_istore (lv' := [(7, .int u_5.1), (6, .ref (g.2.2 9)), (0, .ref (g.2.2 0)), (1, .int x1), (2, .int x2), (3, .int x3), (4, .int x4), (5, .int x5)]) hx hb dX10_span_48 hl (by decide) rfl (fun ls hl => ?_)
        refine lv_iload_n hx hb dX10_span_50 rfl (lv_at hl 5 rfl) ?_
        refine lv_iload hx hb dX10_span_51 (lv_at hl 0 rfl) ?_
        refine va_mmin hx hb (E.1.2.2.1.trans hl.1.symm) E.1.2.2.2.1 (E.w kw_539) (E.w kw_540) (E.w kw_16) (E.w kw_541) (Nat.le_of_ble_eq_true rfl) (Nat.le_of_ble_eq_true rfl) (Nat.le_of_ble_eq_true rfl) (Nat.le_of_ble_eq_true rfl) dX10_span_53 ?_
        refine zni h (fun v_6 ev_6 h => ?_)
        refine lv_istore_n (lv' := [(3, .int v_6), (7, .int u_5.1), (6, .ref (g.2.2 9)), (0, .ref (g.2.2 0)), (1, .int x1), (2, .int x2), (4, .int x4), (5, .int x5)]) hx hb dX10_span_56 rfl hl (by decide) rfl (fun ls hl => ?_)
        refine lv_iload hx hb dX10_span_57 (lv_at hl 6 rfl) ?_
        refine lv_iload hx hb dX10_span_59 (lv_at hl 1 rfl) ?_
        refine va_mmax hx hb (E.1.2.2.1.trans hl.1.symm) E.1.2.2.2.1 (E.w kw_1323) (E.w kw_453) (E.w kw_16) (E.w kw_454) (Nat.le_of_ble_eq_true rfl) (Nat.le_of_ble_eq_true rfl) (Nat.le_of_ble_eq_true rfl) (Nat.le_of_ble_eq_true rfl) dX10_span_61 ?_
        refine zni h (fun v_7 ev_7 h => ?_)
        refine lv_istore (lv' := [(4, .int v_7), (3, .int v_6), (7, .int u_5.1), (6, .ref (g.2.2 9)), (0, .ref (g.2.2 0)), (1, .int x1), (2, .int x2), (5, .int x5)]) hx hb dX10_span_64 hl (by decide) rfl (fun ls hl => ?_)
        obtain ⟨x5_8, ex5_8, h⟩ := znm_ex h
        refine lv_iinc (v := x5_8) (lv' := [(5, .int x5_8), (4, .int v_7), (3, .int v_6), (7, .int u_5.1), (6, .ref (g.2.2 9)), (0, .ref (g.2.2 0)), (1, .int x1), (2, .int x2)]) hx hb dX10_span_66 hl (k := 7) rfl (by rw [ex5_8]; rfl) (by decide) rfl (fun ls hl => ?_)
        refine lv_goto (tgt := 17) hx hb dX10_span_69 (by decide) ?_
        exact ih u_5.2 v_6 v_7 x5_8 H locs ls h hZ (lv_sub hl [5, 6, 7, 2, 1, 0] rfl)
def f_X10_span (M : zM) (x1 : Int32) (x2 : Int32) : Option (zT1) :=
  zbt (f_X10_needWithin M x1 0 100) (fun M_11 _ => b_X10_span_17  x1 x2 6000 M_11 6 0 1)
set_option maxRecDepth 100000 in
set_option maxHeartbeats 4000000 in
theorem w_X10_span (g : zG)  {r : zT1} (E : zX g p m c cX10_span 8 s args (zWs yX10_span cX10_span 8 (some .int)) RX10) (X : zXt g 125 l s c meth) (hret : zRti g xE 125 p l e (zrm 9 1 (6 * 1)) s m args below meth c 1 cX10_span .int r) (M : zM) (x1 : Int32) (x2 : Int32) (H : Heap) (locs : List Loc) (ls : Array Slot) (h : f_X10_span M x1 x2 = some r) (hZ : zS g xE 125 s H locs M) (hl : lv_has ls 8 [(0, .ref (g.2.2 0)), (1, .int x1), (2, .int x2)]) : W p l e (zrm 9 1 (6 * 1)) s m args below meth c H locs 0 0 (zQt g xE 125 below args s 1 r) (F0 m 0 ls []) := by
  have hx := E.1.1
  have hb := E.1.2.1
  unfold f_X10_span at h
  refine lv_aload_n hx hb dX10_span_0 rfl (lv_at hl 0 rfl) ?_
  refine lv_iload_n hx hb dX10_span_1 rfl (lv_at hl 1 rfl) ?_
  refine lv_iconst (v := 0) hx hb dX10_span_2 (by decide) ?_
  refine lv_bipush (v := 100) hx hb dX10_span_3 (by decide) ?_
  obtain ⟨u_10, qu_10, h⟩ := zbt_some h
  refine zctv (zrunVt E X hZ (xb_X10 xs_0) ((xe_X10 xs_0) _) rfl rfl v_X10_needWithin kw_917 (c_X10_needWithin l X.1 g M  x1 0 100 qu_10 _) rfl hl.1 rfl (Nat.le_of_ble_eq_true rfl) ⟨by decide, by decide⟩ ⟨by decide, by decide⟩ dX10_span_5) X hZ h (by decide) (by decide) (fun M_11 H locs eM_11 h hZ => ?_)
  refine W.widen (k := 1) (n := 6) (by decide) (by decide) ?_
  refine lv_bipush (v := 6) hx hb dX10_span_8 (by decide) ?_
  refine lv_istore_n (lv' := [(3, .int 6), (0, .ref (g.2.2 0)), (1, .int x1), (2, .int x2)]) hx hb dX10_span_10 rfl hl (by decide) rfl (fun ls hl => ?_)
  refine lv_iconst (v := 0) hx hb dX10_span_11 (by decide) ?_
  refine lv_istore (lv' := [(4, .int 0), (3, .int 6), (0, .ref (g.2.2 0)), (1, .int x1), (2, .int x2)]) hx hb dX10_span_12 hl (by decide) rfl (fun ls hl => ?_)
  refine lv_iconst (v := 1) hx hb dX10_span_14 (by decide) ?_
  refine lv_istore (lv' := [(5, .int 1), (4, .int 0), (3, .int 6), (0, .ref (g.2.2 0)), (1, .int x1), (2, .int x2)]) hx hb dX10_span_15 hl (by decide) rfl (fun ls hl => ?_)
  exact lb_X10_span_17 g  E X hret x1 x2  6000 M_11 6 0 1 H locs ls h hZ (lv_sub hl [3, 4, 5, 2, 1, 0] rfl)
theorem c_X10_span (l : Launch) (hst : l.stackTraces = false) (g : zG) (M : zM)  (x1 : Int32) (x2 : Int32) {r : zT1} (h : f_X10_span M x1 x2 = some r) : zMt l g xE 125 yX10_span (zWs yX10_span cX10_span 8 (some .int)) 9 1 [.ref (g.2.2 0), .int x1, .int x2] M r :=
  zMt_of hst (by decide +kernel) (Nat.le_of_ble_eq_true rfl) (fun p e s m args below meth c ls E X hret hZ hl => w_X10_span g  E X hret M x1 x2 _ _ ls h hZ hl)
theorem v_X10_span : zYV yX10_span cX10_span 8 (some .int) 2 := ⟨kw_1322, kw_1, kw_1320, kw_1321, by decide +kernel⟩

def b_X10_led_59  (M : zM) (x2 : Int32) (x3 : Int32) (x4 : Int32) : Option (zT1) :=
  if x2 = 0 then (some (M, .inr x3)) else (some (M, .inr x4))
set_option maxRecDepth 100000 in
set_option maxHeartbeats 4000000 in
theorem lb_X10_led_59 (g : zG)  {r : zT1} (E : zX g p m c cX10_led 6 s args (zWs yX10_led cX10_led 6 (some .int)) RX10) (X : zXt g 125 l s c meth) (hret : zRti g xE 125 p l e (zrm 9 1 (6 * 1)) s m args below meth c 1 cX10_led .int r) (M : zM) (x2 : Int32) (x3 : Int32) (x4 : Int32)  (H : Heap) (locs : List Loc) (ls : Array Slot) (h : b_X10_led_59  M x2 x3 x4 = some r) (hZ : zS g xE 125 s H locs M) (hl : lv_has ls 6 [(2, .int x2), (3, .int x3), (4, .int x4)]) : W p l e (zrm 9 1 (6 * 1)) s m args below meth c H locs 1 6 (zQt g xE 125 below args s 1 r) (F0 m 59 ls []) := by
  have hx := E.1.1
  have hb := E.1.2.1
  unfold b_X10_led_59 at h
  refine lv_iload_n hx hb dX10_led_59 rfl (lv_at hl 0 rfl) ?_
  refine zif_eq (tgt := 68) h E dX10_led_60 (by decide) (fun c_1 h => ?_) (fun c_1 h => ?_)
  · refine lv_iload_n hx hb dX10_led_68 rfl (lv_at hl 1 rfl) ?_
    exact hret _ _ _ _ _ _ _ _ h rfl hZ dX10_led_69 (by decide) (by decide)
  · refine lv_iload hx hb dX10_led_63 (lv_at hl 2 rfl) ?_
    refine lv_goto (tgt := 69) hx hb dX10_led_65 (by decide) ?_
    exact hret _ _ _ _ _ _ _ _ h rfl hZ dX10_led_69 (by decide) (by decide)
def b_X10_led_53 (K21 : Int32 → Int32 → Int32 → Option (zT1)) (M : zM) (x1 : Int32) (x2 : Int32) (x3 : Int32) (x4 : Int32) (x5 : Int32) : Option (zT1) :=
  znm (x5 + (-1)) (fun x5_2 => K21 x3 x4 x5_2)
set_option maxRecDepth 100000 in
set_option maxHeartbeats 4000000 in
theorem lb_X10_led_53 (g : zG)  {r : zT1} (E : zX g p m c cX10_led 6 s args (zWs yX10_led cX10_led 6 (some .int)) RX10) (X : zXt g 125 l s c meth) (hret : zRti g xE 125 p l e (zrm 9 1 (6 * 1)) s m args below meth c 1 cX10_led .int r) (M : zM) (x1 : Int32) (x2 : Int32) (x3 : Int32) (x4 : Int32) (x5 : Int32) (K21 : Int32 → Int32 → Int32 → Option (zT1)) (hK21 : ∀ (x3 : Int32) (x4 : Int32) (x5 : Int32) (H : Heap) (locs : List Loc) (ls : Array Slot), K21 x3 x4 x5 = some r → zS g xE 125 s H locs M → lv_has ls 6 [(0, .ref (g.2.2 0)), (1, .int x1), (2, .int x2), (3, .int x3), (4, .int x4), (5, .int x5)] → W p l e (zrm 9 1 (6 * 1)) s m args below meth c H locs 1 6 (zQt g xE 125 below args s 1 r) (F0 m 21 ls [])) (H : Heap) (locs : List Loc) (ls : Array Slot) (h : b_X10_led_53 K21 M x1 x2 x3 x4 x5 = some r) (hZ : zS g xE 125 s H locs M) (hl : lv_has ls 6 [(0, .ref (g.2.2 0)), (1, .int x1), (2, .int x2), (3, .int x3), (4, .int x4), (5, .int x5)]) : W p l e (zrm 9 1 (6 * 1)) s m args below meth c H locs 1 6 (zQt g xE 125 below args s 1 r) (F0 m 53 ls []) := by
  have hx := E.1.1
  have hb := E.1.2.1
  unfold b_X10_led_53 at h
  obtain ⟨x5_2, ex5_2, h⟩ := znm_ex h
  refine lv_iinc (v := x5_2) (lv' := [(5, .int x5_2), (0, .ref (g.2.2 0)), (1, .int x1), (2, .int x2), (3, .int x3), (4, .int x4)]) hx hb dX10_led_53 hl (k := 5) rfl (by rw [ex5_2]; rfl) (by decide) rfl (fun ls hl => ?_)
  refine lv_goto (tgt := 21) hx hb dX10_led_56 (by decide) ?_
  exact hK21 x3 x4 x5_2 H locs ls h hZ (lv_sub hl [1, 2, 3, 4, 5, 0] rfl)
def b_X10_led_21  (M : zM) (x1 : Int32) (x2 : Int32) : Nat → Int32 → Int32 → Int32 → Option (zT1)
  | 0, _, _, _ => none
  | n + 1, x3, x4, x5 =>
    if x5 < 0 then (b_X10_led_59  M x2 x3 x4) else (zbn (f_X9_loggedPlace M 3 x5) (fun u_3 => if u_3 = x1 then (znm (x3 + 1) (fun x3_4 => zbn (f_X9_loggedHour M 3 x5) (fun u_5 => b_X10_led_53 (fun x3 x4 x5 => b_X10_led_21  M x1 x2 n x3 x4 x5) M x1 x2 x3_4 u_5 x5))) else (b_X10_led_53 (fun x3 x4 x5 => b_X10_led_21  M x1 x2 n x3 x4 x5) M x1 x2 x3 x4 x5)))
set_option maxRecDepth 100000 in
set_option maxHeartbeats 4000000 in
theorem lb_X10_led_21 (g : zG)  {r : zT1} (E : zX g p m c cX10_led 6 s args (zWs yX10_led cX10_led 6 (some .int)) RX10) (X : zXt g 125 l s c meth) (hret : zRti g xE 125 p l e (zrm 9 1 (6 * 1)) s m args below meth c 1 cX10_led .int r) (M : zM) (x1 : Int32) (x2 : Int32)  : ∀ (n : Nat) (x3 : Int32) (x4 : Int32) (x5 : Int32) (H : Heap) (locs : List Loc) (ls : Array Slot), b_X10_led_21  M x1 x2 n x3 x4 x5 = some r → zS g xE 125 s H locs M → lv_has ls 6 [(0, .ref (g.2.2 0)), (1, .int x1), (2, .int x2), (3, .int x3), (4, .int x4), (5, .int x5)] → W p l e (zrm 9 1 (6 * 1)) s m args below meth c H locs 1 6 (zQt g xE 125 below args s 1 r) (F0 m 21 ls []) := by
  have hx := E.1.1
  have hb := E.1.2.1
  intro n
  induction n with
  | zero => intro x3 x4 x5 H locs ls h hZ hl; cases h
  | succ n ih =>
    intro x3 x4 x5 H locs ls h hZ hl
    rw [b_X10_led_21] at h
    refine lv_iload hx hb dX10_led_21 (lv_at hl 5 rfl) ?_
    refine zif_lt (tgt := 59) h E dX10_led_23 (by decide) (fun c_7 h => ?_) (fun c_7 h => ?_)
    · exact lb_X10_led_59 g  E X hret M x2 x3 x4  H locs ls h hZ (lv_sub hl [2, 3, 4] rfl)
    · refine lv_aload_n hx hb dX10_led_26 rfl (lv_at hl 0 rfl) ?_
      refine zg (v := .ref (g.2.2 3)) E hZ (xb_X10 xs_0) ((xe_X10 xs_0) _) kc_X10 1 (by decide) kw_353 rfl rfl dX10_led_27 ?_
      refine lv_iload hx hb dX10_led_30 (lv_at hl 5 rfl) ?_
      obtain ⟨u_3, qu_3, h⟩ := zbn_some h
      refine zciR (zrunV E hZ (xb_X9 xs_3) ((xe_X9 xs_3) _) rfl rfl v_X9_loggedPlace kw_1331 (c_X9_loggedPlace l g M 3 xs_3 x5 qu_3 _) rfl hl.1 rfl (Nat.le_of_ble_eq_true rfl) ⟨by decide, by decide⟩ ⟨by decide, by decide⟩ dX10_led_32) hZ (fun H locs hZ => ?_)
      refine lv_iload_n hx hb dX10_led_35 rfl (lv_at hl 1 rfl) ?_
      refine zic_ne (tgt := 53) h E dX10_led_36 (by decide) (fun c_6 h => ?_) (fun c_6 h => ?_)
      · exact lb_X10_led_53 g  E X hret M x1 x2 x3 x4 x5 (fun x3 x4 x5 => b_X10_led_21  M x1 x2 n x3 x4 x5) ih H locs ls h hZ (lv_sub hl [0, 1, 2, 3, 4, 5] rfl)
      · obtain ⟨x3_4, ex3_4, h⟩ := znm_ex h
        refine lv_iinc (v := x3_4) (lv' := [(3, .int x3_4), (0, .ref (g.2.2 0)), (1, .int x1), (2, .int x2), (4, .int x4), (5, .int x5)]) hx hb dX10_led_39 hl (k := 3) rfl (by rw [ex3_4]; rfl) (by decide) rfl (fun ls hl => ?_)
        refine lv_aload_n hx hb dX10_led_42 rfl (lv_at hl 1 rfl) ?_
        refine zg (v := .ref (g.2.2 3)) E hZ (xb_X10 xs_0) ((xe_X10 xs_0) _) kc_X10 1 (by decide) kw_353 rfl rfl dX10_led_43 ?_
        refine lv_iload hx hb dX10_led_46 (lv_at hl 5 rfl) ?_
        obtain ⟨u_5, qu_5, h⟩ := zbn_some h
        refine zciR (zrunV E hZ (xb_X9 xs_3) ((xe_X9 xs_3) _) rfl rfl v_X9_loggedHour kw_1339 (c_X9_loggedHour l g M 3 xs_3 x5 qu_5 _) rfl hl.1 rfl (Nat.le_of_ble_eq_true rfl) ⟨by decide, by decide⟩ ⟨by decide, by decide⟩ dX10_led_48) hZ (fun H locs hZ => ?_)
        refine lv_istore (lv' := [(4, .int u_5), (3, .int x3_4), (0, .ref (g.2.2 0)), (1, .int x1), (2, .int x2), (5, .int x5)]) hx hb dX10_led_51 hl (by decide) rfl (fun ls hl => ?_)
        exact lb_X10_led_53 g  E X hret M x1 x2 x3_4 u_5 x5 (fun x3 x4 x5 => b_X10_led_21  M x1 x2 n x3 x4 x5) ih H locs ls h hZ (lv_sub hl [2, 3, 4, 1, 0, 5] rfl)
def f_X10_led (M : zM) (x1 : Int32) (x2 : Int32) : Option (zT1) :=
  zbt (f_X10_needPlace M x1) (fun M_9 _ => zbn (f_X9_loggedRows M_9 3) (fun u_10 => znm (u_10 - 1) (fun x5_11 => b_X10_led_21  M_9 x1 x2 6000 0 ((-1)) x5_11)))
set_option maxRecDepth 100000 in
set_option maxHeartbeats 4000000 in
theorem w_X10_led (g : zG)  {r : zT1} (E : zX g p m c cX10_led 6 s args (zWs yX10_led cX10_led 6 (some .int)) RX10) (X : zXt g 125 l s c meth) (hret : zRti g xE 125 p l e (zrm 9 1 (6 * 1)) s m args below meth c 1 cX10_led .int r) (M : zM) (x1 : Int32) (x2 : Int32) (H : Heap) (locs : List Loc) (ls : Array Slot) (h : f_X10_led M x1 x2 = some r) (hZ : zS g xE 125 s H locs M) (hl : lv_has ls 6 [(0, .ref (g.2.2 0)), (1, .int x1), (2, .int x2)]) : W p l e (zrm 9 1 (6 * 1)) s m args below meth c H locs 0 0 (zQt g xE 125 below args s 1 r) (F0 m 0 ls []) := by
  have hx := E.1.1
  have hb := E.1.2.1
  unfold f_X10_led at h
  refine lv_aload_n hx hb dX10_led_0 rfl (lv_at hl 0 rfl) ?_
  refine lv_iload_n hx hb dX10_led_1 rfl (lv_at hl 1 rfl) ?_
  obtain ⟨u_8, qu_8, h⟩ := zbt_some h
  refine zctv (zrunVt E X hZ (xb_X10 xs_0) ((xe_X10 xs_0) _) rfl rfl v_X10_needPlace kw_844 (c_X10_needPlace l X.1 g M  x1 qu_8 _) rfl hl.1 rfl (Nat.le_of_ble_eq_true rfl) ⟨by decide, by decide⟩ ⟨by decide, by decide⟩ dX10_led_2) X hZ h (by decide) (by decide) (fun M_9 H locs eM_9 h hZ => ?_)
  refine W.widen (k := 1) (n := 6) (by decide) (by decide) ?_
  refine lv_iconst (v := 0) hx hb dX10_led_5 (by decide) ?_
  refine lv_istore_n (lv' := [(3, .int 0), (0, .ref (g.2.2 0)), (1, .int x1), (2, .int x2)]) hx hb dX10_led_6 rfl hl (by decide) rfl (fun ls hl => ?_)
  refine lv_iconst (v := (-1)) hx hb dX10_led_7 (by decide) ?_
  refine lv_istore (lv' := [(4, .int ((-1))), (3, .int 0), (0, .ref (g.2.2 0)), (1, .int x1), (2, .int x2)]) hx hb dX10_led_8 hl (by decide) rfl (fun ls hl => ?_)
  refine lv_aload_n hx hb dX10_led_10 rfl (lv_at hl 2 rfl) ?_
  refine zg (v := .ref (g.2.2 3)) E hZ (xb_X10 xs_0) ((xe_X10 xs_0) _) kc_X10 1 (by decide) kw_353 rfl rfl dX10_led_11 ?_
  obtain ⟨u_10, qu_10, h⟩ := zbn_some h
  refine zciR (zrunV E hZ (xb_X9 xs_3) ((xe_X9 xs_3) _) rfl rfl v_X9_loggedRows kw_567 (c_X9_loggedRows l g M_9 3 xs_3  qu_10 _) rfl hl.1 rfl (Nat.le_of_ble_eq_true rfl) ⟨by decide, by decide⟩ ⟨by decide, by decide⟩ dX10_led_14) hZ (fun H locs hZ => ?_)
  refine lv_iconst (v := 1) hx hb dX10_led_17 (by decide) ?_
  refine lv_isub hx hb dX10_led_18 ?_
  refine zni h (fun x5_11 ex5_11 h => ?_)
  refine lv_istore (lv' := [(5, .int x5_11), (4, .int ((-1))), (3, .int 0), (0, .ref (g.2.2 0)), (1, .int x1), (2, .int x2)]) hx hb dX10_led_19 hl (by decide) rfl (fun ls hl => ?_)
  exact lb_X10_led_21 g  E X hret M_9 x1 x2  6000 0 ((-1)) x5_11 H locs ls h hZ (lv_sub hl [3, 4, 5, 2, 1, 0] rfl)
theorem c_X10_led (l : Launch) (hst : l.stackTraces = false) (g : zG) (M : zM)  (x1 : Int32) (x2 : Int32) {r : zT1} (h : f_X10_led M x1 x2 = some r) : zMt l g xE 125 yX10_led (zWs yX10_led cX10_led 6 (some .int)) 9 1 [.ref (g.2.2 0), .int x1, .int x2] M r :=
  zMt_of hst (by decide +kernel) (Nat.le_of_ble_eq_true rfl) (fun p e s m args below meth c ls E X hret hZ hl => w_X10_led g  E X hret M x1 x2 _ _ ls h hZ hl)
theorem v_X10_led : zYV yX10_led cX10_led 6 (some .int) 2 := ⟨kw_1330, kw_1, kw_1328, kw_1329, by decide +kernel⟩

def b_X10_log_9  (M : zM) : Option (zT1) :=
  some (M, .inl 3)
set_option maxRecDepth 100000 in
set_option maxHeartbeats 4000000 in
theorem lb_X10_log_9 (g : zG)  {r : zT1} (E : zX g p m c cX10_log 3 s args (zWs yX10_log cX10_log 3 (some .int)) RX10) (X : zXt g 125 l s c meth) (hret : zRti g xE 125 p l e (zrm 8 1 (6 * 1)) s m args below meth c 1 cX10_log .int r) (M : zM)  (H : Heap) (locs : List Loc) (ls : Array Slot) (h : b_X10_log_9  M = some r) (hZ : zS g xE 125 s H locs M) (hl : lv_has ls 3 []) : W p l e (zrm 8 1 (6 * 1)) s m args below meth c H locs 0 0 (zQt g xE 125 below args s 1 r) (F0 m 9 ls []) := by
  have hx := E.1.1
  have hb := E.1.2.1
  unfold b_X10_log_9 at h
  exact zthrow 3 h E X hZ kw_884 kw_24 (by decide) xx1_X10_182 xx2_X10_182 xx3_X10_182 hl.1 dX10_log_9 dX10_log_12 dX10_log_13 dX10_log_16 ⟨by decide, Nat.le_of_ble_eq_true rfl⟩ (by decide) (by decide) (by decide) (by decide)
def f_X10_log (M : zM) (x1 : Int32) (x2 : Int32) : Option (zT1) :=
  if x2 < 0 then (b_X10_log_9  M) else (if x2 ≤ 3 then (if x1 < 0 then (some (M, .inr ((-1)))) else (zbn (f_X9_loggedRows M 3) (fun u_1 => if x1 < u_1 then (if x2 = 0 then (zbn (f_X9_loggedHour M 3 x1) (fun u_3 => some (M, .inr u_3))) else if x2 = 1 then (zbn (f_X9_loggedNumber M 3 x1) (fun u_4 => some (M, .inr u_4))) else if x2 = 2 then (zbn (f_X9_loggedKind M 3 x1) (fun u_5 => some (M, .inr u_5))) else (zbn (f_X9_loggedPlace M 3 x1) (fun u_2 => some (M, .inr u_2)))) else (some (M, .inr ((-1))))))) else (b_X10_log_9  M))
set_option maxRecDepth 100000 in
set_option maxHeartbeats 4000000 in
theorem w_X10_log (g : zG)  {r : zT1} (E : zX g p m c cX10_log 3 s args (zWs yX10_log cX10_log 3 (some .int)) RX10) (X : zXt g 125 l s c meth) (hret : zRti g xE 125 p l e (zrm 8 1 (6 * 1)) s m args below meth c 1 cX10_log .int r) (M : zM) (x1 : Int32) (x2 : Int32) (H : Heap) (locs : List Loc) (ls : Array Slot) (h : f_X10_log M x1 x2 = some r) (hZ : zS g xE 125 s H locs M) (hl : lv_has ls 3 [(0, .ref (g.2.2 0)), (1, .int x1), (2, .int x2)]) : W p l e (zrm 8 1 (6 * 1)) s m args below meth c H locs 0 0 (zQt g xE 125 below args s 1 r) (F0 m 0 ls []) := by
  have hx := E.1.1
  have hb := E.1.2.1
  unfold f_X10_log at h
  refine lv_iload_n hx hb dX10_log_0 rfl (lv_at hl 2 rfl) ?_
  refine zif_lt (tgt := 9) h E dX10_log_1 (by decide) (fun c_12 h => ?_) (fun c_12 h => ?_)
  · exact lb_X10_log_9 g  E X hret M  H locs ls h hZ (lv_sub hl [] rfl)
  · refine lv_iload_n hx hb dX10_log_4 rfl (lv_at hl 2 rfl) ?_
    refine lv_iconst (v := 3) hx hb dX10_log_5 (by decide) ?_
    refine zic_le (tgt := 17) h E dX10_log_6 (by decide) (fun c_11 h => ?_) (fun c_11 h => ?_)
    · refine lv_iload_n hx hb dX10_log_17 rfl (lv_at hl 1 rfl) ?_
      refine zif_lt (tgt := 32) h E dX10_log_18 (by decide) (fun c_10 h => ?_) (fun c_10 h => ?_)
      · refine lv_iconst (v := (-1)) hx hb dX10_log_32 (by decide) ?_
        exact hret _ _ _ _ _ _ _ _ h rfl hZ dX10_log_33 (by decide) (by decide)
      · refine lv_iload_n hx hb dX10_log_21 rfl (lv_at hl 1 rfl) ?_
        refine lv_aload_n hx hb dX10_log_22 rfl (lv_at hl 0 rfl) ?_
        refine zg (v := .ref (g.2.2 3)) E hZ (xb_X10 xs_0) ((xe_X10 xs_0) _) kc_X10 1 (by decide) kw_353 rfl rfl dX10_log_23 ?_
        obtain ⟨u_1, qu_1, h⟩ := zbn_some h
        refine zciR (zrunV E hZ (xb_X9 xs_3) ((xe_X9 xs_3) _) rfl rfl v_X9_loggedRows kw_567 (c_X9_loggedRows l g M 3 xs_3  qu_1 _) rfl hl.1 rfl (Nat.le_of_ble_eq_true rfl) ⟨by decide, by decide⟩ ⟨by decide, by decide⟩ dX10_log_26) hZ (fun H locs hZ => ?_)
        refine zic_lt (tgt := 34) h E dX10_log_29 (by decide) (fun c_9 h => ?_) (fun c_9 h => ?_)
        · refine lv_iload_n hx hb dX10_log_34 rfl (lv_at hl 2 rfl) ?_
          rcases zsp h with ⟨c_6, h⟩ | ⟨c_6, h⟩
          · refine lv_tableIn (tgt := 60) hx hb dX10_log_35 (by rw [c_6]; decide) (by rw [c_6]; decide) (by rw [c_6]; rfl) (by decide) ?_
            refine lv_aload_n hx hb dX10_log_60 rfl (lv_at hl 0 rfl) ?_
            refine zg (v := .ref (g.2.2 3)) E hZ (xb_X10 xs_0) ((xe_X10 xs_0) _) kc_X10 1 (by decide) kw_353 rfl rfl dX10_log_61 ?_
            refine lv_iload_n hx hb dX10_log_64 rfl (lv_at hl 1 rfl) ?_
            obtain ⟨u_3, qu_3, h⟩ := zbn_some h
            refine zciR (zrunV E hZ (xb_X9 xs_3) ((xe_X9 xs_3) _) rfl rfl v_X9_loggedHour kw_1339 (c_X9_loggedHour l g M 3 xs_3 x1 qu_3 _) rfl hl.1 rfl (Nat.le_of_ble_eq_true rfl) ⟨by decide, by decide⟩ ⟨by decide, by decide⟩ dX10_log_65) hZ (fun H locs hZ => ?_)
            exact hret _ _ _ _ _ _ _ _ h rfl hZ dX10_log_68 (by decide) (by decide)
          rcases zsp h with ⟨c_7, h⟩ | ⟨c_7, h⟩
          · refine lv_tableIn (tgt := 69) hx hb dX10_log_35 (by rw [c_7]; decide) (by rw [c_7]; decide) (by rw [c_7]; rfl) (by decide) ?_
            refine lv_aload_n hx hb dX10_log_69 rfl (lv_at hl 0 rfl) ?_
            refine zg (v := .ref (g.2.2 3)) E hZ (xb_X10 xs_0) ((xe_X10 xs_0) _) kc_X10 1 (by decide) kw_353 rfl rfl dX10_log_70 ?_
            refine lv_iload_n hx hb dX10_log_73 rfl (lv_at hl 1 rfl) ?_
            obtain ⟨u_4, qu_4, h⟩ := zbn_some h
            refine zciR (zrunV E hZ (xb_X9 xs_3) ((xe_X9 xs_3) _) rfl rfl v_X9_loggedNumber kw_1350 (c_X9_loggedNumber l g M 3 xs_3 x1 qu_4 _) rfl hl.1 rfl (Nat.le_of_ble_eq_true rfl) ⟨by decide, by decide⟩ ⟨by decide, by decide⟩ dX10_log_74) hZ (fun H locs hZ => ?_)
            exact hret _ _ _ _ _ _ _ _ h rfl hZ dX10_log_77 (by decide) (by decide)
          rcases zsp h with ⟨c_8, h⟩ | ⟨c_8, h⟩
          · refine lv_tableIn (tgt := 78) hx hb dX10_log_35 (by rw [c_8]; decide) (by rw [c_8]; decide) (by rw [c_8]; rfl) (by decide) ?_
            refine lv_aload_n hx hb dX10_log_78 rfl (lv_at hl 0 rfl) ?_
            refine zg (v := .ref (g.2.2 3)) E hZ (xb_X10 xs_0) ((xe_X10 xs_0) _) kc_X10 1 (by decide) kw_353 rfl rfl dX10_log_79 ?_
            refine lv_iload_n hx hb dX10_log_82 rfl (lv_at hl 1 rfl) ?_
            obtain ⟨u_5, qu_5, h⟩ := zbn_some h
            refine zciR (zrunV E hZ (xb_X9 xs_3) ((xe_X9 xs_3) _) rfl rfl v_X9_loggedKind kw_1354 (c_X9_loggedKind l g M 3 xs_3 x1 qu_5 _) rfl hl.1 rfl (Nat.le_of_ble_eq_true rfl) ⟨by decide, by decide⟩ ⟨by decide, by decide⟩ dX10_log_83) hZ (fun H locs hZ => ?_)
            exact hret _ _ _ _ _ _ _ _ h rfl hZ dX10_log_86 (by decide) (by decide)
          have hdf : W p l e (zrm 8 1 (6 * 1)) s m args below meth c H locs 0 0 (zQt g xE 125 below args s 1 r) (F0 m 87 ls []) := by
            refine lv_aload_n hx hb dX10_log_87 rfl (lv_at hl 0 rfl) ?_
            refine zg (v := .ref (g.2.2 3)) E hZ (xb_X10 xs_0) ((xe_X10 xs_0) _) kc_X10 1 (by decide) kw_353 rfl rfl dX10_log_88 ?_
            refine lv_iload_n hx hb dX10_log_91 rfl (lv_at hl 1 rfl) ?_
            obtain ⟨u_2, qu_2, h⟩ := zbn_some h
            refine zciR (zrunV E hZ (xb_X9 xs_3) ((xe_X9 xs_3) _) rfl rfl v_X9_loggedPlace kw_1331 (c_X9_loggedPlace l g M 3 xs_3 x1 qu_2 _) rfl hl.1 rfl (Nat.le_of_ble_eq_true rfl) ⟨by decide, by decide⟩ ⟨by decide, by decide⟩ dX10_log_92) hZ (fun H locs hZ => ?_)
            exact hret _ _ _ _ _ _ _ _ h rfl hZ dX10_log_95 (by decide) (by decide)
          exact lv_tableOut (tgt := 87) hx hb dX10_log_35 (zsw_out [0, 1, 2] (by decide) (by simp [c_6, c_7, c_8])) (by decide) hdf
        · refine lv_iconst (v := (-1)) hx hb dX10_log_32 (by decide) ?_
          exact hret _ _ _ _ _ _ _ _ h rfl hZ dX10_log_33 (by decide) (by decide)
    · exact lb_X10_log_9 g  E X hret M  H locs ls h hZ (lv_sub hl [] rfl)
theorem c_X10_log (l : Launch) (hst : l.stackTraces = false) (g : zG) (M : zM)  (x1 : Int32) (x2 : Int32) {r : zT1} (h : f_X10_log M x1 x2 = some r) : zMt l g xE 125 yX10_log (zWs yX10_log cX10_log 3 (some .int)) 8 1 [.ref (g.2.2 0), .int x1, .int x2] M r :=
  zMt_of hst (by decide +kernel) (Nat.le_of_ble_eq_true rfl) (fun p e s m args below meth c ls E X hret hZ hl => w_X10_log g  E X hret M x1 x2 _ _ ls h hZ hl)
theorem v_X10_log : zYV yX10_log cX10_log 3 (some .int) 2 := ⟨kw_1349, kw_1, kw_1347, kw_1348, by decide +kernel⟩

end
