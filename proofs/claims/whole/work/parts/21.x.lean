section
variable {p : Program} {l : Launch} {e : Env} {s : State} {m : MethodId} {args : Array Value} {below : List Frame} {meth : Method} {c : Code} {Q : State → Prop}
def f_X9_stepOf (M : zM) (k : Nat) (x1 : Int32) : Option (Int32) :=
  if (M k 5) ≤ 0 then (some 0) else (zck (decide (¬ (M k 5 : Int32) = 0)) (some (x1 - x1 / (M k 5) * (M k 5))))
set_option maxRecDepth 100000 in
set_option maxHeartbeats 4000000 in
theorem w_X9_stepOf (g : zG)  (k : Nat) (hk : xk k = 8) {r : Int32} {M0 : zM} (E : zX g p m c cX9_stepOf 2 s args (zWs yX9_stepOf cX9_stepOf 2 (some .int)) RX9) (hret : zRi g xE 125 p l e (zrm 2 0 0) s m args below meth c 0 0 Q cX9_stepOf .int (fun v M1 => v = r ∧ M1 = M0)) (M : zM) (hM : M = M0) (x1 : Int32) (H : Heap) (locs : List Loc) (ls : Array Slot) (h : f_X9_stepOf M k x1 = some r) (hZ : zS g xE 125 s H locs M) (hl : lv_has ls 2 [(0, .ref (g.2.2 k)), (1, .int x1)]) : W p l e (zrm 2 0 0) s m args below meth c H locs 0 0 Q (F0 m 0 ls []) := by
  have hx := E.1.1
  have hb := E.1.2.1
  unfold f_X9_stepOf at h
  refine lv_aload_n hx hb dX9_stepOf_0 rfl (lv_at hl 0 rfl) ?_
  refine zg (v := .int (M k 5)) E hZ (xb_X9 hk) ((xe_X9 hk) _) kc_X9 5 (by decide) kw_77 rfl rfl dX9_stepOf_1 ?_
  refine zif_le (tgt := 16) h E dX9_stepOf_4 (by decide) (fun c_1 h => ?_) (fun c_1 h => ?_)
  · refine lv_iconst (v := 0) hx hb dX9_stepOf_16 (by decide) ?_
    exact hret _ _ _ _ _ _ ⟨Option.some.inj h, hM⟩ rfl hZ dX9_stepOf_17
  · refine lv_iload_n hx hb dX9_stepOf_7 rfl (lv_at hl 1 rfl) ?_
    refine lv_aload_n hx hb dX9_stepOf_8 rfl (lv_at hl 0 rfl) ?_
    refine zg (v := .int (M k 5)) E hZ (xb_X9 hk) ((xe_X9 hk) _) kc_X9 5 (by decide) kw_77 rfl rfl dX9_stepOf_9 ?_
    refine zrem h E dX9_stepOf_12 (fun h => ?_)
    refine lv_goto (tgt := 17) hx hb dX9_stepOf_13 (by decide) ?_
    exact hret _ _ _ _ _ _ ⟨Option.some.inj h, hM⟩ rfl hZ dX9_stepOf_17
theorem c_X9_stepOf (l : Launch) (g : zG) (M : zM) (k : Nat) (hk : xk k = 8) (x1 : Int32) {r : Int32} (h : f_X9_stepOf M k x1 = some r) : zMi l g xE 125 yX9_stepOf (zWs yX9_stepOf cX9_stepOf 2 (some .int)) 2 [.ref (g.2.2 k), .int x1] M (fun v M1 => v = r ∧ M1 = M) :=
  zMi_of (by decide +kernel) (Nat.le_of_ble_eq_true rfl) (fun p e s m args below meth c Q ls E hret hZ hl => w_X9_stepOf g k hk E hret M rfl x1 _ _ ls h hZ hl)
theorem v_X9_stepOf : zYV yX9_stepOf cX9_stepOf 2 (some .int) 1 := ⟨kw_494, kw_3, kw_492, kw_493, by decide +kernel⟩

def f_X9_draw (M : zM) (k : Nat) : Option (Int32 × zM) :=
  znm (zu M k 2 ((1103515245 * (M k 2)) + 12345)) (fun M_1 => some ((((M_1 k 2).toUInt32 >>> ((16 : Int32).toUInt32 &&& Int32.toUInt32 31)).toInt32) &&& 32767, M_1))
set_option maxRecDepth 100000 in
set_option maxHeartbeats 4000000 in
theorem w_X9_draw (g : zG)  (k : Nat) (hk : xk k = 8) {r : Int32 × zM} (E : zX g p m c cX9_draw 1 s args (zWs yX9_draw cX9_draw 1 (some .int)) RX9) (hret : zRi g xE 125 p l e (zrm 2 0 0) s m args below meth c 0 0 Q cX9_draw .int (fun v M1 => r = (v, M1))) (M : zM)  (H : Heap) (locs : List Loc) (ls : Array Slot) (h : f_X9_draw M k = some r) (hZ : zS g xE 125 s H locs M) (hl : lv_has ls 1 [(0, .ref (g.2.2 k))]) : W p l e (zrm 2 0 0) s m args below meth c H locs 0 0 Q (F0 m 0 ls []) := by
  have hx := E.1.1
  have hb := E.1.2.1
  unfold f_X9_draw at h
  refine lv_aload_n hx hb dX9_draw_0 rfl (lv_at hl 0 rfl) ?_
  refine lv_ldc (v := 1103515245) hx hb E.1.2.2.2.1 (E.w kw_1039) dX9_draw_1 ?_
  refine lv_aload_n hx hb dX9_draw_3 rfl (lv_at hl 0 rfl) ?_
  refine zg (v := .int (M k 2)) E hZ (xb_X9 hk) ((xe_X9 hk) _) kc_X9 2 (by decide) kw_69 rfl rfl dX9_draw_4 ?_
  refine lv_imul hx hb dX9_draw_7 ?_
  refine lv_sipush (v := 12345) hx hb dX9_draw_8 (by decide) ?_
  refine lv_iadd hx hb dX9_draw_11 ?_
  refine zp h E hZ (xb_X9 hk) ((xe_X9 hk) _) (((xe_X9 hk) _).trans (congrArg (fun z => Sum.inr (8, z)) (fs_X9_2 g _ _ _))) kc_X9 (by decide) kw_69 rfl rfl rfl (Nat.le_of_ble_eq_true rfl) dX9_draw_12 (fun M_1 H locs eM_1 h hZ => ?_)
  refine lv_aload_n hx hb dX9_draw_15 rfl (lv_at hl 0 rfl) ?_
  refine zg (v := .int (M_1 k 2)) E hZ (xb_X9 hk) ((xe_X9 hk) _) kc_X9 2 (by decide) kw_69 rfl rfl dX9_draw_16 ?_
  refine lv_bipush (v := 16) hx hb dX9_draw_19 (by decide) ?_
  refine lv_iushr hx hb dX9_draw_21 rfl ?_
  refine lv_sipush (v := 32767) hx hb dX9_draw_22 (by decide) ?_
  refine lv_iand hx hb dX9_draw_25 ?_
  exact hret _ _ _ _ _ _ (Option.some.inj h).symm rfl hZ dX9_draw_26
theorem c_X9_draw (l : Launch) (g : zG) (M : zM) (k : Nat) (hk : xk k = 8)  {r : Int32 × zM} (h : f_X9_draw M k = some r) : zMi l g xE 125 yX9_draw (zWs yX9_draw cX9_draw 1 (some .int)) 2 [.ref (g.2.2 k)] M (fun v M1 => r = (v, M1)) :=
  zMi_of (by decide +kernel) (Nat.le_of_ble_eq_true rfl) (fun p e s m args below meth c Q ls E hret hZ hl => w_X9_draw g k hk E hret M  _ _ ls h hZ hl)
theorem v_X9_draw : zYV yX9_draw cX9_draw 1 (some .int) 0 := ⟨kw_1038, kw_3, kw_1036, kw_1037, by decide +kernel⟩

def f_X9_blow (M : zM) (k : Nat) : Option (zM) :=
  znm (zu M k 1 0) (fun M_1 => zbn (f_X9_draw M_1 k) (fun u_2 => zck (decide (¬ (100 : Int32) = 0)) (if (u_2.2 k 4) ≤ (u_2.1 - u_2.1 / 100 * 100) then (some u_2.2) else (zbn (f_X9_draw u_2.2 k) (fun u_3 => zck (decide (¬ (11 : Int32) = 0)) (znm (zu u_3.2 k 1 ((u_3.1 - u_3.1 / 11 * 11) - 5)) (fun M_4 => some M_4)))))))
set_option maxRecDepth 100000 in
set_option maxHeartbeats 4000000 in
theorem w_X9_blow (g : zG)  (k : Nat) (hk : xk k = 8) {r : zM} (E : zX g p m c cX9_blow 1 s args (zWs yX9_blow cX9_blow 1 none) RX9) (hret : zRv g xE 125 p l e (zrm 3 0 0) s m args below meth c 0 0 Q cX9_blow (fun M1 => M1 = r)) (M : zM)  (H : Heap) (locs : List Loc) (ls : Array Slot) (h : f_X9_blow M k = some r) (hZ : zS g xE 125 s H locs M) (hl : lv_has ls 1 [(0, .ref (g.2.2 k))]) : W p l e (zrm 3 0 0) s m args below meth c H locs 0 0 Q (F0 m 0 ls []) := by
  have hx := E.1.1
  have hb := E.1.2.1
  unfold f_X9_blow at h
  refine lv_aload_n hx hb dX9_blow_0 rfl (lv_at hl 0 rfl) ?_
  refine lv_iconst (v := 0) hx hb dX9_blow_1 (by decide) ?_
  refine zp h E hZ (xb_X9 hk) ((xe_X9 hk) _) (((xe_X9 hk) _).trans (congrArg (fun z => Sum.inr (8, z)) (fs_X9_1 g _ _ _))) kc_X9 (by decide) kw_66 rfl rfl rfl (Nat.le_of_ble_eq_true rfl) dX9_blow_2 (fun M_1 H locs eM_1 h hZ => ?_)
  refine lv_aload_n hx hb dX9_blow_5 rfl (lv_at hl 0 rfl) ?_
  obtain ⟨u_2, qu_2, h⟩ := zbn_some h
  refine zciS (zrunV E hZ (xb_X9 hk) ((xe_X9 hk) _) rfl rfl v_X9_draw kw_1035 (c_X9_draw l g M_1 k hk  qu_2 _) rfl hl.1 rfl (Nat.le_of_ble_eq_true rfl) ⟨by decide, by decide⟩ ⟨by decide, by decide⟩ dX9_blow_6) hZ (fun H locs hZ => ?_)
  refine lv_bipush (v := 100) hx hb dX9_blow_9 (by decide) ?_
  refine zrem h E dX9_blow_11 (fun h => ?_)
  refine lv_aload_n hx hb dX9_blow_12 rfl (lv_at hl 0 rfl) ?_
  refine zg (v := .int (u_2.2 k 4)) E hZ (xb_X9 hk) ((xe_X9 hk) _) kc_X9 4 (by decide) kw_74 rfl rfl dX9_blow_13 ?_
  refine zic_ge (tgt := 32) h E dX9_blow_16 (by decide) (fun c_5 h => ?_) (fun c_5 h => ?_)
  · exact hret _ _ _ _ _ (Option.some.inj h) hZ dX9_blow_32
  · refine lv_aload_n hx hb dX9_blow_19 rfl (lv_at hl 0 rfl) ?_
    refine lv_aload_n hx hb dX9_blow_20 rfl (lv_at hl 0 rfl) ?_
    obtain ⟨u_3, qu_3, h⟩ := zbn_some h
    refine zciS (zrunV E hZ (xb_X9 hk) ((xe_X9 hk) _) rfl rfl v_X9_draw kw_1035 (c_X9_draw l g u_2.2 k hk  qu_3 _) rfl hl.1 rfl (Nat.le_of_ble_eq_true rfl) ⟨by decide, by decide⟩ ⟨by decide, by decide⟩ dX9_blow_21) hZ (fun H locs hZ => ?_)
    refine lv_bipush (v := 11) hx hb dX9_blow_24 (by decide) ?_
    refine zrem h E dX9_blow_26 (fun h => ?_)
    refine lv_iconst (v := 5) hx hb dX9_blow_27 (by decide) ?_
    refine lv_isub hx hb dX9_blow_28 ?_
    refine zp h E hZ (xb_X9 hk) ((xe_X9 hk) _) (((xe_X9 hk) _).trans (congrArg (fun z => Sum.inr (8, z)) (fs_X9_1 g _ _ _))) kc_X9 (by decide) kw_66 rfl rfl rfl (Nat.le_of_ble_eq_true rfl) dX9_blow_29 (fun M_4 H locs eM_4 h hZ => ?_)
    exact hret _ _ _ _ _ (Option.some.inj h) hZ dX9_blow_32
theorem c_X9_blow (l : Launch) (g : zG) (M : zM) (k : Nat) (hk : xk k = 8)  {r : zM} (h : f_X9_blow M k = some r) : zMv l g xE 125 yX9_blow (zWs yX9_blow cX9_blow 1 none) 3 [.ref (g.2.2 k)] M (fun M1 => M1 = r) :=
  zMv_of (by decide +kernel) (Nat.le_of_ble_eq_true rfl) (fun p e s m args below meth c Q ls E hret hZ hl => w_X9_blow g k hk E hret M  _ _ ls h hZ hl)
theorem v_X9_blow : zYV yX9_blow cX9_blow 1 none 0 := ⟨kw_1034, kw_3, kw_1032, kw_1033, by decide +kernel⟩

def b_X9_rangeOf_48  (k : Nat) (M : zM) (t0 : Int32) : Option (Int32) :=
  zck (decide (¬ (M k 6 : Int32) = 0)) (some ((M k 7) + ((((M k 8) - (M k 7)) * t0) / (M k 6))))
set_option maxRecDepth 100000 in
set_option maxHeartbeats 4000000 in
theorem lb_X9_rangeOf_48 (g : zG)  (k : Nat) (hk : xk k = 8) {r : Int32} {M0 : zM} (E : zX g p m c cX9_rangeOf 4 s args (zWs yX9_rangeOf cX9_rangeOf 4 (some .int)) RX9) (hret : zRi g xE 125 p l e (zrm 2 0 0) s m args below meth c 0 0 Q cX9_rangeOf .int (fun v M1 => v = r ∧ M1 = M0)) (M : zM) (t0 : Int32) (hM : M = M0)  (H : Heap) (locs : List Loc) (ls : Array Slot) (h : b_X9_rangeOf_48  k M t0 = some r) (hZ : zS g xE 125 s H locs M) (hl : lv_has ls 4 [(0, .ref (g.2.2 k))]) : W p l e (zrm 2 0 0) s m args below meth c H locs 0 0 Q (F0 m 48 ls [.int t0]) := by
  have hx := E.1.1
  have hb := E.1.2.1
  unfold b_X9_rangeOf_48 at h
  refine lv_istore_n (lv' := [(3, .int t0), (0, .ref (g.2.2 k))]) hx hb dX9_rangeOf_48 rfl hl (by decide) rfl (fun ls hl => ?_)
  refine lv_aload_n hx hb dX9_rangeOf_49 rfl (lv_at hl 1 rfl) ?_
  refine zg (v := .int (M k 7)) E hZ (xb_X9 hk) ((xe_X9 hk) _) kc_X9 7 (by decide) kw_84 rfl rfl dX9_rangeOf_50 ?_
  refine lv_aload_n hx hb dX9_rangeOf_53 rfl (lv_at hl 1 rfl) ?_
  refine zg (v := .int (M k 8)) E hZ (xb_X9 hk) ((xe_X9 hk) _) kc_X9 8 (by decide) kw_87 rfl rfl dX9_rangeOf_54 ?_
  refine lv_aload_n hx hb dX9_rangeOf_57 rfl (lv_at hl 1 rfl) ?_
  refine zg (v := .int (M k 7)) E hZ (xb_X9 hk) ((xe_X9 hk) _) kc_X9 7 (by decide) kw_84 rfl rfl dX9_rangeOf_58 ?_
  refine lv_isub hx hb dX9_rangeOf_61 ?_
  refine lv_iload_n hx hb dX9_rangeOf_62 rfl (lv_at hl 0 rfl) ?_
  refine lv_imul hx hb dX9_rangeOf_63 ?_
  refine lv_aload_n hx hb dX9_rangeOf_64 rfl (lv_at hl 1 rfl) ?_
  refine zg (v := .int (M k 6)) E hZ (xb_X9 hk) ((xe_X9 hk) _) kc_X9 6 (by decide) kw_81 rfl rfl dX9_rangeOf_65 ?_
  refine zdv h E dX9_rangeOf_68 (fun h => ?_)
  refine lv_iadd hx hb dX9_rangeOf_69 ?_
  exact hret _ _ _ _ _ _ ⟨Option.some.inj h, hM⟩ rfl hZ dX9_rangeOf_70
def f_X9_rangeOf (M : zM) (k : Nat) (x1 : Int32) : Option (Int32) :=
  if 0 < (M k 6) then (zck (decide (¬ (M k 6 : Int32) = 0)) (znm (x1 - x1 / (M k 6) * (M k 6)) (fun x2_1 => if (2 * x2_1) ≤ (M k 6) then (b_X9_rangeOf_48  k M ((M k 6) - (2 * x2_1))) else (b_X9_rangeOf_48  k M ((2 * x2_1) - (M k 6)))))) else (some (M k 7))
set_option maxRecDepth 100000 in
set_option maxHeartbeats 4000000 in
theorem w_X9_rangeOf (g : zG)  (k : Nat) (hk : xk k = 8) {r : Int32} {M0 : zM} (E : zX g p m c cX9_rangeOf 4 s args (zWs yX9_rangeOf cX9_rangeOf 4 (some .int)) RX9) (hret : zRi g xE 125 p l e (zrm 2 0 0) s m args below meth c 0 0 Q cX9_rangeOf .int (fun v M1 => v = r ∧ M1 = M0)) (M : zM) (hM : M = M0) (x1 : Int32) (H : Heap) (locs : List Loc) (ls : Array Slot) (h : f_X9_rangeOf M k x1 = some r) (hZ : zS g xE 125 s H locs M) (hl : lv_has ls 4 [(0, .ref (g.2.2 k)), (1, .int x1)]) : W p l e (zrm 2 0 0) s m args below meth c H locs 0 0 Q (F0 m 0 ls []) := by
  have hx := E.1.1
  have hb := E.1.2.1
  unfold f_X9_rangeOf at h
  refine lv_aload_n hx hb dX9_rangeOf_0 rfl (lv_at hl 0 rfl) ?_
  refine zg (v := .int (M k 6)) E hZ (xb_X9 hk) ((xe_X9 hk) _) kc_X9 6 (by decide) kw_81 rfl rfl dX9_rangeOf_1 ?_
  refine zif_gt (tgt := 12) h E dX9_rangeOf_4 (by decide) (fun c_3 h => ?_) (fun c_3 h => ?_)
  · refine lv_iload_n hx hb dX9_rangeOf_12 rfl (lv_at hl 1 rfl) ?_
    refine lv_aload_n hx hb dX9_rangeOf_13 rfl (lv_at hl 0 rfl) ?_
    refine zg (v := .int (M k 6)) E hZ (xb_X9 hk) ((xe_X9 hk) _) kc_X9 6 (by decide) kw_81 rfl rfl dX9_rangeOf_14 ?_
    refine zrem h E dX9_rangeOf_17 (fun h => ?_)
    refine zni h (fun x2_1 ex2_1 h => ?_)
    refine lv_istore_n (lv' := [(2, .int x2_1), (0, .ref (g.2.2 k)), (1, .int x1)]) hx hb dX9_rangeOf_18 rfl hl (by decide) rfl (fun ls hl => ?_)
    refine lv_iconst (v := 2) hx hb dX9_rangeOf_19 (by decide) ?_
    refine lv_iload_n hx hb dX9_rangeOf_20 rfl (lv_at hl 0 rfl) ?_
    refine lv_imul hx hb dX9_rangeOf_21 ?_
    refine lv_aload_n hx hb dX9_rangeOf_22 rfl (lv_at hl 1 rfl) ?_
    refine zg (v := .int (M k 6)) E hZ (xb_X9 hk) ((xe_X9 hk) _) kc_X9 6 (by decide) kw_81 rfl rfl dX9_rangeOf_23 ?_
    refine zic_le (tgt := 40) h E dX9_rangeOf_26 (by decide) (fun c_2 h => ?_) (fun c_2 h => ?_)
    · refine lv_aload_n hx hb dX9_rangeOf_40 rfl (lv_at hl 1 rfl) ?_
      refine zg (v := .int (M k 6)) E hZ (xb_X9 hk) ((xe_X9 hk) _) kc_X9 6 (by decide) kw_81 rfl rfl dX9_rangeOf_41 ?_
      refine lv_iconst (v := 2) hx hb dX9_rangeOf_44 (by decide) ?_
      refine lv_iload_n hx hb dX9_rangeOf_45 rfl (lv_at hl 0 rfl) ?_
      refine lv_imul hx hb dX9_rangeOf_46 ?_
      refine lv_isub hx hb dX9_rangeOf_47 ?_
      exact lb_X9_rangeOf_48 g k hk E hret M ((M k 6) - (2 * x2_1)) hM  H locs ls h hZ (lv_sub hl [1] rfl)
    · refine lv_iconst (v := 2) hx hb dX9_rangeOf_29 (by decide) ?_
      refine lv_iload_n hx hb dX9_rangeOf_30 rfl (lv_at hl 0 rfl) ?_
      refine lv_imul hx hb dX9_rangeOf_31 ?_
      refine lv_aload_n hx hb dX9_rangeOf_32 rfl (lv_at hl 1 rfl) ?_
      refine zg (v := .int (M k 6)) E hZ (xb_X9 hk) ((xe_X9 hk) _) kc_X9 6 (by decide) kw_81 rfl rfl dX9_rangeOf_33 ?_
      refine lv_isub hx hb dX9_rangeOf_36 ?_
      refine lv_goto (tgt := 48) hx hb dX9_rangeOf_37 (by decide) ?_
      exact lb_X9_rangeOf_48 g k hk E hret M ((2 * x2_1) - (M k 6)) hM  H locs ls h hZ (lv_sub hl [1] rfl)
  · refine lv_aload_n hx hb dX9_rangeOf_7 rfl (lv_at hl 0 rfl) ?_
    refine zg (v := .int (M k 7)) E hZ (xb_X9 hk) ((xe_X9 hk) _) kc_X9 7 (by decide) kw_84 rfl rfl dX9_rangeOf_8 ?_
    exact hret _ _ _ _ _ _ ⟨Option.some.inj h, hM⟩ rfl hZ dX9_rangeOf_11
theorem c_X9_rangeOf (l : Launch) (g : zG) (M : zM) (k : Nat) (hk : xk k = 8) (x1 : Int32) {r : Int32} (h : f_X9_rangeOf M k x1 = some r) : zMi l g xE 125 yX9_rangeOf (zWs yX9_rangeOf cX9_rangeOf 4 (some .int)) 2 [.ref (g.2.2 k), .int x1] M (fun v M1 => v = r ∧ M1 = M) :=
  zMi_of (by decide +kernel) (Nat.le_of_ble_eq_true rfl) (fun p e s m args below meth c Q ls E hret hZ hl => w_X9_rangeOf g k hk E hret M rfl x1 _ _ ls h hZ hl)
theorem v_X9_rangeOf : zYV yX9_rangeOf cX9_rangeOf 4 (some .int) 1 := ⟨kw_435, kw_3, kw_433, kw_434, by decide +kernel⟩

def f_X9_waterWith (M : zM) (k : Nat) (x1 : Int32) (x2 : Int32) : Option (Int32) :=
  if 0 < (M k 5) then (zck (decide (¬ (M k 5 : Int32) = 0)) (znm (x1 - x1 / (M k 5) * (M k 5)) (fun x3_1 => zck (decide (¬ (M k 5 : Int32) = 0)) (zbn (f_X9_rangeOf M k (x1 / (M k 5))) (fun u_2 => znm (if 0 ≤ ((2 * x3_1) - (M k 5)) then ((2 * x3_1) - (M k 5)) else 0 - ((2 * x3_1) - (M k 5))) (fun v_3 => zck (decide (¬ (M k 5 : Int32) = 0)) (znm ((u_2 * v_3) / (M k 5)) (fun x4_4 => znm (if 0 < (x4_4 + x2) then (x4_4 + x2) else 0) (fun v_5 => some v_5))))))))) else (some 0)
set_option maxRecDepth 100000 in
set_option maxHeartbeats 4000000 in
theorem w_X9_waterWith (g : zG)  (k : Nat) (hk : xk k = 8) {r : Int32} {M0 : zM} (E : zX g p m c cX9_waterWith 5 s args (zWs yX9_waterWith cX9_waterWith 5 (some .int)) RX9) (hret : zRi g xE 125 p l e (zrm 3 0 0) s m args below meth c 0 0 Q cX9_waterWith .int (fun v M1 => v = r ∧ M1 = M0)) (M : zM) (hM : M = M0) (x1 : Int32) (x2 : Int32) (H : Heap) (locs : List Loc) (ls : Array Slot) (h : f_X9_waterWith M k x1 x2 = some r) (hZ : zS g xE 125 s H locs M) (hl : lv_has ls 5 [(0, .ref (g.2.2 k)), (1, .int x1), (2, .int x2)]) : W p l e (zrm 3 0 0) s m args below meth c H locs 0 0 Q (F0 m 0 ls []) := by
  have hx := E.1.1
  have hb := E.1.2.1
  unfold f_X9_waterWith at h
  refine lv_aload_n hx hb dX9_waterWith_0 rfl (lv_at hl 0 rfl) ?_
  refine zg (v := .int (M k 5)) E hZ (xb_X9 hk) ((xe_X9 hk) _) kc_X9 5 (by decide) kw_77 rfl rfl dX9_waterWith_1 ?_
  refine zif_gt (tgt := 9) h E dX9_waterWith_4 (by decide) (fun c_6 h => ?_) (fun c_6 h => ?_)
  · refine lv_iload_n hx hb dX9_waterWith_9 rfl (lv_at hl 1 rfl) ?_
    refine lv_aload_n hx hb dX9_waterWith_10 rfl (lv_at hl 0 rfl) ?_
    refine zg (v := .int (M k 5)) E hZ (xb_X9 hk) ((xe_X9 hk) _) kc_X9 5 (by decide) kw_77 rfl rfl dX9_waterWith_11 ?_
    refine zrem h E dX9_waterWith_14 (fun h => ?_)
    refine zni h (fun x3_1 ex3_1 h => ?_)
    refine lv_istore_n (lv' := [(3, .int x3_1), (0, .ref (g.2.2 k)), (1, .int x1), (2, .int x2)]) hx hb dX9_waterWith_15 rfl hl (by decide) rfl (fun ls hl => ?_)
    refine lv_aload_n hx hb dX9_waterWith_16 rfl (lv_at hl 1 rfl) ?_
    refine lv_iload_n hx hb dX9_waterWith_17 rfl (lv_at hl 2 rfl) ?_
    refine lv_aload_n hx hb dX9_waterWith_18 rfl (lv_at hl 1 rfl) ?_
    refine zg (v := .int (M k 5)) E hZ (xb_X9 hk) ((xe_X9 hk) _) kc_X9 5 (by decide) kw_77 rfl rfl dX9_waterWith_19 ?_
    refine zdv h E dX9_waterWith_22 (fun h => ?_)
    obtain ⟨u_2, qu_2, h⟩ := zbn_some h
    refine zciR (zrunV E hZ (xb_X9 hk) ((xe_X9 hk) _) rfl rfl v_X9_rangeOf kw_448 (c_X9_rangeOf l g M k hk (x1 / (M k 5)) qu_2 _) rfl hl.1 rfl (Nat.le_of_ble_eq_true rfl) ⟨by decide, by decide⟩ ⟨by decide, by decide⟩ dX9_waterWith_23) hZ (fun H locs hZ => ?_)
    refine lv_iconst (v := 2) hx hb dX9_waterWith_26 (by decide) ?_
    refine lv_iload_n hx hb dX9_waterWith_27 rfl (lv_at hl 0 rfl) ?_
    refine lv_imul hx hb dX9_waterWith_28 ?_
    refine lv_aload_n hx hb dX9_waterWith_29 rfl (lv_at hl 1 rfl) ?_
    refine zg (v := .int (M k 5)) E hZ (xb_X9 hk) ((xe_X9 hk) _) kc_X9 5 (by decide) kw_77 rfl rfl dX9_waterWith_30 ?_
    refine lv_isub hx hb dX9_waterWith_33 ?_
    refine va_mabs hx hb (E.1.2.2.1.trans hl.1.symm) E.1.2.2.2.1 (E.w kw_449) (E.w kw_450) (E.w kw_16) (E.w kw_451) (Nat.le_of_ble_eq_true rfl) (Nat.le_of_ble_eq_true rfl) (Nat.le_of_ble_eq_true rfl) (Nat.le_of_ble_eq_true rfl) dX9_waterWith_34 ?_
    refine zni h (fun v_3 ev_3 h => ?_)
    refine lv_imul hx hb dX9_waterWith_37 ?_
    refine lv_aload_n hx hb dX9_waterWith_38 rfl (lv_at hl 1 rfl) ?_
    refine zg (v := .int (M k 5)) E hZ (xb_X9 hk) ((xe_X9 hk) _) kc_X9 5 (by decide) kw_77 rfl rfl dX9_waterWith_39 ?_
    refine zdv h E dX9_waterWith_42 (fun h => ?_)
    refine zni h (fun x4_4 ex4_4 h => ?_)
    refine lv_istore (lv' := [(4, .int x4_4), (3, .int x3_1), (0, .ref (g.2.2 k)), (1, .int x1), (2, .int x2)]) hx hb dX9_waterWith_43 hl (by decide) rfl (fun ls hl => ?_)
    refine lv_iconst (v := 0) hx hb dX9_waterWith_45 (by decide) ?_
    refine lv_iload hx hb dX9_waterWith_46 (lv_at hl 0 rfl) ?_
    refine lv_iload_n hx hb dX9_waterWith_48 rfl (lv_at hl 4 rfl) ?_
    refine lv_iadd hx hb dX9_waterWith_49 ?_
    refine va_mmax hx hb (E.1.2.2.1.trans hl.1.symm) E.1.2.2.2.1 (E.w kw_452) (E.w kw_453) (E.w kw_16) (E.w kw_454) (Nat.le_of_ble_eq_true rfl) (Nat.le_of_ble_eq_true rfl) (Nat.le_of_ble_eq_true rfl) (Nat.le_of_ble_eq_true rfl) dX9_waterWith_50 ?_
    refine zni h (fun v_5 ev_5 h => ?_)
    exact hret _ _ _ _ _ _ ⟨Option.some.inj h, hM⟩ rfl hZ dX9_waterWith_53
  · refine lv_iconst (v := 0) hx hb dX9_waterWith_7 (by decide) ?_
    exact hret _ _ _ _ _ _ ⟨Option.some.inj h, hM⟩ rfl hZ dX9_waterWith_8
theorem c_X9_waterWith (l : Launch) (g : zG) (M : zM) (k : Nat) (hk : xk k = 8) (x1 : Int32) (x2 : Int32) {r : Int32} (h : f_X9_waterWith M k x1 x2 = some r) : zMi l g xE 125 yX9_waterWith (zWs yX9_waterWith cX9_waterWith 5 (some .int)) 3 [.ref (g.2.2 k), .int x1, .int x2] M (fun v M1 => v = r ∧ M1 = M) :=
  zMi_of (by decide +kernel) (Nat.le_of_ble_eq_true rfl) (fun p e s m args below meth c Q ls E hret hZ hl => w_X9_waterWith g k hk E hret M rfl x1 x2 _ _ ls h hZ hl)
theorem v_X9_waterWith : zYV yX9_waterWith cX9_waterWith 5 (some .int) 2 := ⟨kw_447, kw_3, kw_445, kw_446, by decide +kernel⟩

def f_X9_waterIn (M : zM) (k : Nat) (x1 : Int32) : Option (Int32) :=
  zbn (f_X9_waterWith M k x1 (M k 1)) (fun u_1 => some u_1)
set_option maxRecDepth 100000 in
set_option maxHeartbeats 4000000 in
theorem w_X9_waterIn (g : zG)  (k : Nat) (hk : xk k = 8) {r : Int32} {M0 : zM} (E : zX g p m c cX9_waterIn 2 s args (zWs yX9_waterIn cX9_waterIn 2 (some .int)) RX9) (hret : zRi g xE 125 p l e (zrm 4 0 0) s m args below meth c 0 0 Q cX9_waterIn .int (fun v M1 => v = r ∧ M1 = M0)) (M : zM) (hM : M = M0) (x1 : Int32) (H : Heap) (locs : List Loc) (ls : Array Slot) (h : f_X9_waterIn M k x1 = some r) (hZ : zS g xE 125 s H locs M) (hl : lv_has ls 2 [(0, .ref (g.2.2 k)), (1, .int x1)]) : W p l e (zrm 4 0 0) s m args below meth c H locs 0 0 Q (F0 m 0 ls []) := by
  have hx := E.1.1
  have hb := E.1.2.1
  unfold f_X9_waterIn at h
  refine lv_aload_n hx hb dX9_waterIn_0 rfl (lv_at hl 0 rfl) ?_
  refine lv_iload_n hx hb dX9_waterIn_1 rfl (lv_at hl 1 rfl) ?_
  refine lv_aload_n hx hb dX9_waterIn_2 rfl (lv_at hl 0 rfl) ?_
  refine zg (v := .int (M k 1)) E hZ (xb_X9 hk) ((xe_X9 hk) _) kc_X9 1 (by decide) kw_66 rfl rfl dX9_waterIn_3 ?_
  obtain ⟨u_1, qu_1, h⟩ := zbn_some h
  refine zciR (zrunV E hZ (xb_X9 hk) ((xe_X9 hk) _) rfl rfl v_X9_waterWith kw_444 (c_X9_waterWith l g M k hk x1 (M k 1) qu_1 _) rfl hl.1 rfl (Nat.le_of_ble_eq_true rfl) ⟨by decide, by decide⟩ ⟨by decide, by decide⟩ dX9_waterIn_6) hZ (fun H locs hZ => ?_)
  exact hret _ _ _ _ _ _ ⟨Option.some.inj h, hM⟩ rfl hZ dX9_waterIn_9
theorem c_X9_waterIn (l : Launch) (g : zG) (M : zM) (k : Nat) (hk : xk k = 8) (x1 : Int32) {r : Int32} (h : f_X9_waterIn M k x1 = some r) : zMi l g xE 125 yX9_waterIn (zWs yX9_waterIn cX9_waterIn 2 (some .int)) 4 [.ref (g.2.2 k), .int x1] M (fun v M1 => v = r ∧ M1 = M) :=
  zMi_of (by decide +kernel) (Nat.le_of_ble_eq_true rfl) (fun p e s m args below meth c Q ls E hret hZ hl => w_X9_waterIn g k hk E hret M rfl x1 _ _ ls h hZ hl)
theorem v_X9_waterIn : zYV yX9_waterIn cX9_waterIn 2 (some .int) 1 := ⟨kw_443, kw_3, kw_441, kw_442, by decide +kernel⟩

def f_X10_has (M : zM) (x0 : Int32) (x1 : Int32) : Option (Int32) :=
  if x1 < 0 then (some 0) else (if 32 ≤ x1 then (some 0) else (if ((x0 >>> (x1 &&& 31)) &&& 1) = 1 then (some 1) else (some 0)))
set_option maxRecDepth 100000 in
set_option maxHeartbeats 4000000 in
theorem w_X10_has (g : zG)  {r : Int32} {M0 : zM} (E : zX g p m c cX10_has 2 s args (zWs yX10_has cX10_has 2 (some .boolean)) RX10) (hret : zRi g xE 125 p l e (zrm 2 0 0) s m args below meth c 0 0 Q cX10_has .boolean (fun v M1 => v = r ∧ M1 = M0)) (M : zM) (hM : M = M0) (x0 : Int32) (x1 : Int32) (H : Heap) (locs : List Loc) (ls : Array Slot) (h : f_X10_has M x0 x1 = some r) (hZ : zS g xE 125 s H locs M) (hl : lv_has ls 2 [(0, .int x0), (1, .int x1)]) : W p l e (zrm 2 0 0) s m args below meth c H locs 0 0 Q (F0 m 0 ls []) := by
  have hx := E.1.1
  have hb := E.1.2.1
  unfold f_X10_has at h
  refine lv_iload_n hx hb dX10_has_0 rfl (lv_at hl 1 rfl) ?_
  refine zif_lt (tgt := 23) h E dX10_has_1 (by decide) (fun c_3 h => ?_) (fun c_3 h => ?_)
  · refine lv_iconst (v := 0) hx hb dX10_has_23 (by decide) ?_
    exact hret _ _ _ _ _ _ ⟨Option.some.inj h, hM⟩ rfl hZ dX10_has_24
  · refine lv_iload_n hx hb dX10_has_4 rfl (lv_at hl 1 rfl) ?_
    refine lv_bipush (v := 32) hx hb dX10_has_5 (by decide) ?_
    refine zic_ge (tgt := 23) h E dX10_has_7 (by decide) (fun c_2 h => ?_) (fun c_2 h => ?_)
    · refine lv_iconst (v := 0) hx hb dX10_has_23 (by decide) ?_
      exact hret _ _ _ _ _ _ ⟨Option.some.inj h, hM⟩ rfl hZ dX10_has_24
    · refine lv_iload_n hx hb dX10_has_10 rfl (lv_at hl 0 rfl) ?_
      refine lv_iload_n hx hb dX10_has_11 rfl (lv_at hl 1 rfl) ?_
      refine lv_ishr hx hb dX10_has_12 ?_
      refine lv_iconst (v := 1) hx hb dX10_has_13 (by decide) ?_
      refine lv_iand hx hb dX10_has_14 ?_
      refine lv_iconst (v := 1) hx hb dX10_has_15 (by decide) ?_
      refine zic_ne (tgt := 23) h E dX10_has_16 (by decide) (fun c_1 h => ?_) (fun c_1 h => ?_)
      · refine lv_iconst (v := 0) hx hb dX10_has_23 (by decide) ?_
        exact hret _ _ _ _ _ _ ⟨Option.some.inj h, hM⟩ rfl hZ dX10_has_24
      · refine lv_iconst (v := 1) hx hb dX10_has_19 (by decide) ?_
        refine lv_goto (tgt := 24) hx hb dX10_has_20 (by decide) ?_
        exact hret _ _ _ _ _ _ ⟨Option.some.inj h, hM⟩ rfl hZ dX10_has_24
theorem c_X10_has (l : Launch) (g : zG) (M : zM)  (x0 : Int32) (x1 : Int32) {r : Int32} (h : f_X10_has M x0 x1 = some r) : zMi l g xE 125 yX10_has (zWs yX10_has cX10_has 2 (some .boolean)) 2 [.int x0, .int x1] M (fun v M1 => v = r ∧ M1 = M) :=
  zMi_of (by decide +kernel) (Nat.le_of_ble_eq_true rfl) (fun p e s m args below meth c Q ls E hret hZ hl => w_X10_has g  E hret M rfl x0 x1 _ _ ls h hZ hl)
theorem v_X10_has : zYS yX10_has cX10_has 2 (some .boolean) 2 := ⟨kw_465, kw_1, kw_464, by decide +kernel⟩

def f_X9_isDrowned (M : zM) (k : Nat) (x1 : Int32) : Option (Int32) :=
  zbn (f_X10_has M (M k 12) x1) (fun u_1 => zck (zbl u_1) (some u_1))
set_option maxRecDepth 100000 in
set_option maxHeartbeats 4000000 in
theorem w_X9_isDrowned (g : zG)  (k : Nat) (hk : xk k = 8) {r : Int32} {M0 : zM} (E : zX g p m c cX9_isDrowned 2 s args (zWs yX9_isDrowned cX9_isDrowned 2 (some .boolean)) RX9) (hret : zRi g xE 125 p l e (zrm 3 0 0) s m args below meth c 0 0 Q cX9_isDrowned .boolean (fun v M1 => v = r ∧ M1 = M0)) (M : zM) (hM : M = M0) (x1 : Int32) (H : Heap) (locs : List Loc) (ls : Array Slot) (h : f_X9_isDrowned M k x1 = some r) (hZ : zS g xE 125 s H locs M) (hl : lv_has ls 2 [(0, .ref (g.2.2 k)), (1, .int x1)]) : W p l e (zrm 3 0 0) s m args below meth c H locs 0 0 Q (F0 m 0 ls []) := by
  have hx := E.1.1
  have hb := E.1.2.1
  unfold f_X9_isDrowned at h
  refine lv_aload_n hx hb dX9_isDrowned_0 rfl (lv_at hl 0 rfl) ?_
  refine zg (v := .int (M k 12)) E hZ (xb_X9 hk) ((xe_X9 hk) _) kc_X9 12 (by decide) kw_102 rfl rfl dX9_isDrowned_1 ?_
  refine lv_iload_n hx hb dX9_isDrowned_4 rfl (lv_at hl 1 rfl) ?_
  obtain ⟨u_1, qu_1, h⟩ := zbn_some h
  refine zciR (zrunSN E hZ v_X10_has kw_463 (c_X10_has l g M  (M k 12) x1 qu_1 _) rfl hl.1 rfl (Nat.le_of_ble_eq_true rfl) ⟨by decide, by decide⟩ ⟨by decide, by decide⟩ dX9_isDrowned_5) hZ (fun H locs hZ => ?_)
  obtain ⟨hbl, h⟩ := zck_some h
  exact hret _ _ _ _ _ _ ⟨Option.some.inj h, hM⟩ (zbl_n hbl) hZ dX9_isDrowned_8
theorem c_X9_isDrowned (l : Launch) (g : zG) (M : zM) (k : Nat) (hk : xk k = 8) (x1 : Int32) {r : Int32} (h : f_X9_isDrowned M k x1 = some r) : zMi l g xE 125 yX9_isDrowned (zWs yX9_isDrowned cX9_isDrowned 2 (some .boolean)) 3 [.ref (g.2.2 k), .int x1] M (fun v M1 => v = r ∧ M1 = M) :=
  zMi_of (by decide +kernel) (Nat.le_of_ble_eq_true rfl) (fun p e s m args below meth c Q ls E hret hZ hl => w_X9_isDrowned g k hk E hret M rfl x1 _ _ ls h hZ hl)
theorem v_X9_isDrowned : zYV yX9_isDrowned cX9_isDrowned 2 (some .boolean) 1 := ⟨kw_462, kw_3, kw_460, kw_461, by decide +kernel⟩

def f_X10_at (M : zM) (o0 : Nat) (x1 : Int32) : Option (Int32) :=
  if x1 < 0 then (some 0) else (if (Int32.ofNat (xl o0)) ≤ x1 then (some 0) else (zck (zin x1 (xl o0)) (some (M o0 (x1 : Int32).toNatClampNeg))))
set_option maxRecDepth 100000 in
set_option maxHeartbeats 4000000 in
theorem w_X10_at (g : zG)  (o0 : Nat) (ho0 : xk o0 = 20) {r : Int32} {M0 : zM} (E : zX g p m c cX10_at 2 s args (zWs yX10_at cX10_at 2 (some .int)) RX10) (hret : zRi g xE 125 p l e (zrm 2 0 0) s m args below meth c 0 0 Q cX10_at .int (fun v M1 => v = r ∧ M1 = M0)) (M : zM) (hM : M = M0) (x1 : Int32) (H : Heap) (locs : List Loc) (ls : Array Slot) (h : f_X10_at M o0 x1 = some r) (hZ : zS g xE 125 s H locs M) (hl : lv_has ls 2 [(0, .ref (g.2.2 o0)), (1, .int x1)]) : W p l e (zrm 2 0 0) s m args below meth c H locs 0 0 Q (F0 m 0 ls []) := by
  have hx := E.1.1
  have hb := E.1.2.1
  unfold f_X10_at at h
  refine lv_iload_n hx hb dX10_at_0 rfl (lv_at hl 1 rfl) ?_
  refine zif_lt (tgt := 16) h E dX10_at_1 (by decide) (fun c_2 h => ?_) (fun c_2 h => ?_)
  · refine lv_iconst (v := 0) hx hb dX10_at_16 (by decide) ?_
    exact hret _ _ _ _ _ _ ⟨Option.some.inj h, hM⟩ rfl hZ dX10_at_17
  · refine lv_iload_n hx hb dX10_at_4 rfl (lv_at hl 1 rfl) ?_
    refine lv_aload_n hx hb dX10_at_5 rfl (lv_at hl 0 rfl) ?_
    refine zal E hZ 0 rfl (xb_I ho0) (xe_I ho0) rfl dX10_at_6 ?_
    refine zic_ge (tgt := 16) h E dX10_at_7 (by decide) (fun c_1 h => ?_) (fun c_1 h => ?_)
    · refine lv_iconst (v := 0) hx hb dX10_at_16 (by decide) ?_
      exact hret _ _ _ _ _ _ ⟨Option.some.inj h, hM⟩ rfl hZ dX10_at_17
    · refine lv_aload_n hx hb dX10_at_10 rfl (lv_at hl 0 rfl) ?_
      refine lv_iload_n hx hb dX10_at_11 rfl (lv_at hl 1 rfl) ?_
      refine zia h E hZ (xb_I ho0) (xe_I ho0) dX10_at_12 (fun h => ?_)
      refine lv_goto (tgt := 17) hx hb dX10_at_13 (by decide) ?_
      exact hret _ _ _ _ _ _ ⟨Option.some.inj h, hM⟩ rfl hZ dX10_at_17
theorem c_X10_at (l : Launch) (g : zG) (M : zM) (o0 : Nat) (ho0 : xk o0 = 20) (x1 : Int32) {r : Int32} (h : f_X10_at M o0 x1 = some r) : zMi l g xE 125 yX10_at (zWs yX10_at cX10_at 2 (some .int)) 2 [.ref (g.2.2 o0), .int x1] M (fun v M1 => v = r ∧ M1 = M) :=
  zMi_of (by decide +kernel) (Nat.le_of_ble_eq_true rfl) (fun p e s m args below meth c Q ls E hret hZ hl => w_X10_at g o0 ho0 E hret M rfl x1 _ _ ls h hZ hl)
theorem v_X10_at : zYS yX10_at cX10_at 2 (some .int) 2 := ⟨kw_427, kw_1, kw_426, by decide +kernel⟩

def f_X3_push (M : zM) (k : Nat) (x1 : Int32) : Option (zM) :=
  if (M k 7) < 0 then (some M) else (if 40 ≤ (M k 7) then (some M) else (zck (zin (M k 7) 40) (znm (zu M (k + 5) (M k 7 : Int32).toNatClampNeg x1) (fun M_1 => znm (zu M_1 k 7 ((M_1 k 7) + 1)) (fun M_2 => some M_2)))))
set_option maxRecDepth 100000 in
set_option maxHeartbeats 4000000 in
theorem w_X3_push (g : zG)  (k : Nat) (hk : xk k = 2) {r : zM} (E : zX g p m c cX3_push 2 s args (zWs yX3_push cX3_push 2 none) RX3) (hret : zRv g xE 125 p l e (zrm 2 0 0) s m args below meth c 0 0 Q cX3_push (fun M1 => M1 = r)) (M : zM) (x1 : Int32) (H : Heap) (locs : List Loc) (ls : Array Slot) (h : f_X3_push M k x1 = some r) (hZ : zS g xE 125 s H locs M) (hl : lv_has ls 2 [(0, .ref (g.2.2 k)), (1, .int x1)]) : W p l e (zrm 2 0 0) s m args below meth c H locs 0 0 Q (F0 m 0 ls []) := by
  have hx := E.1.1
  have hb := E.1.2.1
  unfold f_X3_push at h
  refine lv_aload_n hx hb dX3_push_0 rfl (lv_at hl 0 rfl) ?_
  refine zg (v := .int (M k 7)) E hZ (xb_X3 hk) ((xe_X3 hk) _) kc_X3 7 (by decide) kw_175 rfl rfl dX3_push_1 ?_
  refine zif_lt (tgt := 39) h E dX3_push_4 (by decide) (fun c_4 h => ?_) (fun c_4 h => ?_)
  · exact hret _ _ _ _ _ (Option.some.inj h) hZ dX3_push_39
  · refine lv_aload_n hx hb dX3_push_7 rfl (lv_at hl 0 rfl) ?_
    refine zg (v := .int (M k 7)) E hZ (xb_X3 hk) ((xe_X3 hk) _) kc_X3 7 (by decide) kw_175 rfl rfl dX3_push_8 ?_
    refine lv_aload_n hx hb dX3_push_11 rfl (lv_at hl 0 rfl) ?_
    refine zg (v := .ref (g.2.2 (k + 5))) E hZ (xb_X3 hk) ((xe_X3 hk) _) kc_X3 6 (by decide) kw_174 rfl rfl dX3_push_12 ?_
    refine zal (v := 40) E hZ 0 rfl (xb_I (xc_X3_stack hk).1) (xe_IL (xc_X3_stack hk)) (by decide) dX3_push_15 ?_
    refine zic_ge (tgt := 39) h E dX3_push_16 (by decide) (fun c_3 h => ?_) (fun c_3 h => ?_)
    · exact hret _ _ _ _ _ (Option.some.inj h) hZ dX3_push_39
    · refine lv_aload_n hx hb dX3_push_19 rfl (lv_at hl 0 rfl) ?_
      refine zg (v := .ref (g.2.2 (k + 5))) E hZ (xb_X3 hk) ((xe_X3 hk) _) kc_X3 6 (by decide) kw_174 rfl rfl dX3_push_20 ?_
      refine lv_aload_n hx hb dX3_push_23 rfl (lv_at hl 0 rfl) ?_
      refine zg (v := .int (M k 7)) E hZ (xb_X3 hk) ((xe_X3 hk) _) kc_X3 7 (by decide) kw_175 rfl rfl dX3_push_24 ?_
      refine lv_iload_n hx hb dX3_push_27 rfl (lv_at hl 1 rfl) ?_
      refine zis h E hZ (xb_I (xc_X3_stack hk).1) (xe_IL (xc_X3_stack hk)) dX3_push_28 (fun M_1 H locs eM_1 h hZ => ?_)
      refine lv_aload_n hx hb dX3_push_29 rfl (lv_at hl 0 rfl) ?_
      refine lv_dup hx hb dX3_push_30 rfl ?_
      refine zg (v := .int (M_1 k 7)) E hZ (xb_X3 hk) ((xe_X3 hk) _) kc_X3 7 (by decide) kw_175 rfl rfl dX3_push_31 ?_
      refine lv_iconst (v := 1) hx hb dX3_push_34 (by decide) ?_
      refine lv_iadd hx hb dX3_push_35 ?_
      refine zp h E hZ (xb_X3 hk) ((xe_X3 hk) _) (((xe_X3 hk) _).trans (congrArg (fun z => Sum.inr (2, z)) (fs_X3_7 g _ _ _))) kc_X3 (by decide) kw_175 rfl rfl rfl (Nat.le_of_ble_eq_true rfl) dX3_push_36 (fun M_2 H locs eM_2 h hZ => ?_)
      exact hret _ _ _ _ _ (Option.some.inj h) hZ dX3_push_39
theorem c_X3_push (l : Launch) (g : zG) (M : zM) (k : Nat) (hk : xk k = 2) (x1 : Int32) {r : zM} (h : f_X3_push M k x1 = some r) : zMv l g xE 125 yX3_push (zWs yX3_push cX3_push 2 none) 2 [.ref (g.2.2 k), .int x1] M (fun M1 => M1 = r) :=
  zMv_of (by decide +kernel) (Nat.le_of_ble_eq_true rfl) (fun p e s m args below meth c Q ls E hret hZ hl => w_X3_push g k hk E hret M x1 _ _ ls h hZ hl)
theorem v_X3_push : zYV yX3_push cX3_push 2 none 1 := ⟨kw_486, kw_4, kw_485, kp_2, by decide +kernel⟩

def f_X9_monkCell (M : zM) (k : Nat) (x1 : Int32) (x2 : Int32) : Option (Int32) :=
  znm ((x1 * 4) + x2) (fun x3_1 => if x3_1 < 0 then (some 0) else (if 24 ≤ x3_1 then (some 0) else (zck (zin x3_1 24) (some (M (k + 3) (x3_1 : Int32).toNatClampNeg)))))
set_option maxRecDepth 100000 in
set_option maxHeartbeats 4000000 in
theorem w_X9_monkCell (g : zG)  (k : Nat) (hk : xk k = 8) {r : Int32} {M0 : zM} (E : zX g p m c cX9_monkCell 4 s args (zWs yX9_monkCell cX9_monkCell 4 (some .int)) RX9) (hret : zRi g xE 125 p l e (zrm 2 0 0) s m args below meth c 0 0 Q cX9_monkCell .int (fun v M1 => v = r ∧ M1 = M0)) (M : zM) (hM : M = M0) (x1 : Int32) (x2 : Int32) (H : Heap) (locs : List Loc) (ls : Array Slot) (h : f_X9_monkCell M k x1 x2 = some r) (hZ : zS g xE 125 s H locs M) (hl : lv_has ls 4 [(0, .ref (g.2.2 k)), (1, .int x1), (2, .int x2)]) : W p l e (zrm 2 0 0) s m args below meth c H locs 0 0 Q (F0 m 0 ls []) := by
  have hx := E.1.1
  have hb := E.1.2.1
  unfold f_X9_monkCell at h
  refine lv_iload_n hx hb dX9_monkCell_0 rfl (lv_at hl 1 rfl) ?_
  refine lv_iconst (v := 4) hx hb dX9_monkCell_1 (by decide) ?_
  refine lv_imul hx hb dX9_monkCell_2 ?_
  refine lv_iload_n hx hb dX9_monkCell_3 rfl (lv_at hl 2 rfl) ?_
  refine lv_iadd hx hb dX9_monkCell_4 ?_
  refine zni h (fun x3_1 ex3_1 h => ?_)
  refine lv_istore_n (lv' := [(3, .int x3_1), (0, .ref (g.2.2 k)), (1, .int x1), (2, .int x2)]) hx hb dX9_monkCell_5 rfl hl (by decide) rfl (fun ls hl => ?_)
  refine lv_iload_n hx hb dX9_monkCell_6 rfl (lv_at hl 0 rfl) ?_
  refine zif_lt (tgt := 28) h E dX9_monkCell_7 (by decide) (fun c_3 h => ?_) (fun c_3 h => ?_)
  · refine lv_iconst (v := 0) hx hb dX9_monkCell_28 (by decide) ?_
    exact hret _ _ _ _ _ _ ⟨Option.some.inj h, hM⟩ rfl hZ dX9_monkCell_29
  · refine lv_iload_n hx hb dX9_monkCell_10 rfl (lv_at hl 0 rfl) ?_
    refine lv_aload_n hx hb dX9_monkCell_11 rfl (lv_at hl 1 rfl) ?_
    refine zg (v := .ref (g.2.2 (k + 3))) E hZ (xb_X9 hk) ((xe_X9 hk) _) kc_X9 17 (by decide) kw_117 rfl rfl dX9_monkCell_12 ?_
    refine zal (v := 24) E hZ 0 rfl (xb_I (xc_X9_monkCells hk).1) (xe_IL (xc_X9_monkCells hk)) (by decide) dX9_monkCell_15 ?_
    refine zic_ge (tgt := 28) h E dX9_monkCell_16 (by decide) (fun c_2 h => ?_) (fun c_2 h => ?_)
    · refine lv_iconst (v := 0) hx hb dX9_monkCell_28 (by decide) ?_
      exact hret _ _ _ _ _ _ ⟨Option.some.inj h, hM⟩ rfl hZ dX9_monkCell_29
    · refine lv_aload_n hx hb dX9_monkCell_19 rfl (lv_at hl 1 rfl) ?_
      refine zg (v := .ref (g.2.2 (k + 3))) E hZ (xb_X9 hk) ((xe_X9 hk) _) kc_X9 17 (by decide) kw_117 rfl rfl dX9_monkCell_20 ?_
      refine lv_iload_n hx hb dX9_monkCell_23 rfl (lv_at hl 0 rfl) ?_
      refine zia h E hZ (xb_I (xc_X9_monkCells hk).1) (xe_IL (xc_X9_monkCells hk)) dX9_monkCell_24 (fun h => ?_)
      refine lv_goto (tgt := 29) hx hb dX9_monkCell_25 (by decide) ?_
      exact hret _ _ _ _ _ _ ⟨Option.some.inj h, hM⟩ rfl hZ dX9_monkCell_29
theorem c_X9_monkCell (l : Launch) (g : zG) (M : zM) (k : Nat) (hk : xk k = 8) (x1 : Int32) (x2 : Int32) {r : Int32} (h : f_X9_monkCell M k x1 x2 = some r) : zMi l g xE 125 yX9_monkCell (zWs yX9_monkCell cX9_monkCell 4 (some .int)) 2 [.ref (g.2.2 k), .int x1, .int x2] M (fun v M1 => v = r ∧ M1 = M) :=
  zMi_of (by decide +kernel) (Nat.le_of_ble_eq_true rfl) (fun p e s m args below meth c Q ls E hret hZ hl => w_X9_monkCell g k hk E hret M rfl x1 x2 _ _ ls h hZ hl)
theorem v_X9_monkCell : zYV yX9_monkCell cX9_monkCell 4 (some .int) 2 := ⟨kw_458, kw_3, kw_456, kw_457, by decide +kernel⟩

def b_X9_depthBy_23  (k : Nat) (M : zM) (x1 : Int32) (t0 : Int32) : Option (Int32) :=
  if x1 ≤ t0 then (some 0) else (some (x1 - t0))
set_option maxRecDepth 100000 in
set_option maxHeartbeats 4000000 in
theorem lb_X9_depthBy_23 (g : zG)  (k : Nat) (hk : xk k = 8) {r : Int32} {M0 : zM} (E : zX g p m c cX9_depthBy 4 s args (zWs yX9_depthBy cX9_depthBy 4 (some .int)) RX9) (hret : zRi g xE 125 p l e (zrm 2 0 0) s m args below meth c 0 0 Q cX9_depthBy .int (fun v M1 => v = r ∧ M1 = M0)) (M : zM) (x1 : Int32) (t0 : Int32) (hM : M = M0)  (H : Heap) (locs : List Loc) (ls : Array Slot) (h : b_X9_depthBy_23  k M x1 t0 = some r) (hZ : zS g xE 125 s H locs M) (hl : lv_has ls 4 [(1, .int x1)]) : W p l e (zrm 2 0 0) s m args below meth c H locs 0 0 Q (F0 m 23 ls [.int t0]) := by
  have hx := E.1.1
  have hb := E.1.2.1
  unfold b_X9_depthBy_23 at h
  refine lv_istore_n (lv' := [(3, .int t0), (1, .int x1)]) hx hb dX9_depthBy_23 rfl hl (by decide) rfl (fun ls hl => ?_)
  refine lv_iload_n hx hb dX9_depthBy_24 rfl (lv_at hl 1 rfl) ?_
  refine lv_iload_n hx hb dX9_depthBy_25 rfl (lv_at hl 0 rfl) ?_
  refine zic_le (tgt := 35) h E dX9_depthBy_26 (by decide) (fun c_1 h => ?_) (fun c_1 h => ?_)
  · refine lv_iconst (v := 0) hx hb dX9_depthBy_35 (by decide) ?_
    exact hret _ _ _ _ _ _ ⟨Option.some.inj h, hM⟩ rfl hZ dX9_depthBy_36
  · refine lv_iload_n hx hb dX9_depthBy_29 rfl (lv_at hl 1 rfl) ?_
    refine lv_iload_n hx hb dX9_depthBy_30 rfl (lv_at hl 0 rfl) ?_
    refine lv_isub hx hb dX9_depthBy_31 ?_
    refine lv_goto (tgt := 36) hx hb dX9_depthBy_32 (by decide) ?_
    exact hret _ _ _ _ _ _ ⟨Option.some.inj h, hM⟩ rfl hZ dX9_depthBy_36
def b_X9_depthBy_22  (k : Nat) (M : zM) (x1 : Int32) : Option (Int32) :=
  b_X9_depthBy_23  k M x1 0
set_option maxRecDepth 100000 in
set_option maxHeartbeats 4000000 in
theorem lb_X9_depthBy_22 (g : zG)  (k : Nat) (hk : xk k = 8) {r : Int32} {M0 : zM} (E : zX g p m c cX9_depthBy 4 s args (zWs yX9_depthBy cX9_depthBy 4 (some .int)) RX9) (hret : zRi g xE 125 p l e (zrm 2 0 0) s m args below meth c 0 0 Q cX9_depthBy .int (fun v M1 => v = r ∧ M1 = M0)) (M : zM) (x1 : Int32) (hM : M = M0)  (H : Heap) (locs : List Loc) (ls : Array Slot) (h : b_X9_depthBy_22  k M x1 = some r) (hZ : zS g xE 125 s H locs M) (hl : lv_has ls 4 [(1, .int x1)]) : W p l e (zrm 2 0 0) s m args below meth c H locs 0 0 Q (F0 m 22 ls []) := by
  have hx := E.1.1
  have hb := E.1.2.1
  unfold b_X9_depthBy_22 at h
  refine lv_iconst (v := 0) hx hb dX9_depthBy_22 (by decide) ?_
  exact lb_X9_depthBy_23 g k hk E hret M x1 0 hM  H locs ls h hZ (lv_sub hl [0] rfl)
def f_X9_depthBy (M : zM) (k : Nat) (x1 : Int32) (x2 : Int32) : Option (Int32) :=
  if x2 < 0 then (b_X9_depthBy_22  k M x1) else (if 12 ≤ x2 then (b_X9_depthBy_22  k M x1) else (zck (zin x2 12) (b_X9_depthBy_23  k M x1 (M (k + 1) (x2 : Int32).toNatClampNeg))))
set_option maxRecDepth 100000 in
set_option maxHeartbeats 4000000 in
theorem w_X9_depthBy (g : zG)  (k : Nat) (hk : xk k = 8) {r : Int32} {M0 : zM} (E : zX g p m c cX9_depthBy 4 s args (zWs yX9_depthBy cX9_depthBy 4 (some .int)) RX9) (hret : zRi g xE 125 p l e (zrm 2 0 0) s m args below meth c 0 0 Q cX9_depthBy .int (fun v M1 => v = r ∧ M1 = M0)) (M : zM) (hM : M = M0) (x1 : Int32) (x2 : Int32) (H : Heap) (locs : List Loc) (ls : Array Slot) (h : f_X9_depthBy M k x1 x2 = some r) (hZ : zS g xE 125 s H locs M) (hl : lv_has ls 4 [(0, .ref (g.2.2 k)), (1, .int x1), (2, .int x2)]) : W p l e (zrm 2 0 0) s m args below meth c H locs 0 0 Q (F0 m 0 ls []) := by
  have hx := E.1.1
  have hb := E.1.2.1
  unfold f_X9_depthBy at h
  refine lv_iload_n hx hb dX9_depthBy_0 rfl (lv_at hl 2 rfl) ?_
  refine zif_lt (tgt := 22) h E dX9_depthBy_1 (by decide) (fun c_3 h => ?_) (fun c_3 h => ?_)
  · exact lb_X9_depthBy_22 g k hk E hret M x1 hM  H locs ls h hZ (lv_sub hl [1] rfl)
  · refine lv_iload_n hx hb dX9_depthBy_4 rfl (lv_at hl 2 rfl) ?_
    refine lv_aload_n hx hb dX9_depthBy_5 rfl (lv_at hl 0 rfl) ?_
    refine zg (v := .ref (g.2.2 (k + 1))) E hZ (xb_X9 hk) ((xe_X9 hk) _) kc_X9 15 (by decide) kw_110 rfl rfl dX9_depthBy_6 ?_
    refine zal (v := 12) E hZ 0 rfl (xb_I (xc_X9_ground hk).1) (xe_IL (xc_X9_ground hk)) (by decide) dX9_depthBy_9 ?_
    refine zic_ge (tgt := 22) h E dX9_depthBy_10 (by decide) (fun c_2 h => ?_) (fun c_2 h => ?_)
    · exact lb_X9_depthBy_22 g k hk E hret M x1 hM  H locs ls h hZ (lv_sub hl [1] rfl)
    · refine lv_aload_n hx hb dX9_depthBy_13 rfl (lv_at hl 0 rfl) ?_
      refine zg (v := .ref (g.2.2 (k + 1))) E hZ (xb_X9 hk) ((xe_X9 hk) _) kc_X9 15 (by decide) kw_110 rfl rfl dX9_depthBy_14 ?_
      refine lv_iload_n hx hb dX9_depthBy_17 rfl (lv_at hl 2 rfl) ?_
      refine zia h E hZ (xb_I (xc_X9_ground hk).1) (xe_IL (xc_X9_ground hk)) dX9_depthBy_18 (fun h => ?_)
      refine lv_goto (tgt := 23) hx hb dX9_depthBy_19 (by decide) ?_
      exact lb_X9_depthBy_23 g k hk E hret M x1 (M (k + 1) (x2 : Int32).toNatClampNeg) hM  H locs ls h hZ (lv_sub hl [1] rfl)
theorem c_X9_depthBy (l : Launch) (g : zG) (M : zM) (k : Nat) (hk : xk k = 8) (x1 : Int32) (x2 : Int32) {r : Int32} (h : f_X9_depthBy M k x1 x2 = some r) : zMi l g xE 125 yX9_depthBy (zWs yX9_depthBy cX9_depthBy 4 (some .int)) 2 [.ref (g.2.2 k), .int x1, .int x2] M (fun v M1 => v = r ∧ M1 = M) :=
  zMi_of (by decide +kernel) (Nat.le_of_ble_eq_true rfl) (fun p e s m args below meth c Q ls E hret hZ hl => w_X9_depthBy g k hk E hret M rfl x1 x2 _ _ ls h hZ hl)
theorem v_X9_depthBy : zYV yX9_depthBy cX9_depthBy 4 (some .int) 2 := ⟨kw_469, kw_3, kw_467, kw_468, by decide +kernel⟩

def f_X3_termOf (M : zM) (x0 : Int32) (o1 : Nat) (x2 : Int32) (x3 : Int32) : Option (Int32) :=
  zbn (f_X9_monkCell M o1 x2 0) (fun u_1 => zbn (f_X9_stepOf M o1 (M o1 0)) (fun u_2 => if x0 = 21 then (some x2) else if x0 = 22 then (some u_1) else if x0 = 23 then (zbn (f_X9_depthBy M o1 x3 u_1) (fun u_5 => some u_5)) else if x0 = 24 then (some u_2) else if x0 = 25 then (zbn (f_X9_monkCell M o1 x2 3) (fun u_6 => some u_6)) else if x0 = 26 then (zck (decide (¬ (24 : Int32) = 0)) (some ((M o1 0) - (M o1 0) / 24 * 24))) else if x0 = 27 then (if (2 * u_2) < (M o1 5) then (some 0) else (some 1)) else (zbn (f_X9_monkCell M o1 x2 1) (fun u_3 => if u_1 = u_3 then (some 1) else (some 0)))))
set_option maxRecDepth 100000 in
set_option maxHeartbeats 4000000 in
theorem w_X3_termOf (g : zG)  (o1 : Nat) (ho1 : xk o1 = 8) {r : Int32} {M0 : zM} (E : zX g p m c cX3_termOf 6 s args (zWs yX3_termOf cX3_termOf 6 (some .int)) RX3) (hret : zRi g xE 125 p l e (zrm 3 0 0) s m args below meth c 0 0 Q cX3_termOf .int (fun v M1 => v = r ∧ M1 = M0)) (M : zM) (hM : M = M0) (x0 : Int32) (x2 : Int32) (x3 : Int32) (H : Heap) (locs : List Loc) (ls : Array Slot) (h : f_X3_termOf M x0 o1 x2 x3 = some r) (hZ : zS g xE 125 s H locs M) (hl : lv_has ls 6 [(0, .int x0), (1, .ref (g.2.2 o1)), (2, .int x2), (3, .int x3)]) : W p l e (zrm 3 0 0) s m args below meth c H locs 0 0 Q (F0 m 0 ls []) := by
  have hx := E.1.1
  have hb := E.1.2.1
  unfold f_X3_termOf at h
  refine lv_aload_n hx hb dX3_termOf_0 rfl (lv_at hl 1 rfl) ?_
  refine lv_iload_n hx hb dX3_termOf_1 rfl (lv_at hl 2 rfl) ?_
  refine lv_iconst (v := 0) hx hb dX3_termOf_2 (by decide) ?_
  obtain ⟨u_1, qu_1, h⟩ := zbn_some h
  refine zciR (zrunV E hZ (xb_X9 ho1) ((xe_X9 ho1) _) rfl rfl v_X9_monkCell kw_490 (c_X9_monkCell l g M o1 ho1 x2 0 qu_1 _) rfl hl.1 rfl (Nat.le_of_ble_eq_true rfl) ⟨by decide, by decide⟩ ⟨by decide, by decide⟩ dX3_termOf_3) hZ (fun H locs hZ => ?_)
  refine lv_istore (lv' := [(4, .int u_1), (0, .int x0), (1, .ref (g.2.2 o1)), (2, .int x2), (3, .int x3)]) hx hb dX3_termOf_6 hl (by decide) rfl (fun ls hl => ?_)
  refine lv_aload_n hx hb dX3_termOf_8 rfl (lv_at hl 2 rfl) ?_
  refine lv_aload_n hx hb dX3_termOf_9 rfl (lv_at hl 2 rfl) ?_
  refine zg (v := .int (M o1 0)) E hZ (xb_X9 ho1) ((xe_X9 ho1) _) kc_X9 0 (by decide) kw_65 rfl rfl dX3_termOf_10 ?_
  obtain ⟨u_2, qu_2, h⟩ := zbn_some h
  refine zciR (zrunV E hZ (xb_X9 ho1) ((xe_X9 ho1) _) rfl rfl v_X9_stepOf kw_491 (c_X9_stepOf l g M o1 ho1 (M o1 0) qu_2 _) rfl hl.1 rfl (Nat.le_of_ble_eq_true rfl) ⟨by decide, by decide⟩ ⟨by decide, by decide⟩ dX3_termOf_13) hZ (fun H locs hZ => ?_)
  refine lv_istore (lv' := [(5, .int u_2), (4, .int u_1), (0, .int x0), (1, .ref (g.2.2 o1)), (2, .int x2), (3, .int x3)]) hx hb dX3_termOf_16 hl (by decide) rfl (fun ls hl => ?_)
  refine lv_iload_n hx hb dX3_termOf_18 rfl (lv_at hl 2 rfl) ?_
  rcases zsp h with ⟨c_8, h⟩ | ⟨c_8, h⟩
  · refine lv_tableIn (tgt := 60) hx hb dX3_termOf_19 (by rw [c_8]; decide) (by rw [c_8]; decide) (by rw [c_8]; rfl) (by decide) ?_
    refine lv_iload_n hx hb dX3_termOf_60 rfl (lv_at hl 4 rfl) ?_
    exact hret _ _ _ _ _ _ ⟨Option.some.inj h, hM⟩ rfl hZ dX3_termOf_61
  rcases zsp h with ⟨c_9, h⟩ | ⟨c_9, h⟩
  · refine lv_tableIn (tgt := 62) hx hb dX3_termOf_19 (by rw [c_9]; decide) (by rw [c_9]; decide) (by rw [c_9]; rfl) (by decide) ?_
    refine lv_iload hx hb dX3_termOf_62 (lv_at hl 1 rfl) ?_
    exact hret _ _ _ _ _ _ ⟨Option.some.inj h, hM⟩ rfl hZ dX3_termOf_64
  rcases zsp h with ⟨c_10, h⟩ | ⟨c_10, h⟩
  · refine lv_tableIn (tgt := 65) hx hb dX3_termOf_19 (by rw [c_10]; decide) (by rw [c_10]; decide) (by rw [c_10]; rfl) (by decide) ?_
    refine lv_aload_n hx hb dX3_termOf_65 rfl (lv_at hl 3 rfl) ?_
    refine lv_iload_n hx hb dX3_termOf_66 rfl (lv_at hl 5 rfl) ?_
    refine lv_iload hx hb dX3_termOf_67 (lv_at hl 1 rfl) ?_
    obtain ⟨u_5, qu_5, h⟩ := zbn_some h
    refine zciR (zrunV E hZ (xb_X9 ho1) ((xe_X9 ho1) _) rfl rfl v_X9_depthBy kw_495 (c_X9_depthBy l g M o1 ho1 x3 u_1 qu_5 _) rfl hl.1 rfl (Nat.le_of_ble_eq_true rfl) ⟨by decide, by decide⟩ ⟨by decide, by decide⟩ dX3_termOf_69) hZ (fun H locs hZ => ?_)
    exact hret _ _ _ _ _ _ ⟨Option.some.inj h, hM⟩ rfl hZ dX3_termOf_72
  rcases zsp h with ⟨c_11, h⟩ | ⟨c_11, h⟩
  · refine lv_tableIn (tgt := 73) hx hb dX3_termOf_19 (by rw [c_11]; decide) (by rw [c_11]; decide) (by rw [c_11]; rfl) (by decide) ?_
    refine lv_iload hx hb dX3_termOf_73 (lv_at hl 0 rfl) ?_
    exact hret _ _ _ _ _ _ ⟨Option.some.inj h, hM⟩ rfl hZ dX3_termOf_75
  rcases zsp h with ⟨c_12, h⟩ | ⟨c_12, h⟩
  · refine lv_tableIn (tgt := 76) hx hb dX3_termOf_19 (by rw [c_12]; decide) (by rw [c_12]; decide) (by rw [c_12]; rfl) (by decide) ?_
    refine lv_aload_n hx hb dX3_termOf_76 rfl (lv_at hl 3 rfl) ?_
    refine lv_iload_n hx hb dX3_termOf_77 rfl (lv_at hl 4 rfl) ?_
    refine lv_iconst (v := 3) hx hb dX3_termOf_78 (by decide) ?_
    obtain ⟨u_6, qu_6, h⟩ := zbn_some h
    refine zciR (zrunV E hZ (xb_X9 ho1) ((xe_X9 ho1) _) rfl rfl v_X9_monkCell kw_490 (c_X9_monkCell l g M o1 ho1 x2 3 qu_6 _) rfl hl.1 rfl (Nat.le_of_ble_eq_true rfl) ⟨by decide, by decide⟩ ⟨by decide, by decide⟩ dX3_termOf_79) hZ (fun H locs hZ => ?_)
    exact hret _ _ _ _ _ _ ⟨Option.some.inj h, hM⟩ rfl hZ dX3_termOf_82
  rcases zsp h with ⟨c_13, h⟩ | ⟨c_13, h⟩
  · refine lv_tableIn (tgt := 83) hx hb dX3_termOf_19 (by rw [c_13]; decide) (by rw [c_13]; decide) (by rw [c_13]; rfl) (by decide) ?_
    refine lv_aload_n hx hb dX3_termOf_83 rfl (lv_at hl 3 rfl) ?_
    refine zg (v := .int (M o1 0)) E hZ (xb_X9 ho1) ((xe_X9 ho1) _) kc_X9 0 (by decide) kw_65 rfl rfl dX3_termOf_84 ?_
    refine lv_bipush (v := 24) hx hb dX3_termOf_87 (by decide) ?_
    refine zrem h E dX3_termOf_89 (fun h => ?_)
    exact hret _ _ _ _ _ _ ⟨Option.some.inj h, hM⟩ rfl hZ dX3_termOf_90
  rcases zsp h with ⟨c_14, h⟩ | ⟨c_14, h⟩
  · refine lv_tableIn (tgt := 91) hx hb dX3_termOf_19 (by rw [c_14]; decide) (by rw [c_14]; decide) (by rw [c_14]; rfl) (by decide) ?_
    refine lv_iconst (v := 2) hx hb dX3_termOf_91 (by decide) ?_
    refine lv_iload hx hb dX3_termOf_92 (lv_at hl 0 rfl) ?_
    refine lv_imul hx hb dX3_termOf_94 ?_
    refine lv_aload_n hx hb dX3_termOf_95 rfl (lv_at hl 3 rfl) ?_
    refine zg (v := .int (M o1 5)) E hZ (xb_X9 ho1) ((xe_X9 ho1) _) kc_X9 5 (by decide) kw_79 rfl rfl dX3_termOf_96 ?_
    refine zic_lt (tgt := 106) h E dX3_termOf_99 (by decide) (fun c_7 h => ?_) (fun c_7 h => ?_)
    · refine lv_iconst (v := 0) hx hb dX3_termOf_106 (by decide) ?_
      exact hret _ _ _ _ _ _ ⟨Option.some.inj h, hM⟩ rfl hZ dX3_termOf_107
    · refine lv_iconst (v := 1) hx hb dX3_termOf_102 (by decide) ?_
      refine lv_goto (tgt := 107) hx hb dX3_termOf_103 (by decide) ?_
      exact hret _ _ _ _ _ _ ⟨Option.some.inj h, hM⟩ rfl hZ dX3_termOf_107
  have hdf : W p l e (zrm 3 0 0) s m args below meth c H locs 0 0 Q (F0 m 108 ls []) := by
    refine lv_iload hx hb dX3_termOf_108 (lv_at hl 1 rfl) ?_
    refine lv_aload_n hx hb dX3_termOf_110 rfl (lv_at hl 3 rfl) ?_
    refine lv_iload_n hx hb dX3_termOf_111 rfl (lv_at hl 4 rfl) ?_
    refine lv_iconst (v := 1) hx hb dX3_termOf_112 (by decide) ?_
    obtain ⟨u_3, qu_3, h⟩ := zbn_some h
    refine zciR (zrunV E hZ (xb_X9 ho1) ((xe_X9 ho1) _) rfl rfl v_X9_monkCell kw_490 (c_X9_monkCell l g M o1 ho1 x2 1 qu_3 _) rfl hl.1 rfl (Nat.le_of_ble_eq_true rfl) ⟨by decide, by decide⟩ ⟨by decide, by decide⟩ dX3_termOf_113) hZ (fun H locs hZ => ?_)
    refine zic_ne (tgt := 123) h E dX3_termOf_116 (by decide) (fun c_4 h => ?_) (fun c_4 h => ?_)
    · refine lv_iconst (v := 0) hx hb dX3_termOf_123 (by decide) ?_
      exact hret _ _ _ _ _ _ ⟨Option.some.inj h, hM⟩ rfl hZ dX3_termOf_124
    · refine lv_iconst (v := 1) hx hb dX3_termOf_119 (by decide) ?_
      refine lv_goto (tgt := 124) hx hb dX3_termOf_120 (by decide) ?_
      exact hret _ _ _ _ _ _ ⟨Option.some.inj h, hM⟩ rfl hZ dX3_termOf_124
  exact lv_tableOut (tgt := 108) hx hb dX3_termOf_19 (zsw_out [21, 22, 23, 24, 25, 26, 27] (by decide) (by simp [c_8, c_9, c_10, c_11, c_12, c_13, c_14])) (by decide) hdf
theorem c_X3_termOf (l : Launch) (g : zG) (M : zM) (o1 : Nat) (ho1 : xk o1 = 8) (x0 : Int32) (x2 : Int32) (x3 : Int32) {r : Int32} (h : f_X3_termOf M x0 o1 x2 x3 = some r) : zMi l g xE 125 yX3_termOf (zWs yX3_termOf cX3_termOf 6 (some .int)) 3 [.int x0, .ref (g.2.2 o1), .int x2, .int x3] M (fun v M1 => v = r ∧ M1 = M) :=
  zMi_of (by decide +kernel) (Nat.le_of_ble_eq_true rfl) (fun p e s m args below meth c Q ls E hret hZ hl => w_X3_termOf g o1 ho1 E hret M rfl x0 x2 x3 _ _ ls h hZ hl)
theorem v_X3_termOf : zYS yX3_termOf cX3_termOf 6 (some .int) 4 := ⟨kw_489, kw_4, kw_488, by decide +kernel⟩

def f_X3_pop (M : zM) (k : Nat) : Option (Int32 × zM) :=
  if (M k 7) ≤ 0 then (some (0, M)) else (if (M k 7) ≤ 40 then (znm (zu M k 7 ((M k 7) - 1)) (fun M_1 => zck (zin (M_1 k 7) 40) (some (M_1 (k + 5) (M_1 k 7 : Int32).toNatClampNeg, M_1)))) else (some (0, M)))
set_option maxRecDepth 100000 in
set_option maxHeartbeats 4000000 in
theorem w_X3_pop (g : zG)  (k : Nat) (hk : xk k = 2) {r : Int32 × zM} (E : zX g p m c cX3_pop 1 s args (zWs yX3_pop cX3_pop 1 (some .int)) RX3) (hret : zRi g xE 125 p l e (zrm 2 0 0) s m args below meth c 0 0 Q cX3_pop .int (fun v M1 => r = (v, M1))) (M : zM)  (H : Heap) (locs : List Loc) (ls : Array Slot) (h : f_X3_pop M k = some r) (hZ : zS g xE 125 s H locs M) (hl : lv_has ls 1 [(0, .ref (g.2.2 k))]) : W p l e (zrm 2 0 0) s m args below meth c H locs 0 0 Q (F0 m 0 ls []) := by
  have hx := E.1.1
  have hb := E.1.2.1
  unfold f_X3_pop at h
  refine lv_aload_n hx hb dX3_pop_0 rfl (lv_at hl 0 rfl) ?_
  refine zg (v := .int (M k 7)) E hZ (xb_X3 hk) ((xe_X3 hk) _) kc_X3 7 (by decide) kw_175 rfl rfl dX3_pop_1 ?_
  refine zif_le (tgt := 19) h E dX3_pop_4 (by decide) (fun c_3 h => ?_) (fun c_3 h => ?_)
  · refine lv_iconst (v := 0) hx hb dX3_pop_19 (by decide) ?_
    exact hret _ _ _ _ _ _ (Option.some.inj h).symm rfl hZ dX3_pop_20
  · refine lv_aload_n hx hb dX3_pop_7 rfl (lv_at hl 0 rfl) ?_
    refine zg (v := .int (M k 7)) E hZ (xb_X3 hk) ((xe_X3 hk) _) kc_X3 7 (by decide) kw_175 rfl rfl dX3_pop_8 ?_
    refine lv_aload_n hx hb dX3_pop_11 rfl (lv_at hl 0 rfl) ?_
    refine zg (v := .ref (g.2.2 (k + 5))) E hZ (xb_X3 hk) ((xe_X3 hk) _) kc_X3 6 (by decide) kw_174 rfl rfl dX3_pop_12 ?_
    refine zal (v := 40) E hZ 0 rfl (xb_I (xc_X3_stack hk).1) (xe_IL (xc_X3_stack hk)) (by decide) dX3_pop_15 ?_
    refine zic_le (tgt := 21) h E dX3_pop_16 (by decide) (fun c_2 h => ?_) (fun c_2 h => ?_)
    · refine lv_aload_n hx hb dX3_pop_21 rfl (lv_at hl 0 rfl) ?_
      refine lv_dup hx hb dX3_pop_22 rfl ?_
      refine zg (v := .int (M k 7)) E hZ (xb_X3 hk) ((xe_X3 hk) _) kc_X3 7 (by decide) kw_175 rfl rfl dX3_pop_23 ?_
      refine lv_iconst (v := 1) hx hb dX3_pop_26 (by decide) ?_
      refine lv_isub hx hb dX3_pop_27 ?_
      refine zp h E hZ (xb_X3 hk) ((xe_X3 hk) _) (((xe_X3 hk) _).trans (congrArg (fun z => Sum.inr (2, z)) (fs_X3_7 g _ _ _))) kc_X3 (by decide) kw_175 rfl rfl rfl (Nat.le_of_ble_eq_true rfl) dX3_pop_28 (fun M_1 H locs eM_1 h hZ => ?_)
      refine lv_aload_n hx hb dX3_pop_31 rfl (lv_at hl 0 rfl) ?_
      refine zg (v := .ref (g.2.2 (k + 5))) E hZ (xb_X3 hk) ((xe_X3 hk) _) kc_X3 6 (by decide) kw_174 rfl rfl dX3_pop_32 ?_
      refine lv_aload_n hx hb dX3_pop_35 rfl (lv_at hl 0 rfl) ?_
      refine zg (v := .int (M_1 k 7)) E hZ (xb_X3 hk) ((xe_X3 hk) _) kc_X3 7 (by decide) kw_175 rfl rfl dX3_pop_36 ?_
      refine zia h E hZ (xb_I (xc_X3_stack hk).1) (xe_IL (xc_X3_stack hk)) dX3_pop_39 (fun h => ?_)
      exact hret _ _ _ _ _ _ (Option.some.inj h).symm rfl hZ dX3_pop_40
    · refine lv_iconst (v := 0) hx hb dX3_pop_19 (by decide) ?_
      exact hret _ _ _ _ _ _ (Option.some.inj h).symm rfl hZ dX3_pop_20
theorem c_X3_pop (l : Launch) (g : zG) (M : zM) (k : Nat) (hk : xk k = 2)  {r : Int32 × zM} (h : f_X3_pop M k = some r) : zMi l g xE 125 yX3_pop (zWs yX3_pop cX3_pop 1 (some .int)) 2 [.ref (g.2.2 k)] M (fun v M1 => r = (v, M1)) :=
  zMi_of (by decide +kernel) (Nat.le_of_ble_eq_true rfl) (fun p e s m args below meth c Q ls E hret hZ hl => w_X3_pop g k hk E hret M  _ _ ls h hZ hl)
theorem v_X3_pop : zYV yX3_pop cX3_pop 1 (some .int) 0 := ⟨kw_499, kw_4, kw_498, kp_3, by decide +kernel⟩

def b_X3_join_73  (k : Nat) (M : zM) (t0 : Int32) : Option (zM) :=
  zbn (f_X3_push M k t0) (fun u_1 => some u_1)
set_option maxRecDepth 100000 in
set_option maxHeartbeats 4000000 in
theorem lb_X3_join_73 (g : zG)  (k : Nat) (hk : xk k = 2) {r : zM} (E : zX g p m c cX3_join 4 s args (zWs yX3_join cX3_join 4 none) RX3) (hret : zRv g xE 125 p l e (zrm 3 0 0) s m args below meth c 0 0 Q cX3_join (fun M1 => M1 = r)) (M : zM) (t0 : Int32)  (H : Heap) (locs : List Loc) (ls : Array Slot) (h : b_X3_join_73  k M t0 = some r) (hZ : zS g xE 125 s H locs M) (hl : lv_has ls 4 []) : W p l e (zrm 3 0 0) s m args below meth c H locs 0 0 Q (F0 m 73 ls [.int t0, .ref (g.2.2 k)]) := by
  have hx := E.1.1
  have hb := E.1.2.1
  unfold b_X3_join_73 at h
  obtain ⟨u_1, qu_1, h⟩ := zbn_some h
  refine zcvS (zrunV E hZ (xb_X3 hk) ((xe_X3 hk) _) rfl rfl v_X3_push kw_483 (c_X3_push l g M k hk t0 qu_1 _) rfl hl.1 rfl (Nat.le_of_ble_eq_true rfl) ⟨by decide, by decide⟩ ⟨by decide, by decide⟩ dX3_join_73) hZ (fun H locs hZ => ?_)
  refine lv_goto (tgt := 113) hx hb dX3_join_76 (by decide) ?_
  exact hret _ _ _ _ _ (Option.some.inj h) hZ dX3_join_113
def b_X3_join_90  (k : Nat) (M : zM) (t0 : Int32) : Option (zM) :=
  zbn (f_X3_push M k t0) (fun u_2 => some u_2)
set_option maxRecDepth 100000 in
set_option maxHeartbeats 4000000 in
theorem lb_X3_join_90 (g : zG)  (k : Nat) (hk : xk k = 2) {r : zM} (E : zX g p m c cX3_join 4 s args (zWs yX3_join cX3_join 4 none) RX3) (hret : zRv g xE 125 p l e (zrm 3 0 0) s m args below meth c 0 0 Q cX3_join (fun M1 => M1 = r)) (M : zM) (t0 : Int32)  (H : Heap) (locs : List Loc) (ls : Array Slot) (h : b_X3_join_90  k M t0 = some r) (hZ : zS g xE 125 s H locs M) (hl : lv_has ls 4 []) : W p l e (zrm 3 0 0) s m args below meth c H locs 0 0 Q (F0 m 90 ls [.int t0, .ref (g.2.2 k)]) := by
  have hx := E.1.1
  have hb := E.1.2.1
  unfold b_X3_join_90 at h
  obtain ⟨u_2, qu_2, h⟩ := zbn_some h
  refine zcvS (zrunV E hZ (xb_X3 hk) ((xe_X3 hk) _) rfl rfl v_X3_push kw_483 (c_X3_push l g M k hk t0 qu_2 _) rfl hl.1 rfl (Nat.le_of_ble_eq_true rfl) ⟨by decide, by decide⟩ ⟨by decide, by decide⟩ dX3_join_90) hZ (fun H locs hZ => ?_)
  refine lv_goto (tgt := 113) hx hb dX3_join_93 (by decide) ?_
  exact hret _ _ _ _ _ (Option.some.inj h) hZ dX3_join_113
def f_X3_join (M : zM) (k : Nat) (x1 : Int32) : Option (zM) :=
  zbn (f_X3_pop M k) (fun u_3 => zbn (f_X3_pop u_3.2 k) (fun u_4 => if x1 = 19 then (zbn (f_X3_push u_4.2 k (u_4.1 &&& u_3.1)) (fun u_6 => some u_6)) else if x1 = 43 then (zbn (f_X3_push u_4.2 k (u_4.1 + u_3.1)) (fun u_7 => some u_7)) else if x1 = 60 then (if u_3.1 ≤ u_4.1 then (b_X3_join_73  k u_4.2 0) else (b_X3_join_73  k u_4.2 1)) else if x1 = 62 then (if u_4.1 ≤ u_3.1 then (b_X3_join_90  k u_4.2 0) else (b_X3_join_90  k u_4.2 1)) else (zbn (f_X3_push u_4.2 k (u_4.1 ||| u_3.1)) (fun u_5 => some u_5))))
set_option maxRecDepth 100000 in
set_option maxHeartbeats 4000000 in
theorem w_X3_join (g : zG)  (k : Nat) (hk : xk k = 2) {r : zM} (E : zX g p m c cX3_join 4 s args (zWs yX3_join cX3_join 4 none) RX3) (hret : zRv g xE 125 p l e (zrm 3 0 0) s m args below meth c 0 0 Q cX3_join (fun M1 => M1 = r)) (M : zM) (x1 : Int32) (H : Heap) (locs : List Loc) (ls : Array Slot) (h : f_X3_join M k x1 = some r) (hZ : zS g xE 125 s H locs M) (hl : lv_has ls 4 [(0, .ref (g.2.2 k)), (1, .int x1)]) : W p l e (zrm 3 0 0) s m args below meth c H locs 0 0 Q (F0 m 0 ls []) := by
  have hx := E.1.1
  have hb := E.1.2.1
  unfold f_X3_join at h
  refine lv_aload_n hx hb dX3_join_0 rfl (lv_at hl 0 rfl) ?_
  obtain ⟨u_3, qu_3, h⟩ := zbn_some h
  refine zciS (zrunV E hZ (xb_X3 hk) ((xe_X3 hk) _) rfl rfl v_X3_pop kw_496 (c_X3_pop l g M k hk  qu_3 _) rfl hl.1 rfl (Nat.le_of_ble_eq_true rfl) ⟨by decide, by decide⟩ ⟨by decide, by decide⟩ dX3_join_1) hZ (fun H locs hZ => ?_)
  refine lv_istore_n (lv' := [(2, .int u_3.1), (0, .ref (g.2.2 k)), (1, .int x1)]) hx hb dX3_join_4 rfl hl (by decide) rfl (fun ls hl => ?_)
  refine lv_aload_n hx hb dX3_join_5 rfl (lv_at hl 1 rfl) ?_
  obtain ⟨u_4, qu_4, h⟩ := zbn_some h
  refine zciS (zrunV E hZ (xb_X3 hk) ((xe_X3 hk) _) rfl rfl v_X3_pop kw_496 (c_X3_pop l g u_3.2 k hk  qu_4 _) rfl hl.1 rfl (Nat.le_of_ble_eq_true rfl) ⟨by decide, by decide⟩ ⟨by decide, by decide⟩ dX3_join_6) hZ (fun H locs hZ => ?_)
  refine lv_istore_n (lv' := [(3, .int u_4.1), (2, .int u_3.1), (0, .ref (g.2.2 k)), (1, .int x1)]) hx hb dX3_join_9 rfl hl (by decide) rfl (fun ls hl => ?_)
  refine lv_iload_n hx hb dX3_join_10 rfl (lv_at hl 3 rfl) ?_
  rcases zsp h with ⟨c_10, h⟩ | ⟨c_10, h⟩
  · refine lv_lookup (tgt := 96) hx hb dX3_join_11 (by decide) (by rw [c_10]) (by decide) ?_
    refine lv_aload_n hx hb dX3_join_96 rfl (lv_at hl 2 rfl) ?_
    refine lv_iload_n hx hb dX3_join_97 rfl (lv_at hl 0 rfl) ?_
    refine lv_iload_n hx hb dX3_join_98 rfl (lv_at hl 1 rfl) ?_
    refine lv_iand hx hb dX3_join_99 ?_
    obtain ⟨u_6, qu_6, h⟩ := zbn_some h
    refine zcvS (zrunV E hZ (xb_X3 hk) ((xe_X3 hk) _) rfl rfl v_X3_push kw_483 (c_X3_push l g u_4.2 k hk (u_4.1 &&& u_3.1) qu_6 _) rfl hl.1 rfl (Nat.le_of_ble_eq_true rfl) ⟨by decide, by decide⟩ ⟨by decide, by decide⟩ dX3_join_100) hZ (fun H locs hZ => ?_)
    refine lv_goto (tgt := 113) hx hb dX3_join_103 (by decide) ?_
    exact hret _ _ _ _ _ (Option.some.inj h) hZ dX3_join_113
  rcases zsp h with ⟨c_11, h⟩ | ⟨c_11, h⟩
  · refine lv_lookup (tgt := 52) hx hb dX3_join_11 (by decide) (by rw [c_11]) (by decide) ?_
    refine lv_aload_n hx hb dX3_join_52 rfl (lv_at hl 2 rfl) ?_
    refine lv_iload_n hx hb dX3_join_53 rfl (lv_at hl 0 rfl) ?_
    refine lv_iload_n hx hb dX3_join_54 rfl (lv_at hl 1 rfl) ?_
    refine lv_iadd hx hb dX3_join_55 ?_
    obtain ⟨u_7, qu_7, h⟩ := zbn_some h
    refine zcvS (zrunV E hZ (xb_X3 hk) ((xe_X3 hk) _) rfl rfl v_X3_push kw_483 (c_X3_push l g u_4.2 k hk (u_4.1 + u_3.1) qu_7 _) rfl hl.1 rfl (Nat.le_of_ble_eq_true rfl) ⟨by decide, by decide⟩ ⟨by decide, by decide⟩ dX3_join_56) hZ (fun H locs hZ => ?_)
    refine lv_goto (tgt := 113) hx hb dX3_join_59 (by decide) ?_
    exact hret _ _ _ _ _ (Option.some.inj h) hZ dX3_join_113
  rcases zsp h with ⟨c_12, h⟩ | ⟨c_12, h⟩
  · refine lv_lookup (tgt := 62) hx hb dX3_join_11 (by decide) (by rw [c_12]) (by decide) ?_
    refine lv_aload_n hx hb dX3_join_62 rfl (lv_at hl 2 rfl) ?_
    refine lv_iload_n hx hb dX3_join_63 rfl (lv_at hl 0 rfl) ?_
    refine lv_iload_n hx hb dX3_join_64 rfl (lv_at hl 1 rfl) ?_
    refine zic_ge (tgt := 72) h E dX3_join_65 (by decide) (fun c_8 h => ?_) (fun c_8 h => ?_)
    · refine lv_iconst (v := 0) hx hb dX3_join_72 (by decide) ?_
      exact lb_X3_join_73 g k hk E hret u_4.2 0  H locs ls h hZ (lv_sub hl [] rfl)
    · refine lv_iconst (v := 1) hx hb dX3_join_68 (by decide) ?_
      refine lv_goto (tgt := 73) hx hb dX3_join_69 (by decide) ?_
      exact lb_X3_join_73 g k hk E hret u_4.2 1  H locs ls h hZ (lv_sub hl [] rfl)
  rcases zsp h with ⟨c_13, h⟩ | ⟨c_13, h⟩
  · refine lv_lookup (tgt := 79) hx hb dX3_join_11 (by decide) (by rw [c_13]) (by decide) ?_
    refine lv_aload_n hx hb dX3_join_79 rfl (lv_at hl 2 rfl) ?_
    refine lv_iload_n hx hb dX3_join_80 rfl (lv_at hl 0 rfl) ?_
    refine lv_iload_n hx hb dX3_join_81 rfl (lv_at hl 1 rfl) ?_
    refine zic_le (tgt := 89) h E dX3_join_82 (by decide) (fun c_9 h => ?_) (fun c_9 h => ?_)
    · refine lv_iconst (v := 0) hx hb dX3_join_89 (by decide) ?_
      exact lb_X3_join_90 g k hk E hret u_4.2 0  H locs ls h hZ (lv_sub hl [] rfl)
    · refine lv_iconst (v := 1) hx hb dX3_join_85 (by decide) ?_
      refine lv_goto (tgt := 90) hx hb dX3_join_86 (by decide) ?_
      exact lb_X3_join_90 g k hk E hret u_4.2 1  H locs ls h hZ (lv_sub hl [] rfl)
  have hdf : W p l e (zrm 3 0 0) s m args below meth c H locs 0 0 Q (F0 m 106 ls []) := by
    refine lv_aload_n hx hb dX3_join_106 rfl (lv_at hl 2 rfl) ?_
    refine lv_iload_n hx hb dX3_join_107 rfl (lv_at hl 0 rfl) ?_
    refine lv_iload_n hx hb dX3_join_108 rfl (lv_at hl 1 rfl) ?_
    refine lv_ior hx hb dX3_join_109 ?_
    obtain ⟨u_5, qu_5, h⟩ := zbn_some h
    refine zcvS (zrunV E hZ (xb_X3 hk) ((xe_X3 hk) _) rfl rfl v_X3_push kw_483 (c_X3_push l g u_4.2 k hk (u_4.1 ||| u_3.1) qu_5 _) rfl hl.1 rfl (Nat.le_of_ble_eq_true rfl) ⟨by decide, by decide⟩ ⟨by decide, by decide⟩ dX3_join_110) hZ (fun H locs hZ => ?_)
    exact hret _ _ _ _ _ (Option.some.inj h) hZ dX3_join_113
  refine lv_lookup (off := 95) (tgt := 106) hx hb dX3_join_11 (by decide) ?_ (by decide) hdf
  have zne : ∀ v : Int32, ¬ x1 = v → ¬ v.toInt = (x1 : Int32).toInt := fun v q q2 => q (Int32.toInt_inj.mp q2.symm)
  simp only [lookupswitch.offset]
  rw [if_neg (show ¬ (19 : Int) = (x1 : Int32).toInt from zne 19 c_10)]
  rw [if_neg (show ¬ (43 : Int) = (x1 : Int32).toInt from zne 43 c_11)]
  rw [if_neg (show ¬ (60 : Int) = (x1 : Int32).toInt from zne 60 c_12)]
  rw [if_neg (show ¬ (62 : Int) = (x1 : Int32).toInt from zne 62 c_13)]
theorem c_X3_join (l : Launch) (g : zG) (M : zM) (k : Nat) (hk : xk k = 2) (x1 : Int32) {r : zM} (h : f_X3_join M k x1 = some r) : zMv l g xE 125 yX3_join (zWs yX3_join cX3_join 4 none) 3 [.ref (g.2.2 k), .int x1] M (fun M1 => M1 = r) :=
  zMv_of (by decide +kernel) (Nat.le_of_ble_eq_true rfl) (fun p e s m args below meth c Q ls E hret hZ hl => w_X3_join g k hk E hret M x1 _ _ ls h hZ hl)
theorem v_X3_join : zYV yX3_join cX3_join 4 none 1 := ⟨kw_503, kw_4, kw_502, kp_4, by decide +kernel⟩

def b_X3_holds_117  (k : Nat) (o3 : Nat) (M : zM) : Option (Int32 × zM) :=
  zbn (f_X3_pop M k) (fun u_1 => if u_1.1 = 0 then (some (0, u_1.2)) else (some (1, u_1.2)))
set_option maxRecDepth 100000 in
set_option maxHeartbeats 4000000 in
theorem lb_X3_holds_117 (g : zG)  (k : Nat) (hk : xk k = 2) (o3 : Nat) (ho3 : xk o3 = 8) {r : Int32 × zM} (E : zX g p m c cX3_holds 9 s args (zWs yX3_holds cX3_holds 9 (some .boolean)) RX3) (hret : zRi g xE 125 p l e (zrm 4 0 0) s m args below meth c 0 0 Q cX3_holds .boolean (fun v M1 => r = (v, M1))) (M : zM)  (H : Heap) (locs : List Loc) (ls : Array Slot) (h : b_X3_holds_117  k o3 M = some r) (hZ : zS g xE 125 s H locs M) (hl : lv_has ls 9 [(0, .ref (g.2.2 k))]) : W p l e (zrm 4 0 0) s m args below meth c H locs 0 0 Q (F0 m 117 ls []) := by
  have hx := E.1.1
  have hb := E.1.2.1
  unfold b_X3_holds_117 at h
  refine lv_aload_n hx hb dX3_holds_117 rfl (lv_at hl 0 rfl) ?_
  obtain ⟨u_1, qu_1, h⟩ := zbn_some h
  refine zciS (zrunV E hZ (xb_X3 hk) ((xe_X3 hk) _) rfl rfl v_X3_pop kw_496 (c_X3_pop l g M k hk  qu_1 _) rfl hl.1 rfl (Nat.le_of_ble_eq_true rfl) ⟨by decide, by decide⟩ ⟨by decide, by decide⟩ dX3_holds_118) hZ (fun H locs hZ => ?_)
  refine zif_eq (tgt := 128) h E dX3_holds_121 (by decide) (fun c_2 h => ?_) (fun c_2 h => ?_)
  · refine lv_iconst (v := 0) hx hb dX3_holds_128 (by decide) ?_
    exact hret _ _ _ _ _ _ (Option.some.inj h).symm rfl hZ dX3_holds_129
  · refine lv_iconst (v := 1) hx hb dX3_holds_124 (by decide) ?_
    refine lv_goto (tgt := 129) hx hb dX3_holds_125 (by decide) ?_
    exact hret _ _ _ _ _ _ (Option.some.inj h).symm rfl hZ dX3_holds_129
def b_X3_holds_111 (K15 : zM → Int32 → Option (Int32 × zM)) (k : Nat) (o3 : Nat) (M : zM) (x2 : Int32) (x4 : Int32) (x5 : Int32) (x6 : Int32) : Option (Int32 × zM) :=
  znm (x6 + 1) (fun x6_3 => K15 M x6_3)
set_option maxRecDepth 100000 in
set_option maxHeartbeats 4000000 in
theorem lb_X3_holds_111 (g : zG)  (k : Nat) (hk : xk k = 2) (o3 : Nat) (ho3 : xk o3 = 8) {r : Int32 × zM} (E : zX g p m c cX3_holds 9 s args (zWs yX3_holds cX3_holds 9 (some .boolean)) RX3) (hret : zRi g xE 125 p l e (zrm 4 0 0) s m args below meth c 0 0 Q cX3_holds .boolean (fun v M1 => r = (v, M1))) (M : zM) (x2 : Int32) (x4 : Int32) (x5 : Int32) (x6 : Int32) (K15 : zM → Int32 → Option (Int32 × zM)) (hK15 : ∀ (M : zM) (x6 : Int32) (H : Heap) (locs : List Loc) (ls : Array Slot), K15 M x6 = some r → zS g xE 125 s H locs M → lv_has ls 9 [(0, .ref (g.2.2 k)), (2, .int x2), (3, .ref (g.2.2 o3)), (4, .int x4), (5, .int x5), (6, .int x6)] → W p l e (zrm 4 0 0) s m args below meth c H locs 0 0 Q (F0 m 15 ls [])) (H : Heap) (locs : List Loc) (ls : Array Slot) (h : b_X3_holds_111 K15 k o3 M x2 x4 x5 x6 = some r) (hZ : zS g xE 125 s H locs M) (hl : lv_has ls 9 [(0, .ref (g.2.2 k)), (2, .int x2), (3, .ref (g.2.2 o3)), (4, .int x4), (5, .int x5), (6, .int x6)]) : W p l e (zrm 4 0 0) s m args below meth c H locs 0 0 Q (F0 m 111 ls []) := by
  have hx := E.1.1
  have hb := E.1.2.1
  unfold b_X3_holds_111 at h
  obtain ⟨x6_3, ex6_3, h⟩ := znm_ex h
  refine lv_iinc (v := x6_3) (lv' := [(6, .int x6_3), (0, .ref (g.2.2 k)), (2, .int x2), (3, .ref (g.2.2 o3)), (4, .int x4), (5, .int x5)]) hx hb dX3_holds_111 hl (k := 5) rfl (by rw [ex6_3]; rfl) (by decide) rfl (fun ls hl => ?_)
  refine lv_goto (tgt := 15) hx hb dX3_holds_114 (by decide) ?_
  exact hK15 M x6_3 H locs ls h hZ (lv_sub hl [1, 2, 3, 4, 5, 0] rfl)
def b_X3_holds_85 (K15 : zM → Int32 → Option (Int32 × zM)) (k : Nat) (o3 : Nat) (M : zM) (x2 : Int32) (x4 : Int32) (x5 : Int32) (x6 : Int32) (x8 : Int32) : Option (Int32 × zM) :=
  if x8 = 20 then (zbn (f_X3_pop M k) (fun u_5 => zbn (f_X3_push u_5.2 k (1 - u_5.1)) (fun u_6 => b_X3_holds_111 K15 k o3 u_6 x2 x4 x5 x6))) else (zbn (f_X3_join M k x8) (fun u_4 => b_X3_holds_111 K15 k o3 u_4 x2 x4 x5 x6))
set_option maxRecDepth 100000 in
set_option maxHeartbeats 4000000 in
theorem lb_X3_holds_85 (g : zG)  (k : Nat) (hk : xk k = 2) (o3 : Nat) (ho3 : xk o3 = 8) {r : Int32 × zM} (E : zX g p m c cX3_holds 9 s args (zWs yX3_holds cX3_holds 9 (some .boolean)) RX3) (hret : zRi g xE 125 p l e (zrm 4 0 0) s m args below meth c 0 0 Q cX3_holds .boolean (fun v M1 => r = (v, M1))) (M : zM) (x2 : Int32) (x4 : Int32) (x5 : Int32) (x6 : Int32) (x8 : Int32) (K15 : zM → Int32 → Option (Int32 × zM)) (hK15 : ∀ (M : zM) (x6 : Int32) (H : Heap) (locs : List Loc) (ls : Array Slot), K15 M x6 = some r → zS g xE 125 s H locs M → lv_has ls 9 [(0, .ref (g.2.2 k)), (2, .int x2), (3, .ref (g.2.2 o3)), (4, .int x4), (5, .int x5), (6, .int x6)] → W p l e (zrm 4 0 0) s m args below meth c H locs 0 0 Q (F0 m 15 ls [])) (H : Heap) (locs : List Loc) (ls : Array Slot) (h : b_X3_holds_85 K15 k o3 M x2 x4 x5 x6 x8 = some r) (hZ : zS g xE 125 s H locs M) (hl : lv_has ls 9 [(0, .ref (g.2.2 k)), (2, .int x2), (3, .ref (g.2.2 o3)), (4, .int x4), (5, .int x5), (6, .int x6), (8, .int x8)]) : W p l e (zrm 4 0 0) s m args below meth c H locs 0 0 Q (F0 m 85 ls []) := by
  have hx := E.1.1
  have hb := E.1.2.1
  unfold b_X3_holds_85 at h
  refine lv_iload hx hb dX3_holds_85 (lv_at hl 6 rfl) ?_
  refine lv_bipush (v := 20) hx hb dX3_holds_87 (by decide) ?_
  refine zic_ne (tgt := 105) h E dX3_holds_89 (by decide) (fun c_7 h => ?_) (fun c_7 h => ?_)
  · refine lv_aload_n hx hb dX3_holds_105 rfl (lv_at hl 0 rfl) ?_
    refine lv_iload hx hb dX3_holds_106 (lv_at hl 6 rfl) ?_
    obtain ⟨u_4, qu_4, h⟩ := zbn_some h
    refine zcvS (zrunV E hZ (xb_X3 hk) ((xe_X3 hk) _) rfl rfl v_X3_join kw_500 (c_X3_join l g M k hk x8 qu_4 _) rfl hl.1 rfl (Nat.le_of_ble_eq_true rfl) ⟨by decide, by decide⟩ ⟨by decide, by decide⟩ dX3_holds_108) hZ (fun H locs hZ => ?_)
    exact lb_X3_holds_111 g k hk o3 ho3 E hret u_4 x2 x4 x5 x6 K15 hK15 H locs ls h hZ (lv_sub hl [0, 1, 2, 3, 4, 5] rfl)
  · refine lv_aload_n hx hb dX3_holds_92 rfl (lv_at hl 0 rfl) ?_
    refine lv_iconst (v := 1) hx hb dX3_holds_93 (by decide) ?_
    refine lv_aload_n hx hb dX3_holds_94 rfl (lv_at hl 0 rfl) ?_
    obtain ⟨u_5, qu_5, h⟩ := zbn_some h
    refine zciS (zrunV E hZ (xb_X3 hk) ((xe_X3 hk) _) rfl rfl v_X3_pop kw_496 (c_X3_pop l g M k hk  qu_5 _) rfl hl.1 rfl (Nat.le_of_ble_eq_true rfl) ⟨by decide, by decide⟩ ⟨by decide, by decide⟩ dX3_holds_95) hZ (fun H locs hZ => ?_)
    refine lv_isub hx hb dX3_holds_98 ?_
    obtain ⟨u_6, qu_6, h⟩ := zbn_some h
    refine zcvS (zrunV E hZ (xb_X3 hk) ((xe_X3 hk) _) rfl rfl v_X3_push kw_483 (c_X3_push l g u_5.2 k hk (1 - u_5.1) qu_6 _) rfl hl.1 rfl (Nat.le_of_ble_eq_true rfl) ⟨by decide, by decide⟩ ⟨by decide, by decide⟩ dX3_holds_99) hZ (fun H locs hZ => ?_)
    refine lv_goto (tgt := 111) hx hb dX3_holds_102 (by decide) ?_
    exact lb_X3_holds_111 g k hk o3 ho3 E hret u_6 x2 x4 x5 x6 K15 hK15 H locs ls h hZ (lv_sub hl [0, 1, 2, 3, 4, 5] rfl)
def b_X3_holds_15  (k : Nat) (o3 : Nat) (x2 : Int32) (x4 : Int32) (x5 : Int32) : Nat → zM → Int32 → Option (Int32 × zM)
  | 0, _, _ => none
  | n + 1, M, x6 =>
    if x2 ≤ x6 then (b_X3_holds_117  k o3 M) else (zbn (f_X10_at M (k + 4) x6) (fun u_8 => znm (u_8 - 1000) (fun x8_9 => if 0 ≤ x8_9 then (if x8_9 < 21 then (b_X3_holds_85 (fun M x6 => b_X3_holds_15  k o3 x2 x4 x5 n M x6) k o3 M x2 x4 x5 x6 x8_9) else (if 28 < x8_9 then (b_X3_holds_85 (fun M x6 => b_X3_holds_15  k o3 x2 x4 x5 n M x6) k o3 M x2 x4 x5 x6 x8_9) else (zbn (f_X3_termOf M x8_9 o3 x4 x5) (fun u_10 => zbn (f_X3_push M k u_10) (fun u_11 => b_X3_holds_111 (fun M x6 => b_X3_holds_15  k o3 x2 x4 x5 n M x6) k o3 u_11 x2 x4 x5 x6))))) else (zbn (f_X3_push M k u_8) (fun u_14 => b_X3_holds_111 (fun M x6 => b_X3_holds_15  k o3 x2 x4 x5 n M x6) k o3 u_14 x2 x4 x5 x6)))))
set_option maxRecDepth 100000 in
set_option maxHeartbeats 4000000 in
theorem lb_X3_holds_15 (g : zG)  (k : Nat) (hk : xk k = 2) (o3 : Nat) (ho3 : xk o3 = 8) {r : Int32 × zM} (E : zX g p m c cX3_holds 9 s args (zWs yX3_holds cX3_holds 9 (some .boolean)) RX3) (hret : zRi g xE 125 p l e (zrm 4 0 0) s m args below meth c 0 0 Q cX3_holds .boolean (fun v M1 => r = (v, M1))) (x2 : Int32) (x4 : Int32) (x5 : Int32)  : ∀ (n : Nat) (M : zM) (x6 : Int32) (H : Heap) (locs : List Loc) (ls : Array Slot), b_X3_holds_15  k o3 x2 x4 x5 n M x6 = some r → zS g xE 125 s H locs M → lv_has ls 9 [(0, .ref (g.2.2 k)), (2, .int x2), (3, .ref (g.2.2 o3)), (4, .int x4), (5, .int x5), (6, .int x6)] → W p l e (zrm 4 0 0) s m args below meth c H locs 0 0 Q (F0 m 15 ls []) := by
  have hx := E.1.1
  have hb := E.1.2.1
  intro n
  induction n with
  | zero => intro M x6 H locs ls h hZ hl; cases h
  | succ n ih =>
    intro M x6 H locs ls h hZ hl
    rw [b_X3_holds_15] at h
    refine lv_iload hx hb dX3_holds_15 (lv_at hl 5 rfl) ?_
    refine lv_iload_n hx hb dX3_holds_17 rfl (lv_at hl 1 rfl) ?_
    refine zic_ge (tgt := 117) h E dX3_holds_18 (by decide) (fun c_16 h => ?_) (fun c_16 h => ?_)
    · exact lb_X3_holds_117 g k hk o3 ho3 E hret M  H locs ls h hZ (lv_sub hl [0] rfl)
    · refine lv_aload_n hx hb dX3_holds_21 rfl (lv_at hl 0 rfl) ?_
      refine zg (v := .ref (g.2.2 (k + 4))) E hZ (xb_X3 hk) ((xe_X3 hk) _) kc_X3 4 (by decide) kw_172 rfl rfl dX3_holds_22 ?_
      refine lv_iload hx hb dX3_holds_25 (lv_at hl 5 rfl) ?_
      obtain ⟨u_8, qu_8, h⟩ := zbn_some h
      refine zciR (zrunSN E hZ v_X10_at kw_478 (c_X10_at l g M (k + 4) (xc_X3_steps hk).1 x6 qu_8 _) rfl hl.1 rfl (Nat.le_of_ble_eq_true rfl) ⟨by decide, by decide⟩ ⟨by decide, by decide⟩ dX3_holds_27) hZ (fun H locs hZ => ?_)
      refine lv_istore (lv' := [(7, .int u_8), (0, .ref (g.2.2 k)), (2, .int x2), (3, .ref (g.2.2 o3)), (4, .int x4), (5, .int x5), (6, .int x6)]) hx hb dX3_holds_30 hl (by decide) rfl (fun ls hl => ?_)
      refine lv_iload hx hb dX3_holds_32 (lv_at hl 0 rfl) ?_
      refine lv_sipush (v := 1000) hx hb dX3_holds_34 (by decide) ?_
      refine lv_isub hx hb dX3_holds_37 ?_
      refine zni h (fun x8_9 ex8_9 h => ?_)
      refine lv_istore (lv' := [(8, .int x8_9), (7, .int u_8), (0, .ref (g.2.2 k)), (2, .int x2), (3, .ref (g.2.2 o3)), (4, .int x4), (5, .int x5), (6, .int x6)]) hx hb dX3_holds_38 hl (by decide) rfl (fun ls hl => ?_)
      refine lv_iload hx hb dX3_holds_40 (lv_at hl 0 rfl) ?_
      refine zif_ge (tgt := 54) h E dX3_holds_42 (by decide) (fun c_15 h => ?_) (fun c_15 h => ?_)
      · refine lv_iload hx hb dX3_holds_54 (lv_at hl 0 rfl) ?_
        refine lv_bipush (v := 21) hx hb dX3_holds_56 (by decide) ?_
        refine zic_lt (tgt := 85) h E dX3_holds_58 (by decide) (fun c_13 h => ?_) (fun c_13 h => ?_)
        · exact lb_X3_holds_85 g k hk o3 ho3 E hret M x2 x4 x5 x6 x8_9 (fun M x6 => b_X3_holds_15  k o3 x2 x4 x5 n M x6) ih H locs ls h hZ (lv_sub hl [2, 3, 4, 5, 6, 7, 0] rfl)
        · refine lv_iload hx hb dX3_holds_61 (lv_at hl 0 rfl) ?_
          refine lv_bipush (v := 28) hx hb dX3_holds_63 (by decide) ?_
          refine zic_gt (tgt := 85) h E dX3_holds_65 (by decide) (fun c_12 h => ?_) (fun c_12 h => ?_)
          · exact lb_X3_holds_85 g k hk o3 ho3 E hret M x2 x4 x5 x6 x8_9 (fun M x6 => b_X3_holds_15  k o3 x2 x4 x5 n M x6) ih H locs ls h hZ (lv_sub hl [2, 3, 4, 5, 6, 7, 0] rfl)
          · refine lv_aload_n hx hb dX3_holds_68 rfl (lv_at hl 2 rfl) ?_
            refine lv_iload hx hb dX3_holds_69 (lv_at hl 0 rfl) ?_
            refine lv_aload_n hx hb dX3_holds_71 rfl (lv_at hl 4 rfl) ?_
            refine lv_iload hx hb dX3_holds_72 (lv_at hl 5 rfl) ?_
            refine lv_iload hx hb dX3_holds_74 (lv_at hl 6 rfl) ?_
            obtain ⟨u_10, qu_10, h⟩ := zbn_some h
            refine zciR (zrunS E hZ v_X3_termOf kw_487 (c_X3_termOf l g M o3 ho3 x8_9 x4 x5 qu_10 _) rfl hl.1 rfl (Nat.le_of_ble_eq_true rfl) ⟨by decide, by decide⟩ ⟨by decide, by decide⟩ dX3_holds_76) hZ (fun H locs hZ => ?_)
            obtain ⟨u_11, qu_11, h⟩ := zbn_some h
            refine zcvS (zrunV E hZ (xb_X3 hk) ((xe_X3 hk) _) rfl rfl v_X3_push kw_483 (c_X3_push l g M k hk u_10 qu_11 _) rfl hl.1 rfl (Nat.le_of_ble_eq_true rfl) ⟨by decide, by decide⟩ ⟨by decide, by decide⟩ dX3_holds_79) hZ (fun H locs hZ => ?_)
            refine lv_goto (tgt := 111) hx hb dX3_holds_82 (by decide) ?_
            exact lb_X3_holds_111 g k hk o3 ho3 E hret u_11 x2 x4 x5 x6 (fun M x6 => b_X3_holds_15  k o3 x2 x4 x5 n M x6) ih H locs ls h hZ (lv_sub hl [2, 3, 4, 5, 6, 7] rfl)
      · refine lv_aload_n hx hb dX3_holds_45 rfl (lv_at hl 2 rfl) ?_
        refine lv_iload hx hb dX3_holds_46 (lv_at hl 1 rfl) ?_
        obtain ⟨u_14, qu_14, h⟩ := zbn_some h
        refine zcvS (zrunV E hZ (xb_X3 hk) ((xe_X3 hk) _) rfl rfl v_X3_push kw_483 (c_X3_push l g M k hk u_8 qu_14 _) rfl hl.1 rfl (Nat.le_of_ble_eq_true rfl) ⟨by decide, by decide⟩ ⟨by decide, by decide⟩ dX3_holds_48) hZ (fun H locs hZ => ?_)
        refine lv_goto (tgt := 111) hx hb dX3_holds_51 (by decide) ?_
        exact lb_X3_holds_111 g k hk o3 ho3 E hret u_14 x2 x4 x5 x6 (fun M x6 => b_X3_holds_15  k o3 x2 x4 x5 n M x6) ih H locs ls h hZ (lv_sub hl [2, 3, 4, 5, 6, 7] rfl)
def f_X3_holds (M : zM) (k : Nat) (x1 : Int32) (x2 : Int32) (o3 : Nat) (x4 : Int32) (x5 : Int32) : Option (Int32 × zM) :=
  if x1 < x2 then (znm (zu M k 7 0) (fun M_17 => b_X3_holds_15  k o3 x2 x4 x5 6000 M_17 x1)) else (some (1, M))
set_option maxRecDepth 100000 in
set_option maxHeartbeats 4000000 in
theorem w_X3_holds (g : zG)  (k : Nat) (hk : xk k = 2) (o3 : Nat) (ho3 : xk o3 = 8) {r : Int32 × zM} (E : zX g p m c cX3_holds 9 s args (zWs yX3_holds cX3_holds 9 (some .boolean)) RX3) (hret : zRi g xE 125 p l e (zrm 4 0 0) s m args below meth c 0 0 Q cX3_holds .boolean (fun v M1 => r = (v, M1))) (M : zM) (x1 : Int32) (x2 : Int32) (x4 : Int32) (x5 : Int32) (H : Heap) (locs : List Loc) (ls : Array Slot) (h : f_X3_holds M k x1 x2 o3 x4 x5 = some r) (hZ : zS g xE 125 s H locs M) (hl : lv_has ls 9 [(0, .ref (g.2.2 k)), (1, .int x1), (2, .int x2), (3, .ref (g.2.2 o3)), (4, .int x4), (5, .int x5)]) : W p l e (zrm 4 0 0) s m args below meth c H locs 0 0 Q (F0 m 0 ls []) := by
  have hx := E.1.1
  have hb := E.1.2.1
  unfold f_X3_holds at h
  refine lv_iload_n hx hb dX3_holds_0 rfl (lv_at hl 1 rfl) ?_
  refine lv_iload_n hx hb dX3_holds_1 rfl (lv_at hl 2 rfl) ?_
  refine zic_lt (tgt := 7) h E dX3_holds_2 (by decide) (fun c_18 h => ?_) (fun c_18 h => ?_)
  · refine lv_aload_n hx hb dX3_holds_7 rfl (lv_at hl 0 rfl) ?_
    refine lv_iconst (v := 0) hx hb dX3_holds_8 (by decide) ?_
    refine zp h E hZ (xb_X3 hk) ((xe_X3 hk) _) (((xe_X3 hk) _).trans (congrArg (fun z => Sum.inr (2, z)) (fs_X3_7 g _ _ _))) kc_X3 (by decide) kw_175 rfl rfl rfl (Nat.le_of_ble_eq_true rfl) dX3_holds_9 (fun M_17 H locs eM_17 h hZ => ?_)
    refine lv_iload_n hx hb dX3_holds_12 rfl (lv_at hl 1 rfl) ?_
    refine lv_istore (lv' := [(6, .int x1), (0, .ref (g.2.2 k)), (1, .int x1), (2, .int x2), (3, .ref (g.2.2 o3)), (4, .int x4), (5, .int x5)]) hx hb dX3_holds_13 hl (by decide) rfl (fun ls hl => ?_)
    exact lb_X3_holds_15 g k hk o3 ho3 E hret x2 x4 x5  6000 M_17 x1 H locs ls h hZ (lv_sub hl [1, 3, 4, 5, 6, 0] rfl)
  · refine lv_iconst (v := 1) hx hb dX3_holds_5 (by decide) ?_
    exact hret _ _ _ _ _ _ (Option.some.inj h).symm rfl hZ dX3_holds_6
theorem c_X3_holds (l : Launch) (g : zG) (M : zM) (k : Nat) (hk : xk k = 2) (o3 : Nat) (ho3 : xk o3 = 8) (x1 : Int32) (x2 : Int32) (x4 : Int32) (x5 : Int32) {r : Int32 × zM} (h : f_X3_holds M k x1 x2 o3 x4 x5 = some r) : zMi l g xE 125 yX3_holds (zWs yX3_holds cX3_holds 9 (some .boolean)) 4 [.ref (g.2.2 k), .int x1, .int x2, .ref (g.2.2 o3), .int x4, .int x5] M (fun v M1 => r = (v, M1)) :=
  zMi_of (by decide +kernel) (Nat.le_of_ble_eq_true rfl) (fun p e s m args below meth c Q ls E hret hZ hl => w_X3_holds g k hk o3 ho3 E hret M x1 x2 x4 x5 _ _ ls h hZ hl)
theorem v_X3_holds : zYV yX3_holds cX3_holds 9 (some .boolean) 5 := ⟨kw_482, kw_4, kw_481, kp_1, by decide +kernel⟩

def b_X3_sumOf_78 (K9 : zM → Int32 → Int32 → Int32 → Option (Int32 × zM)) (k : Nat) (o2 : Nat) (M : zM) (x1 : Int32) (x3 : Int32) (x4 : Int32) (x5 : Int32) (x7 : Int32) (x8 : Int32) : Option (Int32 × zM) :=
  znm (x7 + 1) (fun x7_1 => K9 M x5 x8 x7_1)
set_option maxRecDepth 100000 in
set_option maxHeartbeats 4000000 in
theorem lb_X3_sumOf_78 (g : zG)  (k : Nat) (hk : xk k = 2) (o2 : Nat) (ho2 : xk o2 = 8) {r : Int32 × zM} (E : zX g p m c cX3_sumOf 9 s args (zWs yX3_sumOf cX3_sumOf 9 (some .int)) RX3) (hret : zRi g xE 125 p l e (zrm 5 0 0) s m args below meth c 0 0 Q cX3_sumOf .int (fun v M1 => r = (v, M1))) (M : zM) (x1 : Int32) (x3 : Int32) (x4 : Int32) (x5 : Int32) (x7 : Int32) (x8 : Int32) (K9 : zM → Int32 → Int32 → Int32 → Option (Int32 × zM)) (hK9 : ∀ (M : zM) (x5 : Int32) (x6 : Int32) (x7 : Int32) (H : Heap) (locs : List Loc) (ls : Array Slot), K9 M x5 x6 x7 = some r → zS g xE 125 s H locs M → lv_has ls 9 [(0, .ref (g.2.2 k)), (1, .int x1), (2, .ref (g.2.2 o2)), (3, .int x3), (4, .int x4), (5, .int x5), (6, .int x6), (7, .int x7)] → W p l e (zrm 5 0 0) s m args below meth c H locs 0 0 Q (F0 m 9 ls [])) (H : Heap) (locs : List Loc) (ls : Array Slot) (h : b_X3_sumOf_78 K9 k o2 M x1 x3 x4 x5 x7 x8 = some r) (hZ : zS g xE 125 s H locs M) (hl : lv_has ls 9 [(0, .ref (g.2.2 k)), (1, .int x1), (2, .ref (g.2.2 o2)), (3, .int x3), (4, .int x4), (5, .int x5), (7, .int x7), (8, .int x8)]) : W p l e (zrm 5 0 0) s m args below meth c H locs 0 0 Q (F0 m 78 ls []) := by
  have hx := E.1.1
  have hb := E.1.2.1
  unfold b_X3_sumOf_78 at h
  refine lv_iload hx hb dX3_sumOf_78 (lv_at hl 7 rfl) ?_
  refine lv_istore (lv' := [(6, .int x8), (0, .ref (g.2.2 k)), (1, .int x1), (2, .ref (g.2.2 o2)), (3, .int x3), (4, .int x4), (5, .int x5), (7, .int x7), (8, .int x8)]) hx hb dX3_sumOf_80 hl (by decide) rfl (fun ls hl => ?_)
  obtain ⟨x7_1, ex7_1, h⟩ := znm_ex h
  refine lv_iinc (v := x7_1) (lv' := [(7, .int x7_1), (6, .int x8), (0, .ref (g.2.2 k)), (1, .int x1), (2, .ref (g.2.2 o2)), (3, .int x3), (4, .int x4), (5, .int x5), (8, .int x8)]) hx hb dX3_sumOf_82 hl (k := 7) rfl (by rw [ex7_1]; rfl) (by decide) rfl (fun ls hl => ?_)
  refine lv_goto (tgt := 9) hx hb dX3_sumOf_85 (by decide) ?_
  exact hK9 M x5 x8 x7_1 H locs ls h hZ (lv_sub hl [2, 3, 4, 5, 6, 7, 1, 0] rfl)
def b_X3_sumOf_9  (k : Nat) (o2 : Nat) (x1 : Int32) (x3 : Int32) (x4 : Int32) : Nat → zM → Int32 → Int32 → Int32 → Option (Int32 × zM)
  | 0, _, _, _, _ => none
  | n + 1, M, x5, x6, x7 =>
    if (M k 0) ≤ x7 then (some (x5, M)) else (if 12 ≤ x7 then (some (x5, M)) else (zbn (f_X10_at M (k + 3) x7) (fun u_2 => zbn (f_X10_at M (k + 1) x7) (fun u_3 => if u_3 = x1 then (zbn (f_X3_holds M k x6 u_2 o2 x3 x4) (fun u_4 => if u_4.1 = 0 then (b_X3_sumOf_78 (fun M x5 x6 x7 => b_X3_sumOf_9  k o2 x1 x3 x4 n M x5 x6 x7) k o2 u_4.2 x1 x3 x4 x5 x7 u_2) else (zbn (f_X10_at u_4.2 (k + 2) x7) (fun u_5 => znm (x5 + u_5) (fun x5_6 => b_X3_sumOf_78 (fun M x5 x6 x7 => b_X3_sumOf_9  k o2 x1 x3 x4 n M x5 x6 x7) k o2 u_4.2 x1 x3 x4 x5_6 x7 u_2))))) else (b_X3_sumOf_78 (fun M x5 x6 x7 => b_X3_sumOf_9  k o2 x1 x3 x4 n M x5 x6 x7) k o2 M x1 x3 x4 x5 x7 u_2)))))
set_option maxRecDepth 100000 in
set_option maxHeartbeats 4000000 in
theorem lb_X3_sumOf_9 (g : zG)  (k : Nat) (hk : xk k = 2) (o2 : Nat) (ho2 : xk o2 = 8) {r : Int32 × zM} (E : zX g p m c cX3_sumOf 9 s args (zWs yX3_sumOf cX3_sumOf 9 (some .int)) RX3) (hret : zRi g xE 125 p l e (zrm 5 0 0) s m args below meth c 0 0 Q cX3_sumOf .int (fun v M1 => r = (v, M1))) (x1 : Int32) (x3 : Int32) (x4 : Int32)  : ∀ (n : Nat) (M : zM) (x5 : Int32) (x6 : Int32) (x7 : Int32) (H : Heap) (locs : List Loc) (ls : Array Slot), b_X3_sumOf_9  k o2 x1 x3 x4 n M x5 x6 x7 = some r → zS g xE 125 s H locs M → lv_has ls 9 [(0, .ref (g.2.2 k)), (1, .int x1), (2, .ref (g.2.2 o2)), (3, .int x3), (4, .int x4), (5, .int x5), (6, .int x6), (7, .int x7)] → W p l e (zrm 5 0 0) s m args below meth c H locs 0 0 Q (F0 m 9 ls []) := by
  have hx := E.1.1
  have hb := E.1.2.1
  intro n
  induction n with
  | zero => intro M x5 x6 x7 H locs ls h hZ hl; cases h
  | succ n ih =>
    intro M x5 x6 x7 H locs ls h hZ hl
    rw [b_X3_sumOf_9] at h
    refine lv_iload hx hb dX3_sumOf_9 (lv_at hl 7 rfl) ?_
    refine lv_aload_n hx hb dX3_sumOf_11 rfl (lv_at hl 0 rfl) ?_
    refine zg (v := .int (M k 0)) E hZ (xb_X3 hk) ((xe_X3 hk) _) kc_X3 0 (by decide) kw_167 rfl rfl dX3_sumOf_12 ?_
    refine zic_ge (tgt := 88) h E dX3_sumOf_15 (by decide) (fun c_10 h => ?_) (fun c_10 h => ?_)
    · refine lv_iload hx hb dX3_sumOf_88 (lv_at hl 5 rfl) ?_
      exact hret _ _ _ _ _ _ (Option.some.inj h).symm rfl hZ dX3_sumOf_90
    · refine lv_iload hx hb dX3_sumOf_18 (lv_at hl 7 rfl) ?_
      refine lv_bipush (v := 12) hx hb dX3_sumOf_20 (by decide) ?_
      refine zic_ge (tgt := 88) h E dX3_sumOf_22 (by decide) (fun c_9 h => ?_) (fun c_9 h => ?_)
      · refine lv_iload hx hb dX3_sumOf_88 (lv_at hl 5 rfl) ?_
        exact hret _ _ _ _ _ _ (Option.some.inj h).symm rfl hZ dX3_sumOf_90
      · refine lv_aload_n hx hb dX3_sumOf_25 rfl (lv_at hl 0 rfl) ?_
        refine zg (v := .ref (g.2.2 (k + 3))) E hZ (xb_X3 hk) ((xe_X3 hk) _) kc_X3 3 (by decide) kw_171 rfl rfl dX3_sumOf_26 ?_
        refine lv_iload hx hb dX3_sumOf_29 (lv_at hl 7 rfl) ?_
        obtain ⟨u_2, qu_2, h⟩ := zbn_some h
        refine zciR (zrunSN E hZ v_X10_at kw_478 (c_X10_at l g M (k + 3) (xc_X3_ends hk).1 x7 qu_2 _) rfl hl.1 rfl (Nat.le_of_ble_eq_true rfl) ⟨by decide, by decide⟩ ⟨by decide, by decide⟩ dX3_sumOf_31) hZ (fun H locs hZ => ?_)
        refine lv_istore (lv' := [(8, .int u_2), (0, .ref (g.2.2 k)), (1, .int x1), (2, .ref (g.2.2 o2)), (3, .int x3), (4, .int x4), (5, .int x5), (6, .int x6), (7, .int x7)]) hx hb dX3_sumOf_34 hl (by decide) rfl (fun ls hl => ?_)
        refine lv_aload_n hx hb dX3_sumOf_36 rfl (lv_at hl 1 rfl) ?_
        refine zg (v := .ref (g.2.2 (k + 1))) E hZ (xb_X3 hk) ((xe_X3 hk) _) kc_X3 1 (by decide) kw_169 rfl rfl dX3_sumOf_37 ?_
        refine lv_iload hx hb dX3_sumOf_40 (lv_at hl 8 rfl) ?_
        obtain ⟨u_3, qu_3, h⟩ := zbn_some h
        refine zciR (zrunSN E hZ v_X10_at kw_478 (c_X10_at l g M (k + 1) (xc_X3_kinds hk).1 x7 qu_3 _) rfl hl.1 rfl (Nat.le_of_ble_eq_true rfl) ⟨by decide, by decide⟩ ⟨by decide, by decide⟩ dX3_sumOf_42) hZ (fun H locs hZ => ?_)
        refine lv_iload_n hx hb dX3_sumOf_45 rfl (lv_at hl 2 rfl) ?_
        refine zic_ne (tgt := 78) h E dX3_sumOf_46 (by decide) (fun c_8 h => ?_) (fun c_8 h => ?_)
        · exact lb_X3_sumOf_78 g k hk o2 ho2 E hret M x1 x3 x4 x5 x7 u_2 (fun M x5 x6 x7 => b_X3_sumOf_9  k o2 x1 x3 x4 n M x5 x6 x7) ih H locs ls h hZ (lv_sub hl [1, 2, 3, 4, 5, 6, 8, 0] rfl)
        · refine lv_aload_n hx hb dX3_sumOf_49 rfl (lv_at hl 1 rfl) ?_
          refine lv_iload hx hb dX3_sumOf_50 (lv_at hl 7 rfl) ?_
          refine lv_iload hx hb dX3_sumOf_52 (lv_at hl 0 rfl) ?_
          refine lv_aload_n hx hb dX3_sumOf_54 rfl (lv_at hl 3 rfl) ?_
          refine lv_iload_n hx hb dX3_sumOf_55 rfl (lv_at hl 4 rfl) ?_
          refine lv_iload hx hb dX3_sumOf_56 (lv_at hl 5 rfl) ?_
          obtain ⟨u_4, qu_4, h⟩ := zbn_some h
          refine zciS (zrunV E hZ (xb_X3 hk) ((xe_X3 hk) _) rfl rfl v_X3_holds kw_479 (c_X3_holds l g M k hk o2 ho2 x6 u_2 x3 x4 qu_4 _) rfl hl.1 rfl (Nat.le_of_ble_eq_true rfl) ⟨by decide, by decide⟩ ⟨by decide, by decide⟩ dX3_sumOf_58) hZ (fun H locs hZ => ?_)
          refine zif_eq (tgt := 78) h E dX3_sumOf_61 (by decide) (fun c_7 h => ?_) (fun c_7 h => ?_)
          · exact lb_X3_sumOf_78 g k hk o2 ho2 E hret u_4.2 x1 x3 x4 x5 x7 u_2 (fun M x5 x6 x7 => b_X3_sumOf_9  k o2 x1 x3 x4 n M x5 x6 x7) ih H locs ls h hZ (lv_sub hl [1, 2, 3, 4, 5, 6, 8, 0] rfl)
          · refine lv_iload hx hb dX3_sumOf_64 (lv_at hl 6 rfl) ?_
            refine lv_aload_n hx hb dX3_sumOf_66 rfl (lv_at hl 1 rfl) ?_
            refine zg (v := .ref (g.2.2 (k + 2))) E hZ (xb_X3 hk) ((xe_X3 hk) _) kc_X3 2 (by decide) kw_170 rfl rfl dX3_sumOf_67 ?_
            refine lv_iload hx hb dX3_sumOf_70 (lv_at hl 8 rfl) ?_
            obtain ⟨u_5, qu_5, h⟩ := zbn_some h
            refine zciR (zrunSN E hZ v_X10_at kw_478 (c_X10_at l g u_4.2 (k + 2) (xc_X3_amounts hk).1 x7 qu_5 _) rfl hl.1 rfl (Nat.le_of_ble_eq_true rfl) ⟨by decide, by decide⟩ ⟨by decide, by decide⟩ dX3_sumOf_72) hZ (fun H locs hZ => ?_)
            refine lv_iadd hx hb dX3_sumOf_75 ?_
            refine zni h (fun x5_6 ex5_6 h => ?_)
            refine lv_istore (lv' := [(5, .int x5_6), (8, .int u_2), (0, .ref (g.2.2 k)), (1, .int x1), (2, .ref (g.2.2 o2)), (3, .int x3), (4, .int x4), (6, .int x6), (7, .int x7)]) hx hb dX3_sumOf_76 hl (by decide) rfl (fun ls hl => ?_)
            exact lb_X3_sumOf_78 g k hk o2 ho2 E hret u_4.2 x1 x3 x4 x5_6 x7 u_2 (fun M x5 x6 x7 => b_X3_sumOf_9  k o2 x1 x3 x4 n M x5 x6 x7) ih H locs ls h hZ (lv_sub hl [2, 3, 4, 5, 6, 0, 8, 1] rfl)
def f_X3_sumOf (M : zM) (k : Nat) (x1 : Int32) (o2 : Nat) (x3 : Int32) (x4 : Int32) : Option (Int32 × zM) :=
  b_X3_sumOf_9  k o2 x1 x3 x4 6000 M 0 0 0
set_option maxRecDepth 100000 in
set_option maxHeartbeats 4000000 in
theorem w_X3_sumOf (g : zG)  (k : Nat) (hk : xk k = 2) (o2 : Nat) (ho2 : xk o2 = 8) {r : Int32 × zM} (E : zX g p m c cX3_sumOf 9 s args (zWs yX3_sumOf cX3_sumOf 9 (some .int)) RX3) (hret : zRi g xE 125 p l e (zrm 5 0 0) s m args below meth c 0 0 Q cX3_sumOf .int (fun v M1 => r = (v, M1))) (M : zM) (x1 : Int32) (x3 : Int32) (x4 : Int32) (H : Heap) (locs : List Loc) (ls : Array Slot) (h : f_X3_sumOf M k x1 o2 x3 x4 = some r) (hZ : zS g xE 125 s H locs M) (hl : lv_has ls 9 [(0, .ref (g.2.2 k)), (1, .int x1), (2, .ref (g.2.2 o2)), (3, .int x3), (4, .int x4)]) : W p l e (zrm 5 0 0) s m args below meth c H locs 0 0 Q (F0 m 0 ls []) := by
  have hx := E.1.1
  have hb := E.1.2.1
  unfold f_X3_sumOf at h
  refine lv_iconst (v := 0) hx hb dX3_sumOf_0 (by decide) ?_
  refine lv_istore (lv' := [(5, .int 0), (0, .ref (g.2.2 k)), (1, .int x1), (2, .ref (g.2.2 o2)), (3, .int x3), (4, .int x4)]) hx hb dX3_sumOf_1 hl (by decide) rfl (fun ls hl => ?_)
  refine lv_iconst (v := 0) hx hb dX3_sumOf_3 (by decide) ?_
  refine lv_istore (lv' := [(6, .int 0), (5, .int 0), (0, .ref (g.2.2 k)), (1, .int x1), (2, .ref (g.2.2 o2)), (3, .int x3), (4, .int x4)]) hx hb dX3_sumOf_4 hl (by decide) rfl (fun ls hl => ?_)
  refine lv_iconst (v := 0) hx hb dX3_sumOf_6 (by decide) ?_
  refine lv_istore (lv' := [(7, .int 0), (6, .int 0), (5, .int 0), (0, .ref (g.2.2 k)), (1, .int x1), (2, .ref (g.2.2 o2)), (3, .int x3), (4, .int x4)]) hx hb dX3_sumOf_7 hl (by decide) rfl (fun ls hl => ?_)
  exact lb_X3_sumOf_9 g k hk o2 ho2 E hret x1 x3 x4  6000 M 0 0 0 H locs ls h hZ (lv_sub hl [3, 4, 5, 6, 7, 2, 1, 0] rfl)
theorem c_X3_sumOf (l : Launch) (g : zG) (M : zM) (k : Nat) (hk : xk k = 2) (o2 : Nat) (ho2 : xk o2 = 8) (x1 : Int32) (x3 : Int32) (x4 : Int32) {r : Int32 × zM} (h : f_X3_sumOf M k x1 o2 x3 x4 = some r) : zMi l g xE 125 yX3_sumOf (zWs yX3_sumOf cX3_sumOf 9 (some .int)) 5 [.ref (g.2.2 k), .int x1, .ref (g.2.2 o2), .int x3, .int x4] M (fun v M1 => r = (v, M1)) :=
  zMi_of (by decide +kernel) (Nat.le_of_ble_eq_true rfl) (fun p e s m args below meth c Q ls E hret hZ hl => w_X3_sumOf g k hk o2 ho2 E hret M x1 x3 x4 _ _ ls h hZ hl)
theorem v_X3_sumOf : zYV yX3_sumOf cX3_sumOf 9 (some .int) 4 := ⟨kw_477, kw_4, kw_476, kp_0, by decide +kernel⟩

def f_X3_waits (M : zM) (k : Nat) (o1 : Nat) (x2 : Int32) (x3 : Int32) : Option (Int32 × zM) :=
  zbn (f_X3_sumOf M k 15 o1 x2 x3) (fun u_1 => if u_1.1 ≤ 0 then (some (0, u_1.2)) else (some (1, u_1.2)))
set_option maxRecDepth 100000 in
set_option maxHeartbeats 4000000 in
theorem w_X3_waits (g : zG)  (k : Nat) (hk : xk k = 2) (o1 : Nat) (ho1 : xk o1 = 8) {r : Int32 × zM} (E : zX g p m c cX3_waits 4 s args (zWs yX3_waits cX3_waits 4 (some .boolean)) RX3) (hret : zRi g xE 125 p l e (zrm 6 0 0) s m args below meth c 0 0 Q cX3_waits .boolean (fun v M1 => r = (v, M1))) (M : zM) (x2 : Int32) (x3 : Int32) (H : Heap) (locs : List Loc) (ls : Array Slot) (h : f_X3_waits M k o1 x2 x3 = some r) (hZ : zS g xE 125 s H locs M) (hl : lv_has ls 4 [(0, .ref (g.2.2 k)), (1, .ref (g.2.2 o1)), (2, .int x2), (3, .int x3)]) : W p l e (zrm 6 0 0) s m args below meth c H locs 0 0 Q (F0 m 0 ls []) := by
  have hx := E.1.1
  have hb := E.1.2.1
  unfold f_X3_waits at h
  refine lv_aload_n hx hb dX3_waits_0 rfl (lv_at hl 0 rfl) ?_
  refine lv_bipush (v := 15) hx hb dX3_waits_1 (by decide) ?_
  refine lv_aload_n hx hb dX3_waits_3 rfl (lv_at hl 1 rfl) ?_
  refine lv_iload_n hx hb dX3_waits_4 rfl (lv_at hl 2 rfl) ?_
  refine lv_iload_n hx hb dX3_waits_5 rfl (lv_at hl 3 rfl) ?_
  obtain ⟨u_1, qu_1, h⟩ := zbn_some h
  refine zciS (zrunV E hZ (xb_X3 hk) ((xe_X3 hk) _) rfl rfl v_X3_sumOf kw_474 (c_X3_sumOf l g M k hk o1 ho1 15 x2 x3 qu_1 _) rfl hl.1 rfl (Nat.le_of_ble_eq_true rfl) ⟨by decide, by decide⟩ ⟨by decide, by decide⟩ dX3_waits_6) hZ (fun H locs hZ => ?_)
  refine zif_le (tgt := 16) h E dX3_waits_9 (by decide) (fun c_2 h => ?_) (fun c_2 h => ?_)
  · refine lv_iconst (v := 0) hx hb dX3_waits_16 (by decide) ?_
    exact hret _ _ _ _ _ _ (Option.some.inj h).symm rfl hZ dX3_waits_17
  · refine lv_iconst (v := 1) hx hb dX3_waits_12 (by decide) ?_
    refine lv_goto (tgt := 17) hx hb dX3_waits_13 (by decide) ?_
    exact hret _ _ _ _ _ _ (Option.some.inj h).symm rfl hZ dX3_waits_17
theorem c_X3_waits (l : Launch) (g : zG) (M : zM) (k : Nat) (hk : xk k = 2) (o1 : Nat) (ho1 : xk o1 = 8) (x2 : Int32) (x3 : Int32) {r : Int32 × zM} (h : f_X3_waits M k o1 x2 x3 = some r) : zMi l g xE 125 yX3_waits (zWs yX3_waits cX3_waits 4 (some .boolean)) 6 [.ref (g.2.2 k), .ref (g.2.2 o1), .int x2, .int x3] M (fun v M1 => r = (v, M1)) :=
  zMi_of (by decide +kernel) (Nat.le_of_ble_eq_true rfl) (fun p e s m args below meth c Q ls E hret hZ hl => w_X3_waits g k hk o1 ho1 E hret M x2 x3 _ _ ls h hZ hl)
theorem v_X3_waits : zYV yX3_waits cX3_waits 4 (some .boolean) 3 := ⟨kw_879, kw_4, kw_877, kw_878, by decide +kernel⟩

def f_X3_wades (M : zM) (k : Nat) (o1 : Nat) (x2 : Int32) (x3 : Int32) : Option (Int32 × zM) :=
  zbn (f_X3_sumOf M k 14 o1 x2 x3) (fun u_1 => some (1 + u_1.1, u_1.2))
set_option maxRecDepth 100000 in
set_option maxHeartbeats 4000000 in
theorem w_X3_wades (g : zG)  (k : Nat) (hk : xk k = 2) (o1 : Nat) (ho1 : xk o1 = 8) {r : Int32 × zM} (E : zX g p m c cX3_wades 4 s args (zWs yX3_wades cX3_wades 4 (some .int)) RX3) (hret : zRi g xE 125 p l e (zrm 6 0 0) s m args below meth c 0 0 Q cX3_wades .int (fun v M1 => r = (v, M1))) (M : zM) (x2 : Int32) (x3 : Int32) (H : Heap) (locs : List Loc) (ls : Array Slot) (h : f_X3_wades M k o1 x2 x3 = some r) (hZ : zS g xE 125 s H locs M) (hl : lv_has ls 4 [(0, .ref (g.2.2 k)), (1, .ref (g.2.2 o1)), (2, .int x2), (3, .int x3)]) : W p l e (zrm 6 0 0) s m args below meth c H locs 0 0 Q (F0 m 0 ls []) := by
  have hx := E.1.1
  have hb := E.1.2.1
  unfold f_X3_wades at h
  refine lv_iconst (v := 1) hx hb dX3_wades_0 (by decide) ?_
  refine lv_aload_n hx hb dX3_wades_1 rfl (lv_at hl 0 rfl) ?_
  refine lv_bipush (v := 14) hx hb dX3_wades_2 (by decide) ?_
  refine lv_aload_n hx hb dX3_wades_4 rfl (lv_at hl 1 rfl) ?_
  refine lv_iload_n hx hb dX3_wades_5 rfl (lv_at hl 2 rfl) ?_
  refine lv_iload_n hx hb dX3_wades_6 rfl (lv_at hl 3 rfl) ?_
  obtain ⟨u_1, qu_1, h⟩ := zbn_some h
  refine zciS (zrunV E hZ (xb_X3 hk) ((xe_X3 hk) _) rfl rfl v_X3_sumOf kw_474 (c_X3_sumOf l g M k hk o1 ho1 14 x2 x3 qu_1 _) rfl hl.1 rfl (Nat.le_of_ble_eq_true rfl) ⟨by decide, by decide⟩ ⟨by decide, by decide⟩ dX3_wades_7) hZ (fun H locs hZ => ?_)
  refine lv_iadd hx hb dX3_wades_10 ?_
  exact hret _ _ _ _ _ _ (Option.some.inj h).symm rfl hZ dX3_wades_11
theorem c_X3_wades (l : Launch) (g : zG) (M : zM) (k : Nat) (hk : xk k = 2) (o1 : Nat) (ho1 : xk o1 = 8) (x2 : Int32) (x3 : Int32) {r : Int32 × zM} (h : f_X3_wades M k o1 x2 x3 = some r) : zMi l g xE 125 yX3_wades (zWs yX3_wades cX3_wades 4 (some .int)) 6 [.ref (g.2.2 k), .ref (g.2.2 o1), .int x2, .int x3] M (fun v M1 => r = (v, M1)) :=
  zMi_of (by decide +kernel) (Nat.le_of_ble_eq_true rfl) (fun p e s m args below meth c Q ls E hret hZ hl => w_X3_wades g k hk o1 ho1 E hret M x2 x3 _ _ ls h hZ hl)
theorem v_X3_wades : zYV yX3_wades cX3_wades 4 (some .int) 3 := ⟨kw_473, kw_4, kw_471, kw_472, by decide +kernel⟩

def f_X10_put (M : zM) (o0 : Nat) (x1 : Int32) (x2 : Int32) : Option (zM) :=
  if x1 < 0 then (some M) else (if (Int32.ofNat (xl o0)) ≤ x1 then (some M) else (zck (zin x1 (xl o0)) (znm (zu M o0 (x1 : Int32).toNatClampNeg x2) (fun M_1 => some M_1))))
set_option maxRecDepth 100000 in
set_option maxHeartbeats 4000000 in
theorem w_X10_put (g : zG)  (o0 : Nat) (ho0 : xk o0 = 20) {r : zM} (E : zX g p m c cX10_put 3 s args (zWs yX10_put cX10_put 3 none) RX10) (hret : zRv g xE 125 p l e (zrm 2 0 0) s m args below meth c 0 0 Q cX10_put (fun M1 => M1 = r)) (M : zM) (x1 : Int32) (x2 : Int32) (H : Heap) (locs : List Loc) (ls : Array Slot) (h : f_X10_put M o0 x1 x2 = some r) (hZ : zS g xE 125 s H locs M) (hl : lv_has ls 3 [(0, .ref (g.2.2 o0)), (1, .int x1), (2, .int x2)]) : W p l e (zrm 2 0 0) s m args below meth c H locs 0 0 Q (F0 m 0 ls []) := by
  have hx := E.1.1
  have hb := E.1.2.1
  unfold f_X10_put at h
  refine lv_iload_n hx hb dX10_put_0 rfl (lv_at hl 1 rfl) ?_
  refine zif_lt (tgt := 14) h E dX10_put_1 (by decide) (fun c_3 h => ?_) (fun c_3 h => ?_)
  · exact hret _ _ _ _ _ (Option.some.inj h) hZ dX10_put_14
  · refine lv_iload_n hx hb dX10_put_4 rfl (lv_at hl 1 rfl) ?_
    refine lv_aload_n hx hb dX10_put_5 rfl (lv_at hl 0 rfl) ?_
    refine zal E hZ 0 rfl (xb_I ho0) (xe_I ho0) rfl dX10_put_6 ?_
    refine zic_ge (tgt := 14) h E dX10_put_7 (by decide) (fun c_2 h => ?_) (fun c_2 h => ?_)
    · exact hret _ _ _ _ _ (Option.some.inj h) hZ dX10_put_14
    · refine lv_aload_n hx hb dX10_put_10 rfl (lv_at hl 0 rfl) ?_
      refine lv_iload_n hx hb dX10_put_11 rfl (lv_at hl 1 rfl) ?_
      refine lv_iload_n hx hb dX10_put_12 rfl (lv_at hl 2 rfl) ?_
      refine zis h E hZ (xb_I ho0) (xe_I ho0) dX10_put_13 (fun M_1 H locs eM_1 h hZ => ?_)
      exact hret _ _ _ _ _ (Option.some.inj h) hZ dX10_put_14
theorem c_X10_put (l : Launch) (g : zG) (M : zM) (o0 : Nat) (ho0 : xk o0 = 20) (x1 : Int32) (x2 : Int32) {r : zM} (h : f_X10_put M o0 x1 x2 = some r) : zMv l g xE 125 yX10_put (zWs yX10_put cX10_put 3 none) 2 [.ref (g.2.2 o0), .int x1, .int x2] M (fun M1 => M1 = r) :=
  zMv_of (by decide +kernel) (Nat.le_of_ble_eq_true rfl) (fun p e s m args below meth c Q ls E hret hZ hl => w_X10_put g o0 ho0 E hret M x1 x2 _ _ ls h hZ hl)
theorem v_X10_put : zYS yX10_put cX10_put 3 none 3 := ⟨kw_408, kw_1, kw_407, by decide +kernel⟩

def f_X9_setMonkCell (M : zM) (k : Nat) (x1 : Int32) (x2 : Int32) (x3 : Int32) : Option (zM) :=
  zbn (f_X10_put M (k + 3) ((x1 * 4) + x2) x3) (fun u_1 => some u_1)
set_option maxRecDepth 100000 in
set_option maxHeartbeats 4000000 in
theorem w_X9_setMonkCell (g : zG)  (k : Nat) (hk : xk k = 8) {r : zM} (E : zX g p m c cX9_setMonkCell 4 s args (zWs yX9_setMonkCell cX9_setMonkCell 4 none) RX9) (hret : zRv g xE 125 p l e (zrm 3 0 0) s m args below meth c 0 0 Q cX9_setMonkCell (fun M1 => M1 = r)) (M : zM) (x1 : Int32) (x2 : Int32) (x3 : Int32) (H : Heap) (locs : List Loc) (ls : Array Slot) (h : f_X9_setMonkCell M k x1 x2 x3 = some r) (hZ : zS g xE 125 s H locs M) (hl : lv_has ls 4 [(0, .ref (g.2.2 k)), (1, .int x1), (2, .int x2), (3, .int x3)]) : W p l e (zrm 3 0 0) s m args below meth c H locs 0 0 Q (F0 m 0 ls []) := by
  have hx := E.1.1
  have hb := E.1.2.1
  unfold f_X9_setMonkCell at h
  refine lv_aload_n hx hb dX9_setMonkCell_0 rfl (lv_at hl 0 rfl) ?_
  refine zg (v := .ref (g.2.2 (k + 3))) E hZ (xb_X9 hk) ((xe_X9 hk) _) kc_X9 17 (by decide) kw_117 rfl rfl dX9_setMonkCell_1 ?_
  refine lv_iload_n hx hb dX9_setMonkCell_4 rfl (lv_at hl 1 rfl) ?_
  refine lv_iconst (v := 4) hx hb dX9_setMonkCell_5 (by decide) ?_
  refine lv_imul hx hb dX9_setMonkCell_6 ?_
  refine lv_iload_n hx hb dX9_setMonkCell_7 rfl (lv_at hl 2 rfl) ?_
  refine lv_iadd hx hb dX9_setMonkCell_8 ?_
  refine lv_iload_n hx hb dX9_setMonkCell_9 rfl (lv_at hl 3 rfl) ?_
  obtain ⟨u_1, qu_1, h⟩ := zbn_some h
  refine zcvS (zrunSN E hZ v_X10_put kw_673 (c_X10_put l g M (k + 3) (xc_X9_monkCells hk).1 ((x1 * 4) + x2) x3 qu_1 _) rfl hl.1 rfl (Nat.le_of_ble_eq_true rfl) ⟨by decide, by decide⟩ ⟨by decide, by decide⟩ dX9_setMonkCell_10) hZ (fun H locs hZ => ?_)
  exact hret _ _ _ _ _ (Option.some.inj h) hZ dX9_setMonkCell_13
theorem c_X9_setMonkCell (l : Launch) (g : zG) (M : zM) (k : Nat) (hk : xk k = 8) (x1 : Int32) (x2 : Int32) (x3 : Int32) {r : zM} (h : f_X9_setMonkCell M k x1 x2 x3 = some r) : zMv l g xE 125 yX9_setMonkCell (zWs yX9_setMonkCell cX9_setMonkCell 4 none) 3 [.ref (g.2.2 k), .int x1, .int x2, .int x3] M (fun M1 => M1 = r) :=
  zMv_of (by decide +kernel) (Nat.le_of_ble_eq_true rfl) (fun p e s m args below meth c Q ls E hret hZ hl => w_X9_setMonkCell g k hk E hret M x1 x2 x3 _ _ ls h hZ hl)
theorem v_X9_setMonkCell : zYV yX9_setMonkCell cX9_setMonkCell 4 none 3 := ⟨kw_672, kw_3, kw_670, kw_671, by decide +kernel⟩

def b_X0_walk_85  (o0 : Nat) (M : zM) (x1 : Int32) (x4 : Int32) : Option (zM) :=
  zbn (f_X9_setMonkCell M o0 x1 0 x4) (fun u_1 => some u_1)
set_option maxRecDepth 100000 in
set_option maxHeartbeats 4000000 in
theorem lb_X0_walk_85 (g : zG)  (o0 : Nat) (ho0 : xk o0 = 8) {r : zM} (E : zX g p m c cX0_walk 9 s args (zWs yX0_walk cX0_walk 9 none) RX0) (hret : zRv g xE 125 p l e (zrm 4 0 0) s m args below meth c 0 0 Q cX0_walk (fun M1 => M1 = r)) (M : zM) (x1 : Int32) (x4 : Int32)  (H : Heap) (locs : List Loc) (ls : Array Slot) (h : b_X0_walk_85  o0 M x1 x4 = some r) (hZ : zS g xE 125 s H locs M) (hl : lv_has ls 9 [(0, .ref (g.2.2 o0)), (1, .int x1), (4, .int x4)]) : W p l e (zrm 4 0 0) s m args below meth c H locs 0 0 Q (F0 m 85 ls []) := by
  have hx := E.1.1
  have hb := E.1.2.1
  unfold b_X0_walk_85 at h
  refine lv_aload_n hx hb dX0_walk_85 rfl (lv_at hl 0 rfl) ?_
  refine lv_iload_n hx hb dX0_walk_86 rfl (lv_at hl 1 rfl) ?_
  refine lv_iconst (v := 0) hx hb dX0_walk_87 (by decide) ?_
  refine lv_iload hx hb dX0_walk_88 (lv_at hl 2 rfl) ?_
  obtain ⟨u_1, qu_1, h⟩ := zbn_some h
  refine zcvS (zrunV E hZ (xb_X9 ho0) ((xe_X9 ho0) _) rfl rfl v_X9_setMonkCell kw_1052 (c_X9_setMonkCell l g M o0 ho0 x1 0 x4 qu_1 _) rfl hl.1 rfl (Nat.le_of_ble_eq_true rfl) ⟨by decide, by decide⟩ ⟨by decide, by decide⟩ dX0_walk_90) hZ (fun H locs hZ => ?_)
  exact hret _ _ _ _ _ (Option.some.inj h) hZ dX0_walk_93
def b_X0_walk_72  (o0 : Nat) (M : zM) (x1 : Int32) (x4 : Int32) : Option (zM) :=
  b_X0_walk_85  o0 M x1 x4
set_option maxRecDepth 100000 in
set_option maxHeartbeats 4000000 in
theorem lb_X0_walk_72 (g : zG)  (o0 : Nat) (ho0 : xk o0 = 8) {r : zM} (E : zX g p m c cX0_walk 9 s args (zWs yX0_walk cX0_walk 9 none) RX0) (hret : zRv g xE 125 p l e (zrm 4 0 0) s m args below meth c 0 0 Q cX0_walk (fun M1 => M1 = r)) (M : zM) (x1 : Int32) (x4 : Int32)  (H : Heap) (locs : List Loc) (ls : Array Slot) (h : b_X0_walk_72  o0 M x1 x4 = some r) (hZ : zS g xE 125 s H locs M) (hl : lv_has ls 9 [(0, .ref (g.2.2 o0)), (1, .int x1), (4, .int x4)]) : W p l e (zrm 4 0 0) s m args below meth c H locs 0 0 Q (F0 m 72 ls []) := by
  have hx := E.1.1
  have hb := E.1.2.1
  unfold b_X0_walk_72 at h
  refine lv_goto (tgt := 85) hx hb dX0_walk_72 (by decide) ?_
  exact lb_X0_walk_85 g o0 ho0 E hret M x1 x4  H locs ls h hZ (lv_sub hl [0, 1, 2] rfl)
def b_X0_walk_59 (K27 : Int32 → Int32 → Option (zM)) (o0 : Nat) (M : zM) (x1 : Int32) (x2 : Int32) (x3 : Int32) (x4 : Int32) (x5 : Int32) (x6 : Int32) (x7 : Int32) (t0 : Int32) : Option (zM) :=
  zbn (f_X9_depthBy M o0 x3 t0) (fun u_2 => if u_2 ≤ x2 then (znm (x7 + 1) (fun x7_3 => K27 t0 x7_3)) else (b_X0_walk_72  o0 M x1 x4))
set_option maxRecDepth 100000 in
set_option maxHeartbeats 4000000 in
theorem lb_X0_walk_59 (g : zG)  (o0 : Nat) (ho0 : xk o0 = 8) {r : zM} (E : zX g p m c cX0_walk 9 s args (zWs yX0_walk cX0_walk 9 none) RX0) (hret : zRv g xE 125 p l e (zrm 4 0 0) s m args below meth c 0 0 Q cX0_walk (fun M1 => M1 = r)) (M : zM) (x1 : Int32) (x2 : Int32) (x3 : Int32) (x4 : Int32) (x5 : Int32) (x6 : Int32) (x7 : Int32) (t0 : Int32) (K27 : Int32 → Int32 → Option (zM)) (hK27 : ∀ (x4 : Int32) (x7 : Int32) (H : Heap) (locs : List Loc) (ls : Array Slot), K27 x4 x7 = some r → zS g xE 125 s H locs M → lv_has ls 9 [(0, .ref (g.2.2 o0)), (1, .int x1), (2, .int x2), (3, .int x3), (4, .int x4), (5, .int x5), (6, .int x6), (7, .int x7)] → W p l e (zrm 4 0 0) s m args below meth c H locs 0 0 Q (F0 m 27 ls [])) (H : Heap) (locs : List Loc) (ls : Array Slot) (h : b_X0_walk_59 K27 o0 M x1 x2 x3 x4 x5 x6 x7 t0 = some r) (hZ : zS g xE 125 s H locs M) (hl : lv_has ls 9 [(0, .ref (g.2.2 o0)), (1, .int x1), (2, .int x2), (3, .int x3), (4, .int x4), (5, .int x5), (6, .int x6), (7, .int x7)]) : W p l e (zrm 4 0 0) s m args below meth c H locs 0 0 Q (F0 m 59 ls [.int t0]) := by
  have hx := E.1.1
  have hb := E.1.2.1
  unfold b_X0_walk_59 at h
  refine lv_istore (lv' := [(8, .int t0), (0, .ref (g.2.2 o0)), (1, .int x1), (2, .int x2), (3, .int x3), (4, .int x4), (5, .int x5), (6, .int x6), (7, .int x7)]) hx hb dX0_walk_59 hl (by decide) rfl (fun ls hl => ?_)
  refine lv_aload_n hx hb dX0_walk_61 rfl (lv_at hl 1 rfl) ?_
  refine lv_iload_n hx hb dX0_walk_62 rfl (lv_at hl 4 rfl) ?_
  refine lv_iload hx hb dX0_walk_63 (lv_at hl 0 rfl) ?_
  obtain ⟨u_2, qu_2, h⟩ := zbn_some h
  refine zciR (zrunV E hZ (xb_X9 ho0) ((xe_X9 ho0) _) rfl rfl v_X9_depthBy kw_1051 (c_X9_depthBy l g M o0 ho0 x3 t0 qu_2 _) rfl hl.1 rfl (Nat.le_of_ble_eq_true rfl) ⟨by decide, by decide⟩ ⟨by decide, by decide⟩ dX0_walk_65) hZ (fun H locs hZ => ?_)
  refine lv_iload_n hx hb dX0_walk_68 rfl (lv_at hl 3 rfl) ?_
  refine zic_le (tgt := 75) h E dX0_walk_69 (by decide) (fun c_4 h => ?_) (fun c_4 h => ?_)
  · refine lv_iload hx hb dX0_walk_75 (lv_at hl 0 rfl) ?_
    refine lv_istore (lv' := [(4, .int t0), (8, .int t0), (0, .ref (g.2.2 o0)), (1, .int x1), (2, .int x2), (3, .int x3), (5, .int x5), (6, .int x6), (7, .int x7)]) hx hb dX0_walk_77 hl (by decide) rfl (fun ls hl => ?_)
    obtain ⟨x7_3, ex7_3, h⟩ := znm_ex h
    refine lv_iinc (v := x7_3) (lv' := [(7, .int x7_3), (4, .int t0), (8, .int t0), (0, .ref (g.2.2 o0)), (1, .int x1), (2, .int x2), (3, .int x3), (5, .int x5), (6, .int x6)]) hx hb dX0_walk_79 hl (k := 8) rfl (by rw [ex7_3]; rfl) (by decide) rfl (fun ls hl => ?_)
    refine lv_goto (tgt := 27) hx hb dX0_walk_82 (by decide) ?_
    exact hK27 t0 x7_3 H locs ls h hZ (lv_sub hl [3, 4, 5, 6, 1, 7, 8, 0] rfl)
  · exact lb_X0_walk_72 g o0 ho0 E hret M x1 x4  H locs ls h hZ (lv_sub hl [1, 2, 5] rfl)
def b_X0_walk_27  (o0 : Nat) (M : zM) (x1 : Int32) (x2 : Int32) (x3 : Int32) (x5 : Int32) (x6 : Int32) : Nat → Int32 → Int32 → Option (zM)
  | 0, _, _ => none
  | n + 1, x4, x7 =>
    if x6 ≤ x7 then (b_X0_walk_85  o0 M x1 x4) else (if x4 = x5 then (b_X0_walk_85  o0 M x1 x4) else (if x5 ≤ x4 then (b_X0_walk_59 (fun x4 x7 => b_X0_walk_27  o0 M x1 x2 x3 x5 x6 n x4 x7) o0 M x1 x2 x3 x4 x5 x6 x7 (x4 - 1)) else (b_X0_walk_59 (fun x4 x7 => b_X0_walk_27  o0 M x1 x2 x3 x5 x6 n x4 x7) o0 M x1 x2 x3 x4 x5 x6 x7 (x4 + 1))))
set_option maxRecDepth 100000 in
set_option maxHeartbeats 4000000 in
theorem lb_X0_walk_27 (g : zG)  (o0 : Nat) (ho0 : xk o0 = 8) {r : zM} (E : zX g p m c cX0_walk 9 s args (zWs yX0_walk cX0_walk 9 none) RX0) (hret : zRv g xE 125 p l e (zrm 4 0 0) s m args below meth c 0 0 Q cX0_walk (fun M1 => M1 = r)) (M : zM) (x1 : Int32) (x2 : Int32) (x3 : Int32) (x5 : Int32) (x6 : Int32)  : ∀ (n : Nat) (x4 : Int32) (x7 : Int32) (H : Heap) (locs : List Loc) (ls : Array Slot), b_X0_walk_27  o0 M x1 x2 x3 x5 x6 n x4 x7 = some r → zS g xE 125 s H locs M → lv_has ls 9 [(0, .ref (g.2.2 o0)), (1, .int x1), (2, .int x2), (3, .int x3), (4, .int x4), (5, .int x5), (6, .int x6), (7, .int x7)] → W p l e (zrm 4 0 0) s m args below meth c H locs 0 0 Q (F0 m 27 ls []) := by
  have hx := E.1.1
  have hb := E.1.2.1
  intro n
  induction n with
  | zero => intro x4 x7 H locs ls h hZ hl; cases h
  | succ n ih =>
    intro x4 x7 H locs ls h hZ hl
    rw [b_X0_walk_27] at h
    refine lv_iload hx hb dX0_walk_27 (lv_at hl 7 rfl) ?_
    refine lv_iload hx hb dX0_walk_29 (lv_at hl 6 rfl) ?_
    refine zic_ge (tgt := 85) h E dX0_walk_31 (by decide) (fun c_7 h => ?_) (fun c_7 h => ?_)
    · exact lb_X0_walk_85 g o0 ho0 E hret M x1 x4  H locs ls h hZ (lv_sub hl [0, 1, 4] rfl)
    · refine lv_iload hx hb dX0_walk_34 (lv_at hl 4 rfl) ?_
      refine lv_iload hx hb dX0_walk_36 (lv_at hl 5 rfl) ?_
      refine zic_eq (tgt := 85) h E dX0_walk_38 (by decide) (fun c_6 h => ?_) (fun c_6 h => ?_)
      · exact lb_X0_walk_85 g o0 ho0 E hret M x1 x4  H locs ls h hZ (lv_sub hl [0, 1, 4] rfl)
      · refine lv_iload hx hb dX0_walk_41 (lv_at hl 4 rfl) ?_
        refine lv_iload hx hb dX0_walk_43 (lv_at hl 5 rfl) ?_
        refine zic_ge (tgt := 55) h E dX0_walk_45 (by decide) (fun c_5 h => ?_) (fun c_5 h => ?_)
        · refine lv_iload hx hb dX0_walk_55 (lv_at hl 4 rfl) ?_
          refine lv_iconst (v := 1) hx hb dX0_walk_57 (by decide) ?_
          refine lv_isub hx hb dX0_walk_58 ?_
          exact lb_X0_walk_59 g o0 ho0 E hret M x1 x2 x3 x4 x5 x6 x7 (x4 - 1) (fun x4 x7 => b_X0_walk_27  o0 M x1 x2 x3 x5 x6 n x4 x7) ih H locs ls h hZ (lv_sub hl [0, 1, 2, 3, 4, 5, 6, 7] rfl)
        · refine lv_iload hx hb dX0_walk_48 (lv_at hl 4 rfl) ?_
          refine lv_iconst (v := 1) hx hb dX0_walk_50 (by decide) ?_
          refine lv_iadd hx hb dX0_walk_51 ?_
          refine lv_goto (tgt := 59) hx hb dX0_walk_52 (by decide) ?_
          exact lb_X0_walk_59 g o0 ho0 E hret M x1 x2 x3 x4 x5 x6 x7 (x4 + 1) (fun x4 x7 => b_X0_walk_27  o0 M x1 x2 x3 x5 x6 n x4 x7) ih H locs ls h hZ (lv_sub hl [0, 1, 2, 3, 4, 5, 6, 7] rfl)
def f_X0_walk (M : zM) (o0 : Nat) (x1 : Int32) (x2 : Int32) (x3 : Int32) : Option (zM) :=
  zbn (f_X9_monkCell M o0 x1 0) (fun u_8 => zbn (f_X9_monkCell M o0 x1 1) (fun u_9 => zbn (f_X9_monkCell M o0 x1 2) (fun u_10 => b_X0_walk_27  o0 M x1 x2 x3 u_9 u_10 6000 u_8 0)))
set_option maxRecDepth 100000 in
set_option maxHeartbeats 4000000 in
theorem w_X0_walk (g : zG)  (o0 : Nat) (ho0 : xk o0 = 8) {r : zM} (E : zX g p m c cX0_walk 9 s args (zWs yX0_walk cX0_walk 9 none) RX0) (hret : zRv g xE 125 p l e (zrm 4 0 0) s m args below meth c 0 0 Q cX0_walk (fun M1 => M1 = r)) (M : zM) (x1 : Int32) (x2 : Int32) (x3 : Int32) (H : Heap) (locs : List Loc) (ls : Array Slot) (h : f_X0_walk M o0 x1 x2 x3 = some r) (hZ : zS g xE 125 s H locs M) (hl : lv_has ls 9 [(0, .ref (g.2.2 o0)), (1, .int x1), (2, .int x2), (3, .int x3)]) : W p l e (zrm 4 0 0) s m args below meth c H locs 0 0 Q (F0 m 0 ls []) := by
  have hx := E.1.1
  have hb := E.1.2.1
  unfold f_X0_walk at h
  refine lv_aload_n hx hb dX0_walk_0 rfl (lv_at hl 0 rfl) ?_
  refine lv_iload_n hx hb dX0_walk_1 rfl (lv_at hl 1 rfl) ?_
  refine lv_iconst (v := 0) hx hb dX0_walk_2 (by decide) ?_
  obtain ⟨u_8, qu_8, h⟩ := zbn_some h
  refine zciR (zrunV E hZ (xb_X9 ho0) ((xe_X9 ho0) _) rfl rfl v_X9_monkCell kw_1050 (c_X9_monkCell l g M o0 ho0 x1 0 qu_8 _) rfl hl.1 rfl (Nat.le_of_ble_eq_true rfl) ⟨by decide, by decide⟩ ⟨by decide, by decide⟩ dX0_walk_3) hZ (fun H locs hZ => ?_)
  refine lv_istore (lv' := [(4, .int u_8), (0, .ref (g.2.2 o0)), (1, .int x1), (2, .int x2), (3, .int x3)]) hx hb dX0_walk_6 hl (by decide) rfl (fun ls hl => ?_)
  refine lv_aload_n hx hb dX0_walk_8 rfl (lv_at hl 1 rfl) ?_
  refine lv_iload_n hx hb dX0_walk_9 rfl (lv_at hl 2 rfl) ?_
  refine lv_iconst (v := 1) hx hb dX0_walk_10 (by decide) ?_
  obtain ⟨u_9, qu_9, h⟩ := zbn_some h
  refine zciR (zrunV E hZ (xb_X9 ho0) ((xe_X9 ho0) _) rfl rfl v_X9_monkCell kw_1050 (c_X9_monkCell l g M o0 ho0 x1 1 qu_9 _) rfl hl.1 rfl (Nat.le_of_ble_eq_true rfl) ⟨by decide, by decide⟩ ⟨by decide, by decide⟩ dX0_walk_11) hZ (fun H locs hZ => ?_)
  refine lv_istore (lv' := [(5, .int u_9), (4, .int u_8), (0, .ref (g.2.2 o0)), (1, .int x1), (2, .int x2), (3, .int x3)]) hx hb dX0_walk_14 hl (by decide) rfl (fun ls hl => ?_)
  refine lv_aload_n hx hb dX0_walk_16 rfl (lv_at hl 2 rfl) ?_
  refine lv_iload_n hx hb dX0_walk_17 rfl (lv_at hl 3 rfl) ?_
  refine lv_iconst (v := 2) hx hb dX0_walk_18 (by decide) ?_
  obtain ⟨u_10, qu_10, h⟩ := zbn_some h
  refine zciR (zrunV E hZ (xb_X9 ho0) ((xe_X9 ho0) _) rfl rfl v_X9_monkCell kw_1050 (c_X9_monkCell l g M o0 ho0 x1 2 qu_10 _) rfl hl.1 rfl (Nat.le_of_ble_eq_true rfl) ⟨by decide, by decide⟩ ⟨by decide, by decide⟩ dX0_walk_19) hZ (fun H locs hZ => ?_)
  refine lv_istore (lv' := [(6, .int u_10), (5, .int u_9), (4, .int u_8), (0, .ref (g.2.2 o0)), (1, .int x1), (2, .int x2), (3, .int x3)]) hx hb dX0_walk_22 hl (by decide) rfl (fun ls hl => ?_)
  refine lv_iconst (v := 0) hx hb dX0_walk_24 (by decide) ?_
  refine lv_istore (lv' := [(7, .int 0), (6, .int u_10), (5, .int u_9), (4, .int u_8), (0, .ref (g.2.2 o0)), (1, .int x1), (2, .int x2), (3, .int x3)]) hx hb dX0_walk_25 hl (by decide) rfl (fun ls hl => ?_)
  exact lb_X0_walk_27 g o0 ho0 E hret M x1 x2 x3 u_9 u_10  6000 u_8 0 H locs ls h hZ (lv_sub hl [4, 5, 6, 7, 3, 2, 1, 0] rfl)
theorem c_X0_walk (l : Launch) (g : zG) (M : zM) (o0 : Nat) (ho0 : xk o0 = 8) (x1 : Int32) (x2 : Int32) (x3 : Int32) {r : zM} (h : f_X0_walk M o0 x1 x2 x3 = some r) : zMv l g xE 125 yX0_walk (zWs yX0_walk cX0_walk 9 none) 4 [.ref (g.2.2 o0), .int x1, .int x2, .int x3] M (fun M1 => M1 = r) :=
  zMv_of (by decide +kernel) (Nat.le_of_ble_eq_true rfl) (fun p e s m args below meth c Q ls E hret hZ hl => w_X0_walk g o0 ho0 E hret M x1 x2 x3 _ _ ls h hZ hl)
theorem v_X0_walk : zYS yX0_walk cX0_walk 9 none 4 := ⟨kw_1049, kw_26, kw_1048, by decide +kernel⟩

def f_X3_tires (M : zM) (k : Nat) (o1 : Nat) (x2 : Int32) (x3 : Int32) : Option (Int32 × zM) :=
  zbn (f_X3_sumOf M k 16 o1 x2 x3) (fun u_1 => some (u_1.1, u_1.2))
set_option maxRecDepth 100000 in
set_option maxHeartbeats 4000000 in
theorem w_X3_tires (g : zG)  (k : Nat) (hk : xk k = 2) (o1 : Nat) (ho1 : xk o1 = 8) {r : Int32 × zM} (E : zX g p m c cX3_tires 4 s args (zWs yX3_tires cX3_tires 4 (some .int)) RX3) (hret : zRi g xE 125 p l e (zrm 6 0 0) s m args below meth c 0 0 Q cX3_tires .int (fun v M1 => r = (v, M1))) (M : zM) (x2 : Int32) (x3 : Int32) (H : Heap) (locs : List Loc) (ls : Array Slot) (h : f_X3_tires M k o1 x2 x3 = some r) (hZ : zS g xE 125 s H locs M) (hl : lv_has ls 4 [(0, .ref (g.2.2 k)), (1, .ref (g.2.2 o1)), (2, .int x2), (3, .int x3)]) : W p l e (zrm 6 0 0) s m args below meth c H locs 0 0 Q (F0 m 0 ls []) := by
  have hx := E.1.1
  have hb := E.1.2.1
  unfold f_X3_tires at h
  refine lv_aload_n hx hb dX3_tires_0 rfl (lv_at hl 0 rfl) ?_
  refine lv_bipush (v := 16) hx hb dX3_tires_1 (by decide) ?_
  refine lv_aload_n hx hb dX3_tires_3 rfl (lv_at hl 1 rfl) ?_
  refine lv_iload_n hx hb dX3_tires_4 rfl (lv_at hl 2 rfl) ?_
  refine lv_iload_n hx hb dX3_tires_5 rfl (lv_at hl 3 rfl) ?_
  obtain ⟨u_1, qu_1, h⟩ := zbn_some h
  refine zciS (zrunV E hZ (xb_X3 hk) ((xe_X3 hk) _) rfl rfl v_X3_sumOf kw_474 (c_X3_sumOf l g M k hk o1 ho1 16 x2 x3 qu_1 _) rfl hl.1 rfl (Nat.le_of_ble_eq_true rfl) ⟨by decide, by decide⟩ ⟨by decide, by decide⟩ dX3_tires_6) hZ (fun H locs hZ => ?_)
  exact hret _ _ _ _ _ _ (Option.some.inj h).symm rfl hZ dX3_tires_9
theorem c_X3_tires (l : Launch) (g : zG) (M : zM) (k : Nat) (hk : xk k = 2) (o1 : Nat) (ho1 : xk o1 = 8) (x2 : Int32) (x3 : Int32) {r : Int32 × zM} (h : f_X3_tires M k o1 x2 x3 = some r) : zMi l g xE 125 yX3_tires (zWs yX3_tires cX3_tires 4 (some .int)) 6 [.ref (g.2.2 k), .ref (g.2.2 o1), .int x2, .int x3] M (fun v M1 => r = (v, M1)) :=
  zMi_of (by decide +kernel) (Nat.le_of_ble_eq_true rfl) (fun p e s m args below meth c Q ls E hret hZ hl => w_X3_tires g k hk o1 ho1 E hret M x2 x3 _ _ ls h hZ hl)
theorem v_X3_tires : zYV yX3_tires cX3_tires 4 (some .int) 3 := ⟨kw_883, kw_4, kw_881, kw_882, by decide +kernel⟩

def b_X0_walkAll_79 (K11 : zM → Int32 → Option (zM)) (o0 : Nat) (o1 : Nat) (M : zM) (x2 : Int32) (x3 : Int32) : Option (zM) :=
  znm (x3 + 1) (fun x3_1 => K11 M x3_1)
set_option maxRecDepth 100000 in
set_option maxHeartbeats 4000000 in
theorem lb_X0_walkAll_79 (g : zG)  (o0 : Nat) (ho0 : xk o0 = 8) (o1 : Nat) (ho1 : xk o1 = 2) {r : zM} (E : zX g p m c cX0_walkAll 5 s args (zWs yX0_walkAll cX0_walkAll 5 none) RX0) (hret : zRv g xE 125 p l e (zrm 7 0 0) s m args below meth c 0 0 Q cX0_walkAll (fun M1 => M1 = r)) (M : zM) (x2 : Int32) (x3 : Int32) (K11 : zM → Int32 → Option (zM)) (hK11 : ∀ (M : zM) (x3 : Int32) (H : Heap) (locs : List Loc) (ls : Array Slot), K11 M x3 = some r → zS g xE 125 s H locs M → lv_has ls 5 [(0, .ref (g.2.2 o0)), (1, .ref (g.2.2 o1)), (2, .int x2), (3, .int x3)] → W p l e (zrm 7 0 0) s m args below meth c H locs 0 0 Q (F0 m 11 ls [])) (H : Heap) (locs : List Loc) (ls : Array Slot) (h : b_X0_walkAll_79 K11 o0 o1 M x2 x3 = some r) (hZ : zS g xE 125 s H locs M) (hl : lv_has ls 5 [(0, .ref (g.2.2 o0)), (1, .ref (g.2.2 o1)), (2, .int x2), (3, .int x3)]) : W p l e (zrm 7 0 0) s m args below meth c H locs 0 0 Q (F0 m 79 ls []) := by
  have hx := E.1.1
  have hb := E.1.2.1
  unfold b_X0_walkAll_79 at h
  obtain ⟨x3_1, ex3_1, h⟩ := znm_ex h
  refine lv_iinc (v := x3_1) (lv' := [(3, .int x3_1), (0, .ref (g.2.2 o0)), (1, .ref (g.2.2 o1)), (2, .int x2)]) hx hb dX0_walkAll_79 hl (k := 3) rfl (by rw [ex3_1]; rfl) (by decide) rfl (fun ls hl => ?_)
  refine lv_goto (tgt := 11) hx hb dX0_walkAll_82 (by decide) ?_
  exact hK11 M x3_1 H locs ls h hZ (lv_sub hl [1, 2, 3, 0] rfl)
def b_X0_walkAll_50 (K11 : zM → Int32 → Option (zM)) (o0 : Nat) (o1 : Nat) (M : zM) (x2 : Int32) (x3 : Int32) : Option (zM) :=
  zbn (f_X9_monkCell M o0 x3 3) (fun u_2 => zbn (f_X3_tires M o1 o0 x3 x2) (fun u_3 => znm (u_2 + u_3.1) (fun x4_4 => znm (if x4_4 < 9 then x4_4 else 9) (fun v_5 => zbn (f_X9_setMonkCell u_3.2 o0 x3 3 v_5) (fun u_6 => b_X0_walkAll_79 K11 o0 o1 u_6 x2 x3)))))
set_option maxRecDepth 100000 in
set_option maxHeartbeats 4000000 in
theorem lb_X0_walkAll_50 (g : zG)  (o0 : Nat) (ho0 : xk o0 = 8) (o1 : Nat) (ho1 : xk o1 = 2) {r : zM} (E : zX g p m c cX0_walkAll 5 s args (zWs yX0_walkAll cX0_walkAll 5 none) RX0) (hret : zRv g xE 125 p l e (zrm 7 0 0) s m args below meth c 0 0 Q cX0_walkAll (fun M1 => M1 = r)) (M : zM) (x2 : Int32) (x3 : Int32) (K11 : zM → Int32 → Option (zM)) (hK11 : ∀ (M : zM) (x3 : Int32) (H : Heap) (locs : List Loc) (ls : Array Slot), K11 M x3 = some r → zS g xE 125 s H locs M → lv_has ls 5 [(0, .ref (g.2.2 o0)), (1, .ref (g.2.2 o1)), (2, .int x2), (3, .int x3)] → W p l e (zrm 7 0 0) s m args below meth c H locs 0 0 Q (F0 m 11 ls [])) (H : Heap) (locs : List Loc) (ls : Array Slot) (h : b_X0_walkAll_50 K11 o0 o1 M x2 x3 = some r) (hZ : zS g xE 125 s H locs M) (hl : lv_has ls 5 [(0, .ref (g.2.2 o0)), (1, .ref (g.2.2 o1)), (2, .int x2), (3, .int x3)]) : W p l e (zrm 7 0 0) s m args below meth c H locs 0 0 Q (F0 m 50 ls []) := by
  have hx := E.1.1
  have hb := E.1.2.1
  unfold b_X0_walkAll_50 at h
  refine lv_aload_n hx hb dX0_walkAll_50 rfl (lv_at hl 0 rfl) ?_
  refine lv_iload_n hx hb dX0_walkAll_51 rfl (lv_at hl 3 rfl) ?_
  refine lv_iconst (v := 3) hx hb dX0_walkAll_52 (by decide) ?_
  obtain ⟨u_2, qu_2, h⟩ := zbn_some h
  refine zciR (zrunV E hZ (xb_X9 ho0) ((xe_X9 ho0) _) rfl rfl v_X9_monkCell kw_1050 (c_X9_monkCell l g M o0 ho0 x3 3 qu_2 _) rfl hl.1 rfl (Nat.le_of_ble_eq_true rfl) ⟨by decide, by decide⟩ ⟨by decide, by decide⟩ dX0_walkAll_53) hZ (fun H locs hZ => ?_)
  refine lv_aload_n hx hb dX0_walkAll_56 rfl (lv_at hl 1 rfl) ?_
  refine lv_aload_n hx hb dX0_walkAll_57 rfl (lv_at hl 0 rfl) ?_
  refine lv_iload_n hx hb dX0_walkAll_58 rfl (lv_at hl 3 rfl) ?_
  refine lv_iload_n hx hb dX0_walkAll_59 rfl (lv_at hl 2 rfl) ?_
  obtain ⟨u_3, qu_3, h⟩ := zbn_some h
  refine zciS (zrunV E hZ (xb_X3 ho1) ((xe_X3 ho1) _) rfl rfl v_X3_tires kw_1053 (c_X3_tires l g M o1 ho1 o0 ho0 x3 x2 qu_3 _) rfl hl.1 rfl (Nat.le_of_ble_eq_true rfl) ⟨by decide, by decide⟩ ⟨by decide, by decide⟩ dX0_walkAll_60) hZ (fun H locs hZ => ?_)
  refine lv_iadd hx hb dX0_walkAll_63 ?_
  refine zni h (fun x4_4 ex4_4 h => ?_)
  refine lv_istore (lv' := [(4, .int x4_4), (0, .ref (g.2.2 o0)), (1, .ref (g.2.2 o1)), (2, .int x2), (3, .int x3)]) hx hb dX0_walkAll_64 hl (by decide) rfl (fun ls hl => ?_)
  refine lv_aload_n hx hb dX0_walkAll_66 rfl (lv_at hl 1 rfl) ?_
  refine lv_iload_n hx hb dX0_walkAll_67 rfl (lv_at hl 4 rfl) ?_
  refine lv_iconst (v := 3) hx hb dX0_walkAll_68 (by decide) ?_
  refine lv_bipush (v := 9) hx hb dX0_walkAll_69 (by decide) ?_
  refine lv_iload hx hb dX0_walkAll_71 (lv_at hl 0 rfl) ?_
  refine va_mmin hx hb (E.1.2.2.1.trans hl.1.symm) E.1.2.2.2.1 (E.w kw_1054) (E.w kw_540) (E.w kw_16) (E.w kw_541) (Nat.le_of_ble_eq_true rfl) (Nat.le_of_ble_eq_true rfl) (Nat.le_of_ble_eq_true rfl) (Nat.le_of_ble_eq_true rfl) dX0_walkAll_73 ?_
  refine zni h (fun v_5 ev_5 h => ?_)
  obtain ⟨u_6, qu_6, h⟩ := zbn_some h
  refine zcvS (zrunV E hZ (xb_X9 ho0) ((xe_X9 ho0) _) rfl rfl v_X9_setMonkCell kw_1052 (c_X9_setMonkCell l g u_3.2 o0 ho0 x3 3 v_5 qu_6 _) rfl hl.1 rfl (Nat.le_of_ble_eq_true rfl) ⟨by decide, by decide⟩ ⟨by decide, by decide⟩ dX0_walkAll_76) hZ (fun H locs hZ => ?_)
  exact lb_X0_walkAll_79 g o0 ho0 o1 ho1 E hret u_6 x2 x3 K11 hK11 H locs ls h hZ (lv_sub hl [1, 2, 3, 4] rfl)
def b_X0_walkAll_11  (o0 : Nat) (o1 : Nat) (x2 : Int32) : Nat → zM → Int32 → Option (zM)
  | 0, _, _ => none
  | n + 1, M, x3 =>
    if (M o0 10) ≤ x3 then (some M) else (zbn (f_X9_isDrowned M o0 x3) (fun u_7 => if u_7 = 0 then (zbn (f_X3_waits M o1 o0 x3 x2) (fun u_8 => if u_8.1 = 0 then (zbn (f_X3_wades u_8.2 o1 o0 x3 x2) (fun u_9 => zbn (f_X0_walk u_9.2 o0 x3 u_9.1 x2) (fun u_10 => b_X0_walkAll_50 (fun M x3 => b_X0_walkAll_11  o0 o1 x2 n M x3) o0 o1 u_10 x2 x3))) else (b_X0_walkAll_50 (fun M x3 => b_X0_walkAll_11  o0 o1 x2 n M x3) o0 o1 u_8.2 x2 x3))) else (b_X0_walkAll_79 (fun M x3 => b_X0_walkAll_11  o0 o1 x2 n M x3) o0 o1 M x2 x3)))
set_option maxRecDepth 100000 in
set_option maxHeartbeats 4000000 in
theorem lb_X0_walkAll_11 (g : zG)  (o0 : Nat) (ho0 : xk o0 = 8) (o1 : Nat) (ho1 : xk o1 = 2) {r : zM} (E : zX g p m c cX0_walkAll 5 s args (zWs yX0_walkAll cX0_walkAll 5 none) RX0) (hret : zRv g xE 125 p l e (zrm 7 0 0) s m args below meth c 0 0 Q cX0_walkAll (fun M1 => M1 = r)) (x2 : Int32)  : ∀ (n : Nat) (M : zM) (x3 : Int32) (H : Heap) (locs : List Loc) (ls : Array Slot), b_X0_walkAll_11  o0 o1 x2 n M x3 = some r → zS g xE 125 s H locs M → lv_has ls 5 [(0, .ref (g.2.2 o0)), (1, .ref (g.2.2 o1)), (2, .int x2), (3, .int x3)] → W p l e (zrm 7 0 0) s m args below meth c H locs 0 0 Q (F0 m 11 ls []) := by
  have hx := E.1.1
  have hb := E.1.2.1
  intro n
  induction n with
  | zero => intro M x3 H locs ls h hZ hl; cases h
  | succ n ih =>
    intro M x3 H locs ls h hZ hl
    rw [b_X0_walkAll_11] at h
    refine lv_iload_n hx hb dX0_walkAll_11 rfl (lv_at hl 3 rfl) ?_
    refine lv_aload_n hx hb dX0_walkAll_12 rfl (lv_at hl 0 rfl) ?_
    refine zg (v := .int (M o0 10)) E hZ (xb_X9 ho0) ((xe_X9 ho0) _) kc_X9 10 (by decide) kw_93 rfl rfl dX0_walkAll_13 ?_
    refine zic_ge (tgt := 85) h E dX0_walkAll_16 (by decide) (fun c_13 h => ?_) (fun c_13 h => ?_)
    · exact hret _ _ _ _ _ (Option.some.inj h) hZ dX0_walkAll_85
    · refine lv_aload_n hx hb dX0_walkAll_19 rfl (lv_at hl 0 rfl) ?_
      refine lv_iload_n hx hb dX0_walkAll_20 rfl (lv_at hl 3 rfl) ?_
      obtain ⟨u_7, qu_7, h⟩ := zbn_some h
      refine zciR (zrunV E hZ (xb_X9 ho0) ((xe_X9 ho0) _) rfl rfl v_X9_isDrowned kw_1044 (c_X9_isDrowned l g M o0 ho0 x3 qu_7 _) rfl hl.1 rfl (Nat.le_of_ble_eq_true rfl) ⟨by decide, by decide⟩ ⟨by decide, by decide⟩ dX0_walkAll_21) hZ (fun H locs hZ => ?_)
      refine zif_ne (tgt := 79) h E dX0_walkAll_24 (by decide) (fun c_12 h => ?_) (fun c_12 h => ?_)
      · exact lb_X0_walkAll_79 g o0 ho0 o1 ho1 E hret M x2 x3 (fun M x3 => b_X0_walkAll_11  o0 o1 x2 n M x3) ih H locs ls h hZ (lv_sub hl [0, 1, 2, 3] rfl)
      · refine lv_aload_n hx hb dX0_walkAll_27 rfl (lv_at hl 1 rfl) ?_
        refine lv_aload_n hx hb dX0_walkAll_28 rfl (lv_at hl 0 rfl) ?_
        refine lv_iload_n hx hb dX0_walkAll_29 rfl (lv_at hl 3 rfl) ?_
        refine lv_iload_n hx hb dX0_walkAll_30 rfl (lv_at hl 2 rfl) ?_
        obtain ⟨u_8, qu_8, h⟩ := zbn_some h
        refine zciS (zrunV E hZ (xb_X3 ho1) ((xe_X3 ho1) _) rfl rfl v_X3_waits kw_1045 (c_X3_waits l g M o1 ho1 o0 ho0 x3 x2 qu_8 _) rfl hl.1 rfl (Nat.le_of_ble_eq_true rfl) ⟨by decide, by decide⟩ ⟨by decide, by decide⟩ dX0_walkAll_31) hZ (fun H locs hZ => ?_)
        refine zif_ne (tgt := 50) h E dX0_walkAll_34 (by decide) (fun c_11 h => ?_) (fun c_11 h => ?_)
        · exact lb_X0_walkAll_50 g o0 ho0 o1 ho1 E hret u_8.2 x2 x3 (fun M x3 => b_X0_walkAll_11  o0 o1 x2 n M x3) ih H locs ls h hZ (lv_sub hl [0, 1, 2, 3] rfl)
        · refine lv_aload_n hx hb dX0_walkAll_37 rfl (lv_at hl 0 rfl) ?_
          refine lv_iload_n hx hb dX0_walkAll_38 rfl (lv_at hl 3 rfl) ?_
          refine lv_aload_n hx hb dX0_walkAll_39 rfl (lv_at hl 1 rfl) ?_
          refine lv_aload_n hx hb dX0_walkAll_40 rfl (lv_at hl 0 rfl) ?_
          refine lv_iload_n hx hb dX0_walkAll_41 rfl (lv_at hl 3 rfl) ?_
          refine lv_iload_n hx hb dX0_walkAll_42 rfl (lv_at hl 2 rfl) ?_
          obtain ⟨u_9, qu_9, h⟩ := zbn_some h
          refine zciS (zrunV E hZ (xb_X3 ho1) ((xe_X3 ho1) _) rfl rfl v_X3_wades kw_1046 (c_X3_wades l g u_8.2 o1 ho1 o0 ho0 x3 x2 qu_9 _) rfl hl.1 rfl (Nat.le_of_ble_eq_true rfl) ⟨by decide, by decide⟩ ⟨by decide, by decide⟩ dX0_walkAll_43) hZ (fun H locs hZ => ?_)
          refine lv_iload_n hx hb dX0_walkAll_46 rfl (lv_at hl 2 rfl) ?_
          obtain ⟨u_10, qu_10, h⟩ := zbn_some h
          refine zcvS (zrunS E hZ v_X0_walk kw_1047 (c_X0_walk l g u_9.2 o0 ho0 x3 u_9.1 x2 qu_10 _) rfl hl.1 rfl (Nat.le_of_ble_eq_true rfl) ⟨by decide, by decide⟩ ⟨by decide, by decide⟩ dX0_walkAll_47) hZ (fun H locs hZ => ?_)
          exact lb_X0_walkAll_50 g o0 ho0 o1 ho1 E hret u_10 x2 x3 (fun M x3 => b_X0_walkAll_11  o0 o1 x2 n M x3) ih H locs ls h hZ (lv_sub hl [0, 1, 2, 3] rfl)
def f_X0_walkAll (M : zM) (o0 : Nat) (o1 : Nat) : Option (zM) :=
  zbn (f_X9_waterIn M o0 (M o0 0)) (fun u_14 => b_X0_walkAll_11  o0 o1 u_14 6000 M 0)
set_option maxRecDepth 100000 in
set_option maxHeartbeats 4000000 in
theorem w_X0_walkAll (g : zG)  (o0 : Nat) (ho0 : xk o0 = 8) (o1 : Nat) (ho1 : xk o1 = 2) {r : zM} (E : zX g p m c cX0_walkAll 5 s args (zWs yX0_walkAll cX0_walkAll 5 none) RX0) (hret : zRv g xE 125 p l e (zrm 7 0 0) s m args below meth c 0 0 Q cX0_walkAll (fun M1 => M1 = r)) (M : zM)  (H : Heap) (locs : List Loc) (ls : Array Slot) (h : f_X0_walkAll M o0 o1 = some r) (hZ : zS g xE 125 s H locs M) (hl : lv_has ls 5 [(0, .ref (g.2.2 o0)), (1, .ref (g.2.2 o1))]) : W p l e (zrm 7 0 0) s m args below meth c H locs 0 0 Q (F0 m 0 ls []) := by
  have hx := E.1.1
  have hb := E.1.2.1
  unfold f_X0_walkAll at h
  refine lv_aload_n hx hb dX0_walkAll_0 rfl (lv_at hl 0 rfl) ?_
  refine lv_aload_n hx hb dX0_walkAll_1 rfl (lv_at hl 0 rfl) ?_
  refine zg (v := .int (M o0 0)) E hZ (xb_X9 ho0) ((xe_X9 ho0) _) kc_X9 0 (by decide) kw_61 rfl rfl dX0_walkAll_2 ?_
  obtain ⟨u_14, qu_14, h⟩ := zbn_some h
  refine zciR (zrunV E hZ (xb_X9 ho0) ((xe_X9 ho0) _) rfl rfl v_X9_waterIn kw_1043 (c_X9_waterIn l g M o0 ho0 (M o0 0) qu_14 _) rfl hl.1 rfl (Nat.le_of_ble_eq_true rfl) ⟨by decide, by decide⟩ ⟨by decide, by decide⟩ dX0_walkAll_5) hZ (fun H locs hZ => ?_)
  refine lv_istore_n (lv' := [(2, .int u_14), (0, .ref (g.2.2 o0)), (1, .ref (g.2.2 o1))]) hx hb dX0_walkAll_8 rfl hl (by decide) rfl (fun ls hl => ?_)
  refine lv_iconst (v := 0) hx hb dX0_walkAll_9 (by decide) ?_
  refine lv_istore_n (lv' := [(3, .int 0), (2, .int u_14), (0, .ref (g.2.2 o0)), (1, .ref (g.2.2 o1))]) hx hb dX0_walkAll_10 rfl hl (by decide) rfl (fun ls hl => ?_)
  exact lb_X0_walkAll_11 g o0 ho0 o1 ho1 E hret u_14  6000 M 0 H locs ls h hZ (lv_sub hl [2, 3, 1, 0] rfl)
theorem c_X0_walkAll (l : Launch) (g : zG) (M : zM) (o0 : Nat) (ho0 : xk o0 = 8) (o1 : Nat) (ho1 : xk o1 = 2)  {r : zM} (h : f_X0_walkAll M o0 o1 = some r) : zMv l g xE 125 yX0_walkAll (zWs yX0_walkAll cX0_walkAll 5 none) 7 [.ref (g.2.2 o0), .ref (g.2.2 o1)] M (fun M1 => M1 = r) :=
  zMv_of (by decide +kernel) (Nat.le_of_ble_eq_true rfl) (fun p e s m args below meth c Q ls E hret hZ hl => w_X0_walkAll g o0 ho0 o1 ho1 E hret M  _ _ ls h hZ hl)
theorem v_X0_walkAll : zYS yX0_walkAll cX0_walkAll 5 none 2 := ⟨kw_1042, kw_26, kw_1041, by decide +kernel⟩

def f_X9_dutyCell (M : zM) (k : Nat) (x1 : Int32) (x2 : Int32) : Option (Int32) :=
  zbn (f_X10_at M (k + 4) ((x1 * 3) + x2)) (fun u_1 => some u_1)
set_option maxRecDepth 100000 in
set_option maxHeartbeats 4000000 in
theorem w_X9_dutyCell (g : zG)  (k : Nat) (hk : xk k = 8) {r : Int32} {M0 : zM} (E : zX g p m c cX9_dutyCell 3 s args (zWs yX9_dutyCell cX9_dutyCell 3 (some .int)) RX9) (hret : zRi g xE 125 p l e (zrm 3 0 0) s m args below meth c 0 0 Q cX9_dutyCell .int (fun v M1 => v = r ∧ M1 = M0)) (M : zM) (hM : M = M0) (x1 : Int32) (x2 : Int32) (H : Heap) (locs : List Loc) (ls : Array Slot) (h : f_X9_dutyCell M k x1 x2 = some r) (hZ : zS g xE 125 s H locs M) (hl : lv_has ls 3 [(0, .ref (g.2.2 k)), (1, .int x1), (2, .int x2)]) : W p l e (zrm 3 0 0) s m args below meth c H locs 0 0 Q (F0 m 0 ls []) := by
  have hx := E.1.1
  have hb := E.1.2.1
  unfold f_X9_dutyCell at h
  refine lv_aload_n hx hb dX9_dutyCell_0 rfl (lv_at hl 0 rfl) ?_
  refine zg (v := .ref (g.2.2 (k + 4))) E hZ (xb_X9 hk) ((xe_X9 hk) _) kc_X9 18 (by decide) kw_118 rfl rfl dX9_dutyCell_1 ?_
  refine lv_iload_n hx hb dX9_dutyCell_4 rfl (lv_at hl 1 rfl) ?_
  refine lv_iconst (v := 3) hx hb dX9_dutyCell_5 (by decide) ?_
  refine lv_imul hx hb dX9_dutyCell_6 ?_
  refine lv_iload_n hx hb dX9_dutyCell_7 rfl (lv_at hl 2 rfl) ?_
  refine lv_iadd hx hb dX9_dutyCell_8 ?_
  obtain ⟨u_1, qu_1, h⟩ := zbn_some h
  refine zciR (zrunSN E hZ v_X10_at kw_425 (c_X10_at l g M (k + 4) (xc_X9_dutyCells hk).1 ((x1 * 3) + x2) qu_1 _) rfl hl.1 rfl (Nat.le_of_ble_eq_true rfl) ⟨by decide, by decide⟩ ⟨by decide, by decide⟩ dX9_dutyCell_9) hZ (fun H locs hZ => ?_)
  exact hret _ _ _ _ _ _ ⟨Option.some.inj h, hM⟩ rfl hZ dX9_dutyCell_12
theorem c_X9_dutyCell (l : Launch) (g : zG) (M : zM) (k : Nat) (hk : xk k = 8) (x1 : Int32) (x2 : Int32) {r : Int32} (h : f_X9_dutyCell M k x1 x2 = some r) : zMi l g xE 125 yX9_dutyCell (zWs yX9_dutyCell cX9_dutyCell 3 (some .int)) 3 [.ref (g.2.2 k), .int x1, .int x2] M (fun v M1 => v = r ∧ M1 = M) :=
  zMi_of (by decide +kernel) (Nat.le_of_ble_eq_true rfl) (fun p e s m args below meth c Q ls E hret hZ hl => w_X9_dutyCell g k hk E hret M rfl x1 x2 _ _ ls h hZ hl)
theorem v_X9_dutyCell : zYV yX9_dutyCell cX9_dutyCell 3 (some .int) 2 := ⟨kw_515, kw_3, kw_513, kw_514, by decide +kernel⟩

def f_X9_isKept (M : zM) (k : Nat) (x1 : Int32) : Option (Int32) :=
  zbn (f_X10_has M (M k 13) x1) (fun u_1 => zck (zbl u_1) (some u_1))
set_option maxRecDepth 100000 in
set_option maxHeartbeats 4000000 in
theorem w_X9_isKept (g : zG)  (k : Nat) (hk : xk k = 8) {r : Int32} {M0 : zM} (E : zX g p m c cX9_isKept 2 s args (zWs yX9_isKept cX9_isKept 2 (some .boolean)) RX9) (hret : zRi g xE 125 p l e (zrm 3 0 0) s m args below meth c 0 0 Q cX9_isKept .boolean (fun v M1 => v = r ∧ M1 = M0)) (M : zM) (hM : M = M0) (x1 : Int32) (H : Heap) (locs : List Loc) (ls : Array Slot) (h : f_X9_isKept M k x1 = some r) (hZ : zS g xE 125 s H locs M) (hl : lv_has ls 2 [(0, .ref (g.2.2 k)), (1, .int x1)]) : W p l e (zrm 3 0 0) s m args below meth c H locs 0 0 Q (F0 m 0 ls []) := by
  have hx := E.1.1
  have hb := E.1.2.1
  unfold f_X9_isKept at h
  refine lv_aload_n hx hb dX9_isKept_0 rfl (lv_at hl 0 rfl) ?_
  refine zg (v := .int (M k 13)) E hZ (xb_X9 hk) ((xe_X9 hk) _) kc_X9 13 (by decide) kw_105 rfl rfl dX9_isKept_1 ?_
  refine lv_iload_n hx hb dX9_isKept_4 rfl (lv_at hl 1 rfl) ?_
  obtain ⟨u_1, qu_1, h⟩ := zbn_some h
  refine zciR (zrunSN E hZ v_X10_has kw_463 (c_X10_has l g M  (M k 13) x1 qu_1 _) rfl hl.1 rfl (Nat.le_of_ble_eq_true rfl) ⟨by decide, by decide⟩ ⟨by decide, by decide⟩ dX9_isKept_5) hZ (fun H locs hZ => ?_)
  obtain ⟨hbl, h⟩ := zck_some h
  exact hret _ _ _ _ _ _ ⟨Option.some.inj h, hM⟩ (zbl_n hbl) hZ dX9_isKept_8
theorem c_X9_isKept (l : Launch) (g : zG) (M : zM) (k : Nat) (hk : xk k = 8) (x1 : Int32) {r : Int32} (h : f_X9_isKept M k x1 = some r) : zMi l g xE 125 yX9_isKept (zWs yX9_isKept cX9_isKept 2 (some .boolean)) 3 [.ref (g.2.2 k), .int x1] M (fun v M1 => v = r ∧ M1 = M) :=
  zMi_of (by decide +kernel) (Nat.le_of_ble_eq_true rfl) (fun p e s m args below meth c Q ls E hret hZ hl => w_X9_isKept g k hk E hret M rfl x1 _ _ ls h hZ hl)
theorem v_X9_isKept : zYV yX9_isKept cX9_isKept 2 (some .boolean) 1 := ⟨kw_511, kw_3, kw_509, kw_510, by decide +kernel⟩

def f_X9_addRow (M : zM) (k : Nat) (x1 : Int32) (x2 : Int32) (x3 : Int32) (x4 : Int32) : Option (zM) :=
  zck (decide (¬ (60 : Int32) = 0)) (zbn (f_X10_put M (k + 5) ((M k 14) - (M k 14) / 60 * 60) (((x1 ||| (x2 <<< ((14 : Int32) &&& 31))) ||| (x3 <<< ((17 : Int32) &&& 31))) ||| (x4 <<< ((18 : Int32) &&& 31)))) (fun u_1 => znm (zu u_1 k 14 ((u_1 k 14) + 1)) (fun M_2 => some M_2)))
set_option maxRecDepth 100000 in
set_option maxHeartbeats 4000000 in
theorem w_X9_addRow (g : zG)  (k : Nat) (hk : xk k = 8) {r : zM} (E : zX g p m c cX9_addRow 5 s args (zWs yX9_addRow cX9_addRow 5 none) RX9) (hret : zRv g xE 125 p l e (zrm 3 0 0) s m args below meth c 0 0 Q cX9_addRow (fun M1 => M1 = r)) (M : zM) (x1 : Int32) (x2 : Int32) (x3 : Int32) (x4 : Int32) (H : Heap) (locs : List Loc) (ls : Array Slot) (h : f_X9_addRow M k x1 x2 x3 x4 = some r) (hZ : zS g xE 125 s H locs M) (hl : lv_has ls 5 [(0, .ref (g.2.2 k)), (1, .int x1), (2, .int x2), (3, .int x3), (4, .int x4)]) : W p l e (zrm 3 0 0) s m args below meth c H locs 0 0 Q (F0 m 0 ls []) := by
  have hx := E.1.1
  have hb := E.1.2.1
  unfold f_X9_addRow at h
  refine lv_aload_n hx hb dX9_addRow_0 rfl (lv_at hl 0 rfl) ?_
  refine zg (v := .ref (g.2.2 (k + 5))) E hZ (xb_X9 hk) ((xe_X9 hk) _) kc_X9 19 (by decide) kw_119 rfl rfl dX9_addRow_1 ?_
  refine lv_aload_n hx hb dX9_addRow_4 rfl (lv_at hl 0 rfl) ?_
  refine zg (v := .int (M k 14)) E hZ (xb_X9 hk) ((xe_X9 hk) _) kc_X9 14 (by decide) kw_109 rfl rfl dX9_addRow_5 ?_
  refine lv_bipush (v := 60) hx hb dX9_addRow_8 (by decide) ?_
  refine zrem h E dX9_addRow_10 (fun h => ?_)
  refine lv_iload_n hx hb dX9_addRow_11 rfl (lv_at hl 1 rfl) ?_
  refine lv_iload_n hx hb dX9_addRow_12 rfl (lv_at hl 2 rfl) ?_
  refine lv_bipush (v := 14) hx hb dX9_addRow_13 (by decide) ?_
  refine lv_ishl hx hb dX9_addRow_15 ?_
  refine lv_ior hx hb dX9_addRow_16 ?_
  refine lv_iload_n hx hb dX9_addRow_17 rfl (lv_at hl 3 rfl) ?_
  refine lv_bipush (v := 17) hx hb dX9_addRow_18 (by decide) ?_
  refine lv_ishl hx hb dX9_addRow_20 ?_
  refine lv_ior hx hb dX9_addRow_21 ?_
  refine lv_iload hx hb dX9_addRow_22 (lv_at hl 4 rfl) ?_
  refine lv_bipush (v := 18) hx hb dX9_addRow_24 (by decide) ?_
  refine lv_ishl hx hb dX9_addRow_26 ?_
  refine lv_ior hx hb dX9_addRow_27 ?_
  obtain ⟨u_1, qu_1, h⟩ := zbn_some h
  refine zcvS (zrunSN E hZ v_X10_put kw_673 (c_X10_put l g M (k + 5) (xc_X9_logRows hk).1 ((M k 14) - (M k 14) / 60 * 60) (((x1 ||| (x2 <<< ((14 : Int32) &&& 31))) ||| (x3 <<< ((17 : Int32) &&& 31))) ||| (x4 <<< ((18 : Int32) &&& 31))) qu_1 _) rfl hl.1 rfl (Nat.le_of_ble_eq_true rfl) ⟨by decide, by decide⟩ ⟨by decide, by decide⟩ dX9_addRow_28) hZ (fun H locs hZ => ?_)
  refine lv_aload_n hx hb dX9_addRow_31 rfl (lv_at hl 0 rfl) ?_
  refine lv_dup hx hb dX9_addRow_32 rfl ?_
  refine zg (v := .int (u_1 k 14)) E hZ (xb_X9 hk) ((xe_X9 hk) _) kc_X9 14 (by decide) kw_109 rfl rfl dX9_addRow_33 ?_
  refine lv_iconst (v := 1) hx hb dX9_addRow_36 (by decide) ?_
  refine lv_iadd hx hb dX9_addRow_37 ?_
  refine zp h E hZ (xb_X9 hk) ((xe_X9 hk) _) (((xe_X9 hk) _).trans (congrArg (fun z => Sum.inr (8, z)) (fs_X9_14 g _ _ _))) kc_X9 (by decide) kw_109 rfl rfl rfl (Nat.le_of_ble_eq_true rfl) dX9_addRow_38 (fun M_2 H locs eM_2 h hZ => ?_)
  exact hret _ _ _ _ _ (Option.some.inj h) hZ dX9_addRow_41
theorem c_X9_addRow (l : Launch) (g : zG) (M : zM) (k : Nat) (hk : xk k = 8) (x1 : Int32) (x2 : Int32) (x3 : Int32) (x4 : Int32) {r : zM} (h : f_X9_addRow M k x1 x2 x3 x4 = some r) : zMv l g xE 125 yX9_addRow (zWs yX9_addRow cX9_addRow 5 none) 3 [.ref (g.2.2 k), .int x1, .int x2, .int x3, .int x4] M (fun M1 => M1 = r) :=
  zMv_of (by decide +kernel) (Nat.le_of_ble_eq_true rfl) (fun p e s m args below meth c Q ls E hret hZ hl => w_X9_addRow g k hk E hret M x1 x2 x3 x4 _ _ ls h hZ hl)
theorem v_X9_addRow : zYV yX9_addRow cX9_addRow 5 none 4 := ⟨kw_1064, kw_3, kw_1062, kw_1063, by decide +kernel⟩

def b_X0_keepAll_131 (K39 : zM → Int32 → Option (zM)) (o0 : Nat) (M : zM) (x1 : Int32) (x2 : Int32) : Option (zM) :=
  znm (x2 + 1) (fun x2_1 => K39 M x2_1)
set_option maxRecDepth 100000 in
set_option maxHeartbeats 4000000 in
theorem lb_X0_keepAll_131 (g : zG)  (o0 : Nat) (ho0 : xk o0 = 8) {r : zM} (E : zX g p m c cX0_keepAll 5 s args (zWs yX0_keepAll cX0_keepAll 5 none) RX0) (hret : zRv g xE 125 p l e (zrm 4 0 0) s m args below meth c 0 0 Q cX0_keepAll (fun M1 => M1 = r)) (M : zM) (x1 : Int32) (x2 : Int32) (K39 : zM → Int32 → Option (zM)) (hK39 : ∀ (M : zM) (x2 : Int32) (H : Heap) (locs : List Loc) (ls : Array Slot), K39 M x2 = some r → zS g xE 125 s H locs M → lv_has ls 5 [(0, .ref (g.2.2 o0)), (1, .int x1), (2, .int x2)] → W p l e (zrm 4 0 0) s m args below meth c H locs 0 0 Q (F0 m 39 ls [])) (H : Heap) (locs : List Loc) (ls : Array Slot) (h : b_X0_keepAll_131 K39 o0 M x1 x2 = some r) (hZ : zS g xE 125 s H locs M) (hl : lv_has ls 5 [(0, .ref (g.2.2 o0)), (1, .int x1), (2, .int x2)]) : W p l e (zrm 4 0 0) s m args below meth c H locs 0 0 Q (F0 m 131 ls []) := by
  have hx := E.1.1
  have hb := E.1.2.1
  unfold b_X0_keepAll_131 at h
  obtain ⟨x2_1, ex2_1, h⟩ := znm_ex h
  refine lv_iinc (v := x2_1) (lv' := [(2, .int x2_1), (0, .ref (g.2.2 o0)), (1, .int x1)]) hx hb dX0_keepAll_131 hl (k := 2) rfl (by rw [ex2_1]; rfl) (by decide) rfl (fun ls hl => ?_)
  refine lv_goto (tgt := 39) hx hb dX0_keepAll_134 (by decide) ?_
  exact hK39 M x2_1 H locs ls h hZ (lv_sub hl [1, 2, 0] rfl)
def b_X0_keepAll_85 (K39 : zM → Int32 → Option (zM)) (o0 : Nat) (M : zM) (x1 : Int32) (x2 : Int32) (x3 : Int32) (t0 : Int32) : Option (zM) :=
  if t0 = 0 then (b_X0_keepAll_131 K39 o0 M x1 x2) else (zbn (f_X9_isKept M o0 x2) (fun u_2 => if u_2 = 0 then (zbn (f_X10_has M x1 x3) (fun u_3 => if u_3 = 0 then (b_X0_keepAll_131 K39 o0 M x1 x2) else (znm (zu M o0 13 ((M o0 13) ||| ((1 : Int32) <<< (x2 &&& 31)))) (fun M_4 => zbn (f_X9_addRow M_4 o0 (M_4 o0 0) x2 0 x3) (fun u_5 => b_X0_keepAll_131 K39 o0 u_5 x1 x2))))) else (b_X0_keepAll_131 K39 o0 M x1 x2)))
set_option maxRecDepth 100000 in
set_option maxHeartbeats 4000000 in
theorem lb_X0_keepAll_85 (g : zG)  (o0 : Nat) (ho0 : xk o0 = 8) {r : zM} (E : zX g p m c cX0_keepAll 5 s args (zWs yX0_keepAll cX0_keepAll 5 none) RX0) (hret : zRv g xE 125 p l e (zrm 4 0 0) s m args below meth c 0 0 Q cX0_keepAll (fun M1 => M1 = r)) (M : zM) (x1 : Int32) (x2 : Int32) (x3 : Int32) (t0 : Int32) (K39 : zM → Int32 → Option (zM)) (hK39 : ∀ (M : zM) (x2 : Int32) (H : Heap) (locs : List Loc) (ls : Array Slot), K39 M x2 = some r → zS g xE 125 s H locs M → lv_has ls 5 [(0, .ref (g.2.2 o0)), (1, .int x1), (2, .int x2)] → W p l e (zrm 4 0 0) s m args below meth c H locs 0 0 Q (F0 m 39 ls [])) (H : Heap) (locs : List Loc) (ls : Array Slot) (h : b_X0_keepAll_85 K39 o0 M x1 x2 x3 t0 = some r) (hZ : zS g xE 125 s H locs M) (hl : lv_has ls 5 [(0, .ref (g.2.2 o0)), (1, .int x1), (2, .int x2), (3, .int x3)]) : W p l e (zrm 4 0 0) s m args below meth c H locs 0 0 Q (F0 m 85 ls [.int t0]) := by
  have hx := E.1.1
  have hb := E.1.2.1
  unfold b_X0_keepAll_85 at h
  refine lv_istore (lv' := [(4, .int t0), (0, .ref (g.2.2 o0)), (1, .int x1), (2, .int x2), (3, .int x3)]) hx hb dX0_keepAll_85 hl (by decide) rfl (fun ls hl => ?_)
  refine lv_iload hx hb dX0_keepAll_87 (lv_at hl 0 rfl) ?_
  refine zif_eq (tgt := 131) h E dX0_keepAll_89 (by decide) (fun c_8 h => ?_) (fun c_8 h => ?_)
  · exact lb_X0_keepAll_131 g o0 ho0 E hret M x1 x2 K39 hK39 H locs ls h hZ (lv_sub hl [1, 2, 3] rfl)
  · refine lv_aload_n hx hb dX0_keepAll_92 rfl (lv_at hl 1 rfl) ?_
    refine lv_iload_n hx hb dX0_keepAll_93 rfl (lv_at hl 3 rfl) ?_
    obtain ⟨u_2, qu_2, h⟩ := zbn_some h
    refine zciR (zrunV E hZ (xb_X9 ho0) ((xe_X9 ho0) _) rfl rfl v_X9_isKept kw_1059 (c_X9_isKept l g M o0 ho0 x2 qu_2 _) rfl hl.1 rfl (Nat.le_of_ble_eq_true rfl) ⟨by decide, by decide⟩ ⟨by decide, by decide⟩ dX0_keepAll_94) hZ (fun H locs hZ => ?_)
    refine zif_ne (tgt := 131) h E dX0_keepAll_97 (by decide) (fun c_7 h => ?_) (fun c_7 h => ?_)
    · exact lb_X0_keepAll_131 g o0 ho0 E hret M x1 x2 K39 hK39 H locs ls h hZ (lv_sub hl [1, 2, 3] rfl)
    · refine lv_iload_n hx hb dX0_keepAll_100 rfl (lv_at hl 2 rfl) ?_
      refine lv_iload_n hx hb dX0_keepAll_101 rfl (lv_at hl 4 rfl) ?_
      obtain ⟨u_3, qu_3, h⟩ := zbn_some h
      refine zciR (zrunSN E hZ v_X10_has kw_1060 (c_X10_has l g M  x1 x3 qu_3 _) rfl hl.1 rfl (Nat.le_of_ble_eq_true rfl) ⟨by decide, by decide⟩ ⟨by decide, by decide⟩ dX0_keepAll_102) hZ (fun H locs hZ => ?_)
      refine zif_eq (tgt := 131) h E dX0_keepAll_105 (by decide) (fun c_6 h => ?_) (fun c_6 h => ?_)
      · exact lb_X0_keepAll_131 g o0 ho0 E hret M x1 x2 K39 hK39 H locs ls h hZ (lv_sub hl [1, 2, 3] rfl)
      · refine lv_aload_n hx hb dX0_keepAll_108 rfl (lv_at hl 1 rfl) ?_
        refine lv_dup hx hb dX0_keepAll_109 rfl ?_
        refine zg (v := .int (M o0 13)) E hZ (xb_X9 ho0) ((xe_X9 ho0) _) kc_X9 13 (by decide) kw_106 rfl rfl dX0_keepAll_110 ?_
        refine lv_iconst (v := 1) hx hb dX0_keepAll_113 (by decide) ?_
        refine lv_iload_n hx hb dX0_keepAll_114 rfl (lv_at hl 3 rfl) ?_
        refine lv_ishl hx hb dX0_keepAll_115 ?_
        refine lv_ior hx hb dX0_keepAll_116 ?_
        refine zp h E hZ (xb_X9 ho0) ((xe_X9 ho0) _) (((xe_X9 ho0) _).trans (congrArg (fun z => Sum.inr (8, z)) (fs_X9_13 g _ _ _))) kc_X9 (by decide) kw_106 rfl rfl rfl (Nat.le_of_ble_eq_true rfl) dX0_keepAll_117 (fun M_4 H locs eM_4 h hZ => ?_)
        refine lv_aload_n hx hb dX0_keepAll_120 rfl (lv_at hl 1 rfl) ?_
        refine lv_aload_n hx hb dX0_keepAll_121 rfl (lv_at hl 1 rfl) ?_
        refine zg (v := .int (M_4 o0 0)) E hZ (xb_X9 ho0) ((xe_X9 ho0) _) kc_X9 0 (by decide) kw_61 rfl rfl dX0_keepAll_122 ?_
        refine lv_iload_n hx hb dX0_keepAll_125 rfl (lv_at hl 3 rfl) ?_
        refine lv_iconst (v := 0) hx hb dX0_keepAll_126 (by decide) ?_
        refine lv_iload_n hx hb dX0_keepAll_127 rfl (lv_at hl 4 rfl) ?_
        obtain ⟨u_5, qu_5, h⟩ := zbn_some h
        refine zcvS (zrunV E hZ (xb_X9 ho0) ((xe_X9 ho0) _) rfl rfl v_X9_addRow kw_1061 (c_X9_addRow l g M_4 o0 ho0 (M_4 o0 0) x2 0 x3 qu_5 _) rfl hl.1 rfl (Nat.le_of_ble_eq_true rfl) ⟨by decide, by decide⟩ ⟨by decide, by decide⟩ dX0_keepAll_128) hZ (fun H locs hZ => ?_)
        exact lb_X0_keepAll_131 g o0 ho0 E hret u_5 x1 x2 K39 hK39 H locs ls h hZ (lv_sub hl [1, 2, 3] rfl)
def b_X0_keepAll_84 (K39 : zM → Int32 → Option (zM)) (o0 : Nat) (M : zM) (x1 : Int32) (x2 : Int32) (x3 : Int32) : Option (zM) :=
  b_X0_keepAll_85 K39 o0 M x1 x2 x3 0
set_option maxRecDepth 100000 in
set_option maxHeartbeats 4000000 in
theorem lb_X0_keepAll_84 (g : zG)  (o0 : Nat) (ho0 : xk o0 = 8) {r : zM} (E : zX g p m c cX0_keepAll 5 s args (zWs yX0_keepAll cX0_keepAll 5 none) RX0) (hret : zRv g xE 125 p l e (zrm 4 0 0) s m args below meth c 0 0 Q cX0_keepAll (fun M1 => M1 = r)) (M : zM) (x1 : Int32) (x2 : Int32) (x3 : Int32) (K39 : zM → Int32 → Option (zM)) (hK39 : ∀ (M : zM) (x2 : Int32) (H : Heap) (locs : List Loc) (ls : Array Slot), K39 M x2 = some r → zS g xE 125 s H locs M → lv_has ls 5 [(0, .ref (g.2.2 o0)), (1, .int x1), (2, .int x2)] → W p l e (zrm 4 0 0) s m args below meth c H locs 0 0 Q (F0 m 39 ls [])) (H : Heap) (locs : List Loc) (ls : Array Slot) (h : b_X0_keepAll_84 K39 o0 M x1 x2 x3 = some r) (hZ : zS g xE 125 s H locs M) (hl : lv_has ls 5 [(0, .ref (g.2.2 o0)), (1, .int x1), (2, .int x2), (3, .int x3)]) : W p l e (zrm 4 0 0) s m args below meth c H locs 0 0 Q (F0 m 84 ls []) := by
  have hx := E.1.1
  have hb := E.1.2.1
  unfold b_X0_keepAll_84 at h
  refine lv_iconst (v := 0) hx hb dX0_keepAll_84 (by decide) ?_
  exact lb_X0_keepAll_85 g o0 ho0 E hret M x1 x2 x3 0 K39 hK39 H locs ls h hZ (lv_sub hl [0, 1, 2, 3] rfl)
def b_X0_keepAll_39  (o0 : Nat) (x1 : Int32) : Nat → zM → Int32 → Option (zM)
  | 0, _, _ => none
  | n + 1, M, x2 =>
    if (M o0 11) ≤ x2 then (some M) else (zbn (f_X9_dutyCell M o0 x2 0) (fun u_9 => zbn (f_X9_dutyCell M o0 x2 1) (fun u_10 => if (M o0 0) < u_10 then (b_X0_keepAll_84 (fun M x2 => b_X0_keepAll_39  o0 x1 n M x2) o0 M x1 x2 u_9) else (zbn (f_X9_dutyCell M o0 x2 2) (fun u_11 => if u_11 < (M o0 0) then (b_X0_keepAll_84 (fun M x2 => b_X0_keepAll_39  o0 x1 n M x2) o0 M x1 x2 u_9) else (b_X0_keepAll_85 (fun M x2 => b_X0_keepAll_39  o0 x1 n M x2) o0 M x1 x2 u_9 1))))))
set_option maxRecDepth 100000 in
set_option maxHeartbeats 4000000 in
theorem lb_X0_keepAll_39 (g : zG)  (o0 : Nat) (ho0 : xk o0 = 8) {r : zM} (E : zX g p m c cX0_keepAll 5 s args (zWs yX0_keepAll cX0_keepAll 5 none) RX0) (hret : zRv g xE 125 p l e (zrm 4 0 0) s m args below meth c 0 0 Q cX0_keepAll (fun M1 => M1 = r)) (x1 : Int32)  : ∀ (n : Nat) (M : zM) (x2 : Int32) (H : Heap) (locs : List Loc) (ls : Array Slot), b_X0_keepAll_39  o0 x1 n M x2 = some r → zS g xE 125 s H locs M → lv_has ls 5 [(0, .ref (g.2.2 o0)), (1, .int x1), (2, .int x2)] → W p l e (zrm 4 0 0) s m args below meth c H locs 0 0 Q (F0 m 39 ls []) := by
  have hx := E.1.1
  have hb := E.1.2.1
  intro n
  induction n with
  | zero => intro M x2 H locs ls h hZ hl; cases h
  | succ n ih =>
    intro M x2 H locs ls h hZ hl
    rw [b_X0_keepAll_39] at h
    refine lv_iload_n hx hb dX0_keepAll_39 rfl (lv_at hl 2 rfl) ?_
    refine lv_aload_n hx hb dX0_keepAll_40 rfl (lv_at hl 0 rfl) ?_
    refine zg (v := .int (M o0 11)) E hZ (xb_X9 ho0) ((xe_X9 ho0) _) kc_X9 11 (by decide) kw_99 rfl rfl dX0_keepAll_41 ?_
    refine zic_ge (tgt := 137) h E dX0_keepAll_44 (by decide) (fun c_14 h => ?_) (fun c_14 h => ?_)
    · exact hret _ _ _ _ _ (Option.some.inj h) hZ dX0_keepAll_137
    · refine lv_aload_n hx hb dX0_keepAll_47 rfl (lv_at hl 0 rfl) ?_
      refine lv_iload_n hx hb dX0_keepAll_48 rfl (lv_at hl 2 rfl) ?_
      refine lv_iconst (v := 0) hx hb dX0_keepAll_49 (by decide) ?_
      obtain ⟨u_9, qu_9, h⟩ := zbn_some h
      refine zciR (zrunV E hZ (xb_X9 ho0) ((xe_X9 ho0) _) rfl rfl v_X9_dutyCell kw_1058 (c_X9_dutyCell l g M o0 ho0 x2 0 qu_9 _) rfl hl.1 rfl (Nat.le_of_ble_eq_true rfl) ⟨by decide, by decide⟩ ⟨by decide, by decide⟩ dX0_keepAll_50) hZ (fun H locs hZ => ?_)
      refine lv_istore_n (lv' := [(3, .int u_9), (0, .ref (g.2.2 o0)), (1, .int x1), (2, .int x2)]) hx hb dX0_keepAll_53 rfl hl (by decide) rfl (fun ls hl => ?_)
      refine lv_aload_n hx hb dX0_keepAll_54 rfl (lv_at hl 1 rfl) ?_
      refine zg (v := .int (M o0 0)) E hZ (xb_X9 ho0) ((xe_X9 ho0) _) kc_X9 0 (by decide) kw_61 rfl rfl dX0_keepAll_55 ?_
      refine lv_aload_n hx hb dX0_keepAll_58 rfl (lv_at hl 1 rfl) ?_
      refine lv_iload_n hx hb dX0_keepAll_59 rfl (lv_at hl 3 rfl) ?_
      refine lv_iconst (v := 1) hx hb dX0_keepAll_60 (by decide) ?_
      obtain ⟨u_10, qu_10, h⟩ := zbn_some h
      refine zciR (zrunV E hZ (xb_X9 ho0) ((xe_X9 ho0) _) rfl rfl v_X9_dutyCell kw_1058 (c_X9_dutyCell l g M o0 ho0 x2 1 qu_10 _) rfl hl.1 rfl (Nat.le_of_ble_eq_true rfl) ⟨by decide, by decide⟩ ⟨by decide, by decide⟩ dX0_keepAll_61) hZ (fun H locs hZ => ?_)
      refine zic_lt (tgt := 84) h E dX0_keepAll_64 (by decide) (fun c_13 h => ?_) (fun c_13 h => ?_)
      · exact lb_X0_keepAll_84 g o0 ho0 E hret M x1 x2 u_9 (fun M x2 => b_X0_keepAll_39  o0 x1 n M x2) ih H locs ls h hZ (lv_sub hl [1, 2, 3, 0] rfl)
      · refine lv_aload_n hx hb dX0_keepAll_67 rfl (lv_at hl 1 rfl) ?_
        refine zg (v := .int (M o0 0)) E hZ (xb_X9 ho0) ((xe_X9 ho0) _) kc_X9 0 (by decide) kw_61 rfl rfl dX0_keepAll_68 ?_
        refine lv_aload_n hx hb dX0_keepAll_71 rfl (lv_at hl 1 rfl) ?_
        refine lv_iload_n hx hb dX0_keepAll_72 rfl (lv_at hl 3 rfl) ?_
        refine lv_iconst (v := 2) hx hb dX0_keepAll_73 (by decide) ?_
        obtain ⟨u_11, qu_11, h⟩ := zbn_some h
        refine zciR (zrunV E hZ (xb_X9 ho0) ((xe_X9 ho0) _) rfl rfl v_X9_dutyCell kw_1058 (c_X9_dutyCell l g M o0 ho0 x2 2 qu_11 _) rfl hl.1 rfl (Nat.le_of_ble_eq_true rfl) ⟨by decide, by decide⟩ ⟨by decide, by decide⟩ dX0_keepAll_74) hZ (fun H locs hZ => ?_)
        refine zic_gt (tgt := 84) h E dX0_keepAll_77 (by decide) (fun c_12 h => ?_) (fun c_12 h => ?_)
        · exact lb_X0_keepAll_84 g o0 ho0 E hret M x1 x2 u_9 (fun M x2 => b_X0_keepAll_39  o0 x1 n M x2) ih H locs ls h hZ (lv_sub hl [1, 2, 3, 0] rfl)
        · refine lv_iconst (v := 1) hx hb dX0_keepAll_80 (by decide) ?_
          refine lv_goto (tgt := 85) hx hb dX0_keepAll_81 (by decide) ?_
          exact lb_X0_keepAll_85 g o0 ho0 E hret M x1 x2 u_9 1 (fun M x2 => b_X0_keepAll_39  o0 x1 n M x2) ih H locs ls h hZ (lv_sub hl [1, 2, 3, 0] rfl)
def b_X0_keepAll_37  (o0 : Nat) (M : zM) (x1 : Int32) : Option (zM) :=
  b_X0_keepAll_39  o0 x1 6000 M 0
set_option maxRecDepth 100000 in
set_option maxHeartbeats 4000000 in
theorem lb_X0_keepAll_37 (g : zG)  (o0 : Nat) (ho0 : xk o0 = 8) {r : zM} (E : zX g p m c cX0_keepAll 5 s args (zWs yX0_keepAll cX0_keepAll 5 none) RX0) (hret : zRv g xE 125 p l e (zrm 4 0 0) s m args below meth c 0 0 Q cX0_keepAll (fun M1 => M1 = r)) (M : zM) (x1 : Int32)  (H : Heap) (locs : List Loc) (ls : Array Slot) (h : b_X0_keepAll_37  o0 M x1 = some r) (hZ : zS g xE 125 s H locs M) (hl : lv_has ls 5 [(0, .ref (g.2.2 o0)), (1, .int x1)]) : W p l e (zrm 4 0 0) s m args below meth c H locs 0 0 Q (F0 m 37 ls []) := by
  have hx := E.1.1
  have hb := E.1.2.1
  unfold b_X0_keepAll_37 at h
  refine lv_iconst (v := 0) hx hb dX0_keepAll_37 (by decide) ?_
  refine lv_istore_n (lv' := [(2, .int 0), (0, .ref (g.2.2 o0)), (1, .int x1)]) hx hb dX0_keepAll_38 rfl hl (by decide) rfl (fun ls hl => ?_)
  exact lb_X0_keepAll_39 g o0 ho0 E hret x1  6000 M 0 H locs ls h hZ (lv_sub hl [1, 2, 0] rfl)
def b_X0_keepAll_31 (K4 : Int32 → Int32 → Option (zM)) (o0 : Nat) (M : zM) (x1 : Int32) (x2 : Int32) : Option (zM) :=
  znm (x2 + 1) (fun x2_15 => K4 x1 x2_15)
set_option maxRecDepth 100000 in
set_option maxHeartbeats 4000000 in
theorem lb_X0_keepAll_31 (g : zG)  (o0 : Nat) (ho0 : xk o0 = 8) {r : zM} (E : zX g p m c cX0_keepAll 5 s args (zWs yX0_keepAll cX0_keepAll 5 none) RX0) (hret : zRv g xE 125 p l e (zrm 4 0 0) s m args below meth c 0 0 Q cX0_keepAll (fun M1 => M1 = r)) (M : zM) (x1 : Int32) (x2 : Int32) (K4 : Int32 → Int32 → Option (zM)) (hK4 : ∀ (x1 : Int32) (x2 : Int32) (H : Heap) (locs : List Loc) (ls : Array Slot), K4 x1 x2 = some r → zS g xE 125 s H locs M → lv_has ls 5 [(0, .ref (g.2.2 o0)), (1, .int x1), (2, .int x2)] → W p l e (zrm 4 0 0) s m args below meth c H locs 0 0 Q (F0 m 4 ls [])) (H : Heap) (locs : List Loc) (ls : Array Slot) (h : b_X0_keepAll_31 K4 o0 M x1 x2 = some r) (hZ : zS g xE 125 s H locs M) (hl : lv_has ls 5 [(0, .ref (g.2.2 o0)), (1, .int x1), (2, .int x2)]) : W p l e (zrm 4 0 0) s m args below meth c H locs 0 0 Q (F0 m 31 ls []) := by
  have hx := E.1.1
  have hb := E.1.2.1
  unfold b_X0_keepAll_31 at h
  obtain ⟨x2_15, ex2_15, h⟩ := znm_ex h
  refine lv_iinc (v := x2_15) (lv' := [(2, .int x2_15), (0, .ref (g.2.2 o0)), (1, .int x1)]) hx hb dX0_keepAll_31 hl (k := 2) rfl (by rw [ex2_15]; rfl) (by decide) rfl (fun ls hl => ?_)
  refine lv_goto (tgt := 4) hx hb dX0_keepAll_34 (by decide) ?_
  exact hK4 x1 x2_15 H locs ls h hZ (lv_sub hl [1, 2, 0] rfl)
def b_X0_keepAll_4  (o0 : Nat) (M : zM) : Nat → Int32 → Int32 → Option (zM)
  | 0, _, _ => none
  | n + 1, x1, x2 =>
    if (M o0 10) ≤ x2 then (b_X0_keepAll_37  o0 M x1) else (zbn (f_X9_isDrowned M o0 x2) (fun u_16 => if u_16 = 0 then (zbn (f_X9_monkCell M o0 x2 0) (fun u_17 => znm (x1 ||| ((1 : Int32) <<< (u_17 &&& 31))) (fun x1_18 => b_X0_keepAll_31 (fun x1 x2 => b_X0_keepAll_4  o0 M n x1 x2) o0 M x1_18 x2))) else (b_X0_keepAll_31 (fun x1 x2 => b_X0_keepAll_4  o0 M n x1 x2) o0 M x1 x2)))
set_option maxRecDepth 100000 in
set_option maxHeartbeats 4000000 in
theorem lb_X0_keepAll_4 (g : zG)  (o0 : Nat) (ho0 : xk o0 = 8) {r : zM} (E : zX g p m c cX0_keepAll 5 s args (zWs yX0_keepAll cX0_keepAll 5 none) RX0) (hret : zRv g xE 125 p l e (zrm 4 0 0) s m args below meth c 0 0 Q cX0_keepAll (fun M1 => M1 = r)) (M : zM)  : ∀ (n : Nat) (x1 : Int32) (x2 : Int32) (H : Heap) (locs : List Loc) (ls : Array Slot), b_X0_keepAll_4  o0 M n x1 x2 = some r → zS g xE 125 s H locs M → lv_has ls 5 [(0, .ref (g.2.2 o0)), (1, .int x1), (2, .int x2)] → W p l e (zrm 4 0 0) s m args below meth c H locs 0 0 Q (F0 m 4 ls []) := by
  have hx := E.1.1
  have hb := E.1.2.1
  intro n
  induction n with
  | zero => intro x1 x2 H locs ls h hZ hl; cases h
  | succ n ih =>
    intro x1 x2 H locs ls h hZ hl
    rw [b_X0_keepAll_4] at h
    refine lv_iload_n hx hb dX0_keepAll_4 rfl (lv_at hl 2 rfl) ?_
    refine lv_aload_n hx hb dX0_keepAll_5 rfl (lv_at hl 0 rfl) ?_
    refine zg (v := .int (M o0 10)) E hZ (xb_X9 ho0) ((xe_X9 ho0) _) kc_X9 10 (by decide) kw_93 rfl rfl dX0_keepAll_6 ?_
    refine zic_ge (tgt := 37) h E dX0_keepAll_9 (by decide) (fun c_20 h => ?_) (fun c_20 h => ?_)
    · exact lb_X0_keepAll_37 g o0 ho0 E hret M x1  H locs ls h hZ (lv_sub hl [0, 1] rfl)
    · refine lv_aload_n hx hb dX0_keepAll_12 rfl (lv_at hl 0 rfl) ?_
      refine lv_iload_n hx hb dX0_keepAll_13 rfl (lv_at hl 2 rfl) ?_
      obtain ⟨u_16, qu_16, h⟩ := zbn_some h
      refine zciR (zrunV E hZ (xb_X9 ho0) ((xe_X9 ho0) _) rfl rfl v_X9_isDrowned kw_1044 (c_X9_isDrowned l g M o0 ho0 x2 qu_16 _) rfl hl.1 rfl (Nat.le_of_ble_eq_true rfl) ⟨by decide, by decide⟩ ⟨by decide, by decide⟩ dX0_keepAll_14) hZ (fun H locs hZ => ?_)
      refine zif_ne (tgt := 31) h E dX0_keepAll_17 (by decide) (fun c_19 h => ?_) (fun c_19 h => ?_)
      · exact lb_X0_keepAll_31 g o0 ho0 E hret M x1 x2 (fun x1 x2 => b_X0_keepAll_4  o0 M n x1 x2) ih H locs ls h hZ (lv_sub hl [0, 1, 2] rfl)
      · refine lv_iload_n hx hb dX0_keepAll_20 rfl (lv_at hl 1 rfl) ?_
        refine lv_iconst (v := 1) hx hb dX0_keepAll_21 (by decide) ?_
        refine lv_aload_n hx hb dX0_keepAll_22 rfl (lv_at hl 0 rfl) ?_
        refine lv_iload_n hx hb dX0_keepAll_23 rfl (lv_at hl 2 rfl) ?_
        refine lv_iconst (v := 0) hx hb dX0_keepAll_24 (by decide) ?_
        obtain ⟨u_17, qu_17, h⟩ := zbn_some h
        refine zciR (zrunV E hZ (xb_X9 ho0) ((xe_X9 ho0) _) rfl rfl v_X9_monkCell kw_1050 (c_X9_monkCell l g M o0 ho0 x2 0 qu_17 _) rfl hl.1 rfl (Nat.le_of_ble_eq_true rfl) ⟨by decide, by decide⟩ ⟨by decide, by decide⟩ dX0_keepAll_25) hZ (fun H locs hZ => ?_)
        refine lv_ishl hx hb dX0_keepAll_28 ?_
        refine lv_ior hx hb dX0_keepAll_29 ?_
        refine zni h (fun x1_18 ex1_18 h => ?_)
        refine lv_istore_n (lv' := [(1, .int x1_18), (0, .ref (g.2.2 o0)), (2, .int x2)]) hx hb dX0_keepAll_30 rfl hl (by decide) rfl (fun ls hl => ?_)
        exact lb_X0_keepAll_31 g o0 ho0 E hret M x1_18 x2 (fun x1 x2 => b_X0_keepAll_4  o0 M n x1 x2) ih H locs ls h hZ (lv_sub hl [1, 0, 2] rfl)
def f_X0_keepAll (M : zM) (o0 : Nat) : Option (zM) :=
  b_X0_keepAll_4  o0 M 6000 0 0
set_option maxRecDepth 100000 in
set_option maxHeartbeats 4000000 in
theorem w_X0_keepAll (g : zG)  (o0 : Nat) (ho0 : xk o0 = 8) {r : zM} (E : zX g p m c cX0_keepAll 5 s args (zWs yX0_keepAll cX0_keepAll 5 none) RX0) (hret : zRv g xE 125 p l e (zrm 4 0 0) s m args below meth c 0 0 Q cX0_keepAll (fun M1 => M1 = r)) (M : zM)  (H : Heap) (locs : List Loc) (ls : Array Slot) (h : f_X0_keepAll M o0 = some r) (hZ : zS g xE 125 s H locs M) (hl : lv_has ls 5 [(0, .ref (g.2.2 o0))]) : W p l e (zrm 4 0 0) s m args below meth c H locs 0 0 Q (F0 m 0 ls []) := by
  have hx := E.1.1
  have hb := E.1.2.1
  unfold f_X0_keepAll at h
  refine lv_iconst (v := 0) hx hb dX0_keepAll_0 (by decide) ?_
  refine lv_istore_n (lv' := [(1, .int 0), (0, .ref (g.2.2 o0))]) hx hb dX0_keepAll_1 rfl hl (by decide) rfl (fun ls hl => ?_)
  refine lv_iconst (v := 0) hx hb dX0_keepAll_2 (by decide) ?_
  refine lv_istore_n (lv' := [(2, .int 0), (1, .int 0), (0, .ref (g.2.2 o0))]) hx hb dX0_keepAll_3 rfl hl (by decide) rfl (fun ls hl => ?_)
  exact lb_X0_keepAll_4 g o0 ho0 E hret M  6000 0 0 H locs ls h hZ (lv_sub hl [2, 1, 0] rfl)
theorem c_X0_keepAll (l : Launch) (g : zG) (M : zM) (o0 : Nat) (ho0 : xk o0 = 8)  {r : zM} (h : f_X0_keepAll M o0 = some r) : zMv l g xE 125 yX0_keepAll (zWs yX0_keepAll cX0_keepAll 5 none) 4 [.ref (g.2.2 o0)] M (fun M1 => M1 = r) :=
  zMv_of (by decide +kernel) (Nat.le_of_ble_eq_true rfl) (fun p e s m args below meth c Q ls E hret hZ hl => w_X0_keepAll g o0 ho0 E hret M  _ _ ls h hZ hl)
theorem v_X0_keepAll : zYS yX0_keepAll cX0_keepAll 5 none 1 := ⟨kw_1057, kw_26, kw_1056, by decide +kernel⟩

def b_X0_drownAll_82 (K12 : zM → Int32 → Option (zM)) (o0 : Nat) (o1 : Nat) (M : zM) (x2 : Int32) (x3 : Int32) (x4 : Int32) : Option (zM) :=
  znm (x4 + 1) (fun x4_1 => K12 M x4_1)
set_option maxRecDepth 100000 in
set_option maxHeartbeats 4000000 in
theorem lb_X0_drownAll_82 (g : zG)  (o0 : Nat) (ho0 : xk o0 = 8) (o1 : Nat) (ho1 : xk o1 = 2) {r : zM} (E : zX g p m c cX0_drownAll 6 s args (zWs yX0_drownAll cX0_drownAll 6 none) RX0) (hret : zRv g xE 125 p l e (zrm 7 0 0) s m args below meth c 0 0 Q cX0_drownAll (fun M1 => M1 = r)) (M : zM) (x2 : Int32) (x3 : Int32) (x4 : Int32) (K12 : zM → Int32 → Option (zM)) (hK12 : ∀ (M : zM) (x4 : Int32) (H : Heap) (locs : List Loc) (ls : Array Slot), K12 M x4 = some r → zS g xE 125 s H locs M → lv_has ls 6 [(0, .ref (g.2.2 o0)), (1, .ref (g.2.2 o1)), (2, .int x2), (3, .int x3), (4, .int x4)] → W p l e (zrm 7 0 0) s m args below meth c H locs 0 0 Q (F0 m 12 ls [])) (H : Heap) (locs : List Loc) (ls : Array Slot) (h : b_X0_drownAll_82 K12 o0 o1 M x2 x3 x4 = some r) (hZ : zS g xE 125 s H locs M) (hl : lv_has ls 6 [(0, .ref (g.2.2 o0)), (1, .ref (g.2.2 o1)), (2, .int x2), (3, .int x3), (4, .int x4)]) : W p l e (zrm 7 0 0) s m args below meth c H locs 0 0 Q (F0 m 82 ls []) := by
  have hx := E.1.1
  have hb := E.1.2.1
  unfold b_X0_drownAll_82 at h
  obtain ⟨x4_1, ex4_1, h⟩ := znm_ex h
  refine lv_iinc (v := x4_1) (lv' := [(4, .int x4_1), (0, .ref (g.2.2 o0)), (1, .ref (g.2.2 o1)), (2, .int x2), (3, .int x3)]) hx hb dX0_drownAll_82 hl (k := 4) rfl (by rw [ex4_1]; rfl) (by decide) rfl (fun ls hl => ?_)
  refine lv_goto (tgt := 12) hx hb dX0_drownAll_85 (by decide) ?_
  exact hK12 M x4_1 H locs ls h hZ (lv_sub hl [1, 2, 3, 4, 0] rfl)
def b_X0_drownAll_12  (o0 : Nat) (o1 : Nat) (x2 : Int32) (x3 : Int32) : Nat → zM → Int32 → Option (zM)
  | 0, _, _ => none
  | n + 1, M, x4 =>
    if (M o0 10) ≤ x4 then (some M) else (zbn (f_X9_monkCell M o0 x4 0) (fun u_2 => zbn (f_X9_isDrowned M o0 x4) (fun u_3 => if u_3 = 0 then (zbn (f_X9_depthBy M o0 x3 u_2) (fun u_4 => zbn (f_X3_wades M o1 o0 x4 x3) (fun u_5 => if u_4 ≤ (u_5.1 + 3) then (b_X0_drownAll_82 (fun M x4 => b_X0_drownAll_12  o0 o1 x2 x3 n M x4) o0 o1 u_5.2 x2 x3 x4) else (znm (zu u_5.2 o0 12 ((u_5.2 o0 12) ||| ((1 : Int32) <<< (x4 &&& 31)))) (fun M_6 => zbn (f_X9_addRow M_6 o0 x2 x4 1 u_2) (fun u_7 => b_X0_drownAll_82 (fun M x4 => b_X0_drownAll_12  o0 o1 x2 x3 n M x4) o0 o1 u_7 x2 x3 x4)))))) else (b_X0_drownAll_82 (fun M x4 => b_X0_drownAll_12  o0 o1 x2 x3 n M x4) o0 o1 M x2 x3 x4))))
set_option maxRecDepth 100000 in
set_option maxHeartbeats 4000000 in
theorem lb_X0_drownAll_12 (g : zG)  (o0 : Nat) (ho0 : xk o0 = 8) (o1 : Nat) (ho1 : xk o1 = 2) {r : zM} (E : zX g p m c cX0_drownAll 6 s args (zWs yX0_drownAll cX0_drownAll 6 none) RX0) (hret : zRv g xE 125 p l e (zrm 7 0 0) s m args below meth c 0 0 Q cX0_drownAll (fun M1 => M1 = r)) (x2 : Int32) (x3 : Int32)  : ∀ (n : Nat) (M : zM) (x4 : Int32) (H : Heap) (locs : List Loc) (ls : Array Slot), b_X0_drownAll_12  o0 o1 x2 x3 n M x4 = some r → zS g xE 125 s H locs M → lv_has ls 6 [(0, .ref (g.2.2 o0)), (1, .ref (g.2.2 o1)), (2, .int x2), (3, .int x3), (4, .int x4)] → W p l e (zrm 7 0 0) s m args below meth c H locs 0 0 Q (F0 m 12 ls []) := by
  have hx := E.1.1
  have hb := E.1.2.1
  intro n
  induction n with
  | zero => intro M x4 H locs ls h hZ hl; cases h
  | succ n ih =>
    intro M x4 H locs ls h hZ hl
    rw [b_X0_drownAll_12] at h
    refine lv_iload hx hb dX0_drownAll_12 (lv_at hl 4 rfl) ?_
    refine lv_aload_n hx hb dX0_drownAll_14 rfl (lv_at hl 0 rfl) ?_
    refine zg (v := .int (M o0 10)) E hZ (xb_X9 ho0) ((xe_X9 ho0) _) kc_X9 10 (by decide) kw_93 rfl rfl dX0_drownAll_15 ?_
    refine zic_ge (tgt := 88) h E dX0_drownAll_18 (by decide) (fun c_10 h => ?_) (fun c_10 h => ?_)
    · exact hret _ _ _ _ _ (Option.some.inj h) hZ dX0_drownAll_88
    · refine lv_aload_n hx hb dX0_drownAll_21 rfl (lv_at hl 0 rfl) ?_
      refine lv_iload hx hb dX0_drownAll_22 (lv_at hl 4 rfl) ?_
      refine lv_iconst (v := 0) hx hb dX0_drownAll_24 (by decide) ?_
      obtain ⟨u_2, qu_2, h⟩ := zbn_some h
      refine zciR (zrunV E hZ (xb_X9 ho0) ((xe_X9 ho0) _) rfl rfl v_X9_monkCell kw_1050 (c_X9_monkCell l g M o0 ho0 x4 0 qu_2 _) rfl hl.1 rfl (Nat.le_of_ble_eq_true rfl) ⟨by decide, by decide⟩ ⟨by decide, by decide⟩ dX0_drownAll_25) hZ (fun H locs hZ => ?_)
      refine lv_istore (lv' := [(5, .int u_2), (0, .ref (g.2.2 o0)), (1, .ref (g.2.2 o1)), (2, .int x2), (3, .int x3), (4, .int x4)]) hx hb dX0_drownAll_28 hl (by decide) rfl (fun ls hl => ?_)
      refine lv_aload_n hx hb dX0_drownAll_30 rfl (lv_at hl 1 rfl) ?_
      refine lv_iload hx hb dX0_drownAll_31 (lv_at hl 5 rfl) ?_
      obtain ⟨u_3, qu_3, h⟩ := zbn_some h
      refine zciR (zrunV E hZ (xb_X9 ho0) ((xe_X9 ho0) _) rfl rfl v_X9_isDrowned kw_1044 (c_X9_isDrowned l g M o0 ho0 x4 qu_3 _) rfl hl.1 rfl (Nat.le_of_ble_eq_true rfl) ⟨by decide, by decide⟩ ⟨by decide, by decide⟩ dX0_drownAll_33) hZ (fun H locs hZ => ?_)
      refine zif_ne (tgt := 82) h E dX0_drownAll_36 (by decide) (fun c_9 h => ?_) (fun c_9 h => ?_)
      · exact lb_X0_drownAll_82 g o0 ho0 o1 ho1 E hret M x2 x3 x4 (fun M x4 => b_X0_drownAll_12  o0 o1 x2 x3 n M x4) ih H locs ls h hZ (lv_sub hl [1, 2, 3, 4, 5] rfl)
      · refine lv_aload_n hx hb dX0_drownAll_39 rfl (lv_at hl 1 rfl) ?_
        refine lv_iload_n hx hb dX0_drownAll_40 rfl (lv_at hl 4 rfl) ?_
        refine lv_iload hx hb dX0_drownAll_41 (lv_at hl 0 rfl) ?_
        obtain ⟨u_4, qu_4, h⟩ := zbn_some h
        refine zciR (zrunV E hZ (xb_X9 ho0) ((xe_X9 ho0) _) rfl rfl v_X9_depthBy kw_1051 (c_X9_depthBy l g M o0 ho0 x3 u_2 qu_4 _) rfl hl.1 rfl (Nat.le_of_ble_eq_true rfl) ⟨by decide, by decide⟩ ⟨by decide, by decide⟩ dX0_drownAll_43) hZ (fun H locs hZ => ?_)
        refine lv_aload_n hx hb dX0_drownAll_46 rfl (lv_at hl 2 rfl) ?_
        refine lv_aload_n hx hb dX0_drownAll_47 rfl (lv_at hl 1 rfl) ?_
        refine lv_iload hx hb dX0_drownAll_48 (lv_at hl 5 rfl) ?_
        refine lv_iload_n hx hb dX0_drownAll_50 rfl (lv_at hl 4 rfl) ?_
        obtain ⟨u_5, qu_5, h⟩ := zbn_some h
        refine zciS (zrunV E hZ (xb_X3 ho1) ((xe_X3 ho1) _) rfl rfl v_X3_wades kw_1046 (c_X3_wades l g M o1 ho1 o0 ho0 x4 x3 qu_5 _) rfl hl.1 rfl (Nat.le_of_ble_eq_true rfl) ⟨by decide, by decide⟩ ⟨by decide, by decide⟩ dX0_drownAll_51) hZ (fun H locs hZ => ?_)
        refine lv_iconst (v := 3) hx hb dX0_drownAll_54 (by decide) ?_
        refine lv_iadd hx hb dX0_drownAll_55 ?_
        refine zic_le (tgt := 82) h E dX0_drownAll_56 (by decide) (fun c_8 h => ?_) (fun c_8 h => ?_)
        · exact lb_X0_drownAll_82 g o0 ho0 o1 ho1 E hret u_5.2 x2 x3 x4 (fun M x4 => b_X0_drownAll_12  o0 o1 x2 x3 n M x4) ih H locs ls h hZ (lv_sub hl [1, 2, 3, 4, 5] rfl)
        · refine lv_aload_n hx hb dX0_drownAll_59 rfl (lv_at hl 1 rfl) ?_
          refine lv_dup hx hb dX0_drownAll_60 rfl ?_
          refine zg (v := .int (u_5.2 o0 12)) E hZ (xb_X9 ho0) ((xe_X9 ho0) _) kc_X9 12 (by decide) kw_103 rfl rfl dX0_drownAll_61 ?_
          refine lv_iconst (v := 1) hx hb dX0_drownAll_64 (by decide) ?_
          refine lv_iload hx hb dX0_drownAll_65 (lv_at hl 5 rfl) ?_
          refine lv_ishl hx hb dX0_drownAll_67 ?_
          refine lv_ior hx hb dX0_drownAll_68 ?_
          refine zp h E hZ (xb_X9 ho0) ((xe_X9 ho0) _) (((xe_X9 ho0) _).trans (congrArg (fun z => Sum.inr (8, z)) (fs_X9_12 g _ _ _))) kc_X9 (by decide) kw_103 rfl rfl rfl (Nat.le_of_ble_eq_true rfl) dX0_drownAll_69 (fun M_6 H locs eM_6 h hZ => ?_)
          refine lv_aload_n hx hb dX0_drownAll_72 rfl (lv_at hl 1 rfl) ?_
          refine lv_iload_n hx hb dX0_drownAll_73 rfl (lv_at hl 3 rfl) ?_
          refine lv_iload hx hb dX0_drownAll_74 (lv_at hl 5 rfl) ?_
          refine lv_iconst (v := 1) hx hb dX0_drownAll_76 (by decide) ?_
          refine lv_iload hx hb dX0_drownAll_77 (lv_at hl 0 rfl) ?_
          obtain ⟨u_7, qu_7, h⟩ := zbn_some h
          refine zcvS (zrunV E hZ (xb_X9 ho0) ((xe_X9 ho0) _) rfl rfl v_X9_addRow kw_1061 (c_X9_addRow l g M_6 o0 ho0 x2 x4 1 u_2 qu_7 _) rfl hl.1 rfl (Nat.le_of_ble_eq_true rfl) ⟨by decide, by decide⟩ ⟨by decide, by decide⟩ dX0_drownAll_79) hZ (fun H locs hZ => ?_)
          exact lb_X0_drownAll_82 g o0 ho0 o1 ho1 E hret u_7 x2 x3 x4 (fun M x4 => b_X0_drownAll_12  o0 o1 x2 x3 n M x4) ih H locs ls h hZ (lv_sub hl [1, 2, 3, 4, 5] rfl)
def f_X0_drownAll (M : zM) (o0 : Nat) (o1 : Nat) (x2 : Int32) : Option (zM) :=
  zbn (f_X9_waterIn M o0 (M o0 0)) (fun u_11 => b_X0_drownAll_12  o0 o1 x2 u_11 6000 M 0)
set_option maxRecDepth 100000 in
set_option maxHeartbeats 4000000 in
theorem w_X0_drownAll (g : zG)  (o0 : Nat) (ho0 : xk o0 = 8) (o1 : Nat) (ho1 : xk o1 = 2) {r : zM} (E : zX g p m c cX0_drownAll 6 s args (zWs yX0_drownAll cX0_drownAll 6 none) RX0) (hret : zRv g xE 125 p l e (zrm 7 0 0) s m args below meth c 0 0 Q cX0_drownAll (fun M1 => M1 = r)) (M : zM) (x2 : Int32) (H : Heap) (locs : List Loc) (ls : Array Slot) (h : f_X0_drownAll M o0 o1 x2 = some r) (hZ : zS g xE 125 s H locs M) (hl : lv_has ls 6 [(0, .ref (g.2.2 o0)), (1, .ref (g.2.2 o1)), (2, .int x2)]) : W p l e (zrm 7 0 0) s m args below meth c H locs 0 0 Q (F0 m 0 ls []) := by
  have hx := E.1.1
  have hb := E.1.2.1
  unfold f_X0_drownAll at h
  refine lv_aload_n hx hb dX0_drownAll_0 rfl (lv_at hl 0 rfl) ?_
  refine lv_aload_n hx hb dX0_drownAll_1 rfl (lv_at hl 0 rfl) ?_
  refine zg (v := .int (M o0 0)) E hZ (xb_X9 ho0) ((xe_X9 ho0) _) kc_X9 0 (by decide) kw_61 rfl rfl dX0_drownAll_2 ?_
  obtain ⟨u_11, qu_11, h⟩ := zbn_some h
  refine zciR (zrunV E hZ (xb_X9 ho0) ((xe_X9 ho0) _) rfl rfl v_X9_waterIn kw_1043 (c_X9_waterIn l g M o0 ho0 (M o0 0) qu_11 _) rfl hl.1 rfl (Nat.le_of_ble_eq_true rfl) ⟨by decide, by decide⟩ ⟨by decide, by decide⟩ dX0_drownAll_5) hZ (fun H locs hZ => ?_)
  refine lv_istore_n (lv' := [(3, .int u_11), (0, .ref (g.2.2 o0)), (1, .ref (g.2.2 o1)), (2, .int x2)]) hx hb dX0_drownAll_8 rfl hl (by decide) rfl (fun ls hl => ?_)
  refine lv_iconst (v := 0) hx hb dX0_drownAll_9 (by decide) ?_
  refine lv_istore (lv' := [(4, .int 0), (3, .int u_11), (0, .ref (g.2.2 o0)), (1, .ref (g.2.2 o1)), (2, .int x2)]) hx hb dX0_drownAll_10 hl (by decide) rfl (fun ls hl => ?_)
  exact lb_X0_drownAll_12 g o0 ho0 o1 ho1 E hret x2 u_11  6000 M 0 H locs ls h hZ (lv_sub hl [2, 3, 4, 1, 0] rfl)
theorem c_X0_drownAll (l : Launch) (g : zG) (M : zM) (o0 : Nat) (ho0 : xk o0 = 8) (o1 : Nat) (ho1 : xk o1 = 2) (x2 : Int32) {r : zM} (h : f_X0_drownAll M o0 o1 x2 = some r) : zMv l g xE 125 yX0_drownAll (zWs yX0_drownAll cX0_drownAll 6 none) 7 [.ref (g.2.2 o0), .ref (g.2.2 o1), .int x2] M (fun M1 => M1 = r) :=
  zMv_of (by decide +kernel) (Nat.le_of_ble_eq_true rfl) (fun p e s m args below meth c Q ls E hret hZ hl => w_X0_drownAll g o0 ho0 o1 ho1 E hret M x2 _ _ ls h hZ hl)
theorem v_X0_drownAll : zYS yX0_drownAll cX0_drownAll 6 none 3 := ⟨kw_1067, kw_26, kw_1066, by decide +kernel⟩

def b_X0_run_79  (o0 : Nat) (o1 : Nat) (M : zM) (x4 : Int32) : Option (Int32 × zM) :=
  zbn (f_J6_bitCount_0f7a4 (M o0 13)) (fun u_1 => some (u_1 - x4, M))
set_option maxRecDepth 100000 in
set_option maxHeartbeats 4000000 in
theorem lb_X0_run_79 (g : zG)  (o0 : Nat) (ho0 : xk o0 = 8) (o1 : Nat) (ho1 : xk o1 = 2) {r : Int32 × zM} (E : zX g p m c cX0_run 7 s args (zWs yX0_run cX0_run 7 (some .int)) RX0) (hret : zRi g xE 125 p l e (zrm 8 0 0) s m args below meth c 0 0 Q cX0_run .int (fun v M1 => r = (v, M1))) (M : zM) (x4 : Int32)  (H : Heap) (locs : List Loc) (ls : Array Slot) (h : b_X0_run_79  o0 o1 M x4 = some r) (hZ : zS g xE 125 s H locs M) (hl : lv_has ls 7 [(0, .ref (g.2.2 o0)), (4, .int x4)]) : W p l e (zrm 8 0 0) s m args below meth c H locs 0 0 Q (F0 m 79 ls []) := by
  have hx := E.1.1
  have hb := E.1.2.1
  unfold b_X0_run_79 at h
  refine lv_aload_n hx hb dX0_run_79 rfl (lv_at hl 0 rfl) ?_
  refine zg (v := .int (M o0 13)) E hZ (xb_X9 ho0) ((xe_X9 ho0) _) kc_X9 13 (by decide) kw_106 rfl rfl dX0_run_80 ?_
  obtain ⟨u_1, qu_1, h⟩ := zbn_some h
  refine zciR (zrunS E hZ v_J6_bitCount_0f7a4 kw_1024 (c_J6_bitCount_0f7a4 l g xE 125 M  (M o0 13) qu_1 _) rfl hl.1 rfl (Nat.le_of_ble_eq_true rfl) ⟨by decide, by decide⟩ ⟨by decide, by decide⟩ dX0_run_83) hZ (fun H locs hZ => ?_)
  refine lv_iload hx hb dX0_run_86 (lv_at hl 1 rfl) ?_
  refine lv_isub hx hb dX0_run_88 ?_
  exact hret _ _ _ _ _ _ (Option.some.inj h).symm rfl hZ dX0_run_89
def b_X0_run_37 (K12 : zM → Int32 → Option (Int32 × zM)) (o0 : Nat) (o1 : Nat) (M : zM) (x2 : Int32) (x3 : Int32) (x4 : Int32) (x5 : Int32) : Option (Int32 × zM) :=
  zbn (f_X0_walkAll M o0 o1) (fun u_2 => zbn (f_X0_keepAll u_2 o0) (fun u_3 => znm (u_3 o0 0) (fun x6_4 => znm (if (x6_4 + 1) < 9999 then (x6_4 + 1) else 9999) (fun v_5 => znm (zu u_3 o0 0 v_5) (fun M_6 => zbn (f_X0_drownAll M_6 o0 o1 x6_4) (fun u_7 => znm (x5 + 1) (fun x5_8 => K12 u_7 x5_8)))))))
set_option maxRecDepth 100000 in
set_option maxHeartbeats 4000000 in
theorem lb_X0_run_37 (g : zG)  (o0 : Nat) (ho0 : xk o0 = 8) (o1 : Nat) (ho1 : xk o1 = 2) {r : Int32 × zM} (E : zX g p m c cX0_run 7 s args (zWs yX0_run cX0_run 7 (some .int)) RX0) (hret : zRi g xE 125 p l e (zrm 8 0 0) s m args below meth c 0 0 Q cX0_run .int (fun v M1 => r = (v, M1))) (M : zM) (x2 : Int32) (x3 : Int32) (x4 : Int32) (x5 : Int32) (K12 : zM → Int32 → Option (Int32 × zM)) (hK12 : ∀ (M : zM) (x5 : Int32) (H : Heap) (locs : List Loc) (ls : Array Slot), K12 M x5 = some r → zS g xE 125 s H locs M → lv_has ls 7 [(0, .ref (g.2.2 o0)), (1, .ref (g.2.2 o1)), (2, .int x2), (3, .int x3), (4, .int x4), (5, .int x5)] → W p l e (zrm 8 0 0) s m args below meth c H locs 0 0 Q (F0 m 12 ls [])) (H : Heap) (locs : List Loc) (ls : Array Slot) (h : b_X0_run_37 K12 o0 o1 M x2 x3 x4 x5 = some r) (hZ : zS g xE 125 s H locs M) (hl : lv_has ls 7 [(0, .ref (g.2.2 o0)), (1, .ref (g.2.2 o1)), (2, .int x2), (3, .int x3), (4, .int x4), (5, .int x5)]) : W p l e (zrm 8 0 0) s m args below meth c H locs 0 0 Q (F0 m 37 ls []) := by
  have hx := E.1.1
  have hb := E.1.2.1
  unfold b_X0_run_37 at h
  refine lv_aload_n hx hb dX0_run_37 rfl (lv_at hl 0 rfl) ?_
  refine lv_aload_n hx hb dX0_run_38 rfl (lv_at hl 1 rfl) ?_
  obtain ⟨u_2, qu_2, h⟩ := zbn_some h
  refine zcvS (zrunS E hZ v_X0_walkAll kw_1040 (c_X0_walkAll l g M o0 ho0 o1 ho1  qu_2 _) rfl hl.1 rfl (Nat.le_of_ble_eq_true rfl) ⟨by decide, by decide⟩ ⟨by decide, by decide⟩ dX0_run_39) hZ (fun H locs hZ => ?_)
  refine lv_aload_n hx hb dX0_run_42 rfl (lv_at hl 0 rfl) ?_
  obtain ⟨u_3, qu_3, h⟩ := zbn_some h
  refine zcvS (zrunS E hZ v_X0_keepAll kw_1055 (c_X0_keepAll l g u_2 o0 ho0  qu_3 _) rfl hl.1 rfl (Nat.le_of_ble_eq_true rfl) ⟨by decide, by decide⟩ ⟨by decide, by decide⟩ dX0_run_43) hZ (fun H locs hZ => ?_)
  refine lv_aload_n hx hb dX0_run_46 rfl (lv_at hl 0 rfl) ?_
  refine zg (v := .int (u_3 o0 0)) E hZ (xb_X9 ho0) ((xe_X9 ho0) _) kc_X9 0 (by decide) kw_61 rfl rfl dX0_run_47 ?_
  refine zni h (fun x6_4 ex6_4 h => ?_)
  refine lv_istore (lv' := [(6, .int x6_4), (0, .ref (g.2.2 o0)), (1, .ref (g.2.2 o1)), (2, .int x2), (3, .int x3), (4, .int x4), (5, .int x5)]) hx hb dX0_run_50 hl (by decide) rfl (fun ls hl => ?_)
  refine lv_aload_n hx hb dX0_run_52 rfl (lv_at hl 1 rfl) ?_
  refine lv_sipush (v := 9999) hx hb dX0_run_53 (by decide) ?_
  refine lv_iload hx hb dX0_run_56 (lv_at hl 0 rfl) ?_
  refine lv_iconst (v := 1) hx hb dX0_run_58 (by decide) ?_
  refine lv_iadd hx hb dX0_run_59 ?_
  refine va_mmin hx hb (E.1.2.2.1.trans hl.1.symm) E.1.2.2.2.1 (E.w kw_1054) (E.w kw_540) (E.w kw_16) (E.w kw_541) (Nat.le_of_ble_eq_true rfl) (Nat.le_of_ble_eq_true rfl) (Nat.le_of_ble_eq_true rfl) (Nat.le_of_ble_eq_true rfl) dX0_run_60 ?_
  refine zni h (fun v_5 ev_5 h => ?_)
  refine zp h E hZ (xb_X9 ho0) ((xe_X9 ho0) _) (((xe_X9 ho0) _).trans (congrArg (fun z => Sum.inr (8, z)) (fs_X9_0 g _ _ _))) kc_X9 (by decide) kw_61 rfl rfl rfl (Nat.le_of_ble_eq_true rfl) dX0_run_63 (fun M_6 H locs eM_6 h hZ => ?_)
  refine lv_aload_n hx hb dX0_run_66 rfl (lv_at hl 1 rfl) ?_
  refine lv_aload_n hx hb dX0_run_67 rfl (lv_at hl 2 rfl) ?_
  refine lv_iload hx hb dX0_run_68 (lv_at hl 0 rfl) ?_
  obtain ⟨u_7, qu_7, h⟩ := zbn_some h
  refine zcvS (zrunS E hZ v_X0_drownAll kw_1065 (c_X0_drownAll l g M_6 o0 ho0 o1 ho1 x6_4 qu_7 _) rfl hl.1 rfl (Nat.le_of_ble_eq_true rfl) ⟨by decide, by decide⟩ ⟨by decide, by decide⟩ dX0_run_70) hZ (fun H locs hZ => ?_)
  obtain ⟨x5_8, ex5_8, h⟩ := znm_ex h
  refine lv_iinc (v := x5_8) (lv' := [(5, .int x5_8), (6, .int x6_4), (0, .ref (g.2.2 o0)), (1, .ref (g.2.2 o1)), (2, .int x2), (3, .int x3), (4, .int x4)]) hx hb dX0_run_73 hl (k := 6) rfl (by rw [ex5_8]; rfl) (by decide) rfl (fun ls hl => ?_)
  refine lv_goto (tgt := 12) hx hb dX0_run_76 (by decide) ?_
  exact hK12 u_7 x5_8 H locs ls h hZ (lv_sub hl [2, 3, 4, 5, 6, 0] rfl)
def b_X0_run_12  (o0 : Nat) (o1 : Nat) (x2 : Int32) (x3 : Int32) (x4 : Int32) : Nat → zM → Int32 → Option (Int32 × zM)
  | 0, _, _ => none
  | n + 1, M, x5 =>
    if x2 ≤ x5 then (b_X0_run_79  o0 o1 M x4) else (if x3 = 0 then (b_X0_run_37 (fun M x5 => b_X0_run_12  o0 o1 x2 x3 x4 n M x5) o0 o1 M x2 x3 x4 x5) else (zbn (f_X9_stepOf M o0 (M o0 0)) (fun u_9 => if u_9 = 0 then (zbn (f_X9_blow M o0) (fun u_10 => b_X0_run_37 (fun M x5 => b_X0_run_12  o0 o1 x2 x3 x4 n M x5) o0 o1 u_10 x2 x3 x4 x5)) else (b_X0_run_37 (fun M x5 => b_X0_run_12  o0 o1 x2 x3 x4 n M x5) o0 o1 M x2 x3 x4 x5))))
set_option maxRecDepth 100000 in
set_option maxHeartbeats 4000000 in
theorem lb_X0_run_12 (g : zG)  (o0 : Nat) (ho0 : xk o0 = 8) (o1 : Nat) (ho1 : xk o1 = 2) {r : Int32 × zM} (E : zX g p m c cX0_run 7 s args (zWs yX0_run cX0_run 7 (some .int)) RX0) (hret : zRi g xE 125 p l e (zrm 8 0 0) s m args below meth c 0 0 Q cX0_run .int (fun v M1 => r = (v, M1))) (x2 : Int32) (x3 : Int32) (x4 : Int32)  : ∀ (n : Nat) (M : zM) (x5 : Int32) (H : Heap) (locs : List Loc) (ls : Array Slot), b_X0_run_12  o0 o1 x2 x3 x4 n M x5 = some r → zS g xE 125 s H locs M → lv_has ls 7 [(0, .ref (g.2.2 o0)), (1, .ref (g.2.2 o1)), (2, .int x2), (3, .int x3), (4, .int x4), (5, .int x5)] → W p l e (zrm 8 0 0) s m args below meth c H locs 0 0 Q (F0 m 12 ls []) := by
  have hx := E.1.1
  have hb := E.1.2.1
  intro n
  induction n with
  | zero => intro M x5 H locs ls h hZ hl; cases h
  | succ n ih =>
    intro M x5 H locs ls h hZ hl
    rw [b_X0_run_12] at h
    refine lv_iload hx hb dX0_run_12 (lv_at hl 5 rfl) ?_
    refine lv_iload_n hx hb dX0_run_14 rfl (lv_at hl 2 rfl) ?_
    refine zic_ge (tgt := 79) h E dX0_run_15 (by decide) (fun c_13 h => ?_) (fun c_13 h => ?_)
    · exact lb_X0_run_79 g o0 ho0 o1 ho1 E hret M x4  H locs ls h hZ (lv_sub hl [0, 4] rfl)
    · refine lv_iload_n hx hb dX0_run_18 rfl (lv_at hl 3 rfl) ?_
      refine zif_eq (tgt := 37) h E dX0_run_19 (by decide) (fun c_12 h => ?_) (fun c_12 h => ?_)
      · exact lb_X0_run_37 g o0 ho0 o1 ho1 E hret M x2 x3 x4 x5 (fun M x5 => b_X0_run_12  o0 o1 x2 x3 x4 n M x5) ih H locs ls h hZ (lv_sub hl [0, 1, 2, 3, 4, 5] rfl)
      · refine lv_aload_n hx hb dX0_run_22 rfl (lv_at hl 0 rfl) ?_
        refine lv_aload_n hx hb dX0_run_23 rfl (lv_at hl 0 rfl) ?_
        refine zg (v := .int (M o0 0)) E hZ (xb_X9 ho0) ((xe_X9 ho0) _) kc_X9 0 (by decide) kw_61 rfl rfl dX0_run_24 ?_
        obtain ⟨u_9, qu_9, h⟩ := zbn_some h
        refine zciR (zrunV E hZ (xb_X9 ho0) ((xe_X9 ho0) _) rfl rfl v_X9_stepOf kw_1030 (c_X9_stepOf l g M o0 ho0 (M o0 0) qu_9 _) rfl hl.1 rfl (Nat.le_of_ble_eq_true rfl) ⟨by decide, by decide⟩ ⟨by decide, by decide⟩ dX0_run_27) hZ (fun H locs hZ => ?_)
        refine zif_ne (tgt := 37) h E dX0_run_30 (by decide) (fun c_11 h => ?_) (fun c_11 h => ?_)
        · exact lb_X0_run_37 g o0 ho0 o1 ho1 E hret M x2 x3 x4 x5 (fun M x5 => b_X0_run_12  o0 o1 x2 x3 x4 n M x5) ih H locs ls h hZ (lv_sub hl [0, 1, 2, 3, 4, 5] rfl)
        · refine lv_aload_n hx hb dX0_run_33 rfl (lv_at hl 0 rfl) ?_
          obtain ⟨u_10, qu_10, h⟩ := zbn_some h
          refine zcvS (zrunV E hZ (xb_X9 ho0) ((xe_X9 ho0) _) rfl rfl v_X9_blow kw_1031 (c_X9_blow l g M o0 ho0  qu_10 _) rfl hl.1 rfl (Nat.le_of_ble_eq_true rfl) ⟨by decide, by decide⟩ ⟨by decide, by decide⟩ dX0_run_34) hZ (fun H locs hZ => ?_)
          exact lb_X0_run_37 g o0 ho0 o1 ho1 E hret u_10 x2 x3 x4 x5 (fun M x5 => b_X0_run_12  o0 o1 x2 x3 x4 n M x5) ih H locs ls h hZ (lv_sub hl [0, 1, 2, 3, 4, 5] rfl)
def f_X0_run (M : zM) (o0 : Nat) (o1 : Nat) (x2 : Int32) (x3 : Int32) : Option (Int32 × zM) :=
  zbn (f_J6_bitCount_0f7a4 (M o0 13)) (fun u_14 => b_X0_run_12  o0 o1 x2 x3 u_14 6000 M 0)
set_option maxRecDepth 100000 in
set_option maxHeartbeats 4000000 in
theorem w_X0_run (g : zG)  (o0 : Nat) (ho0 : xk o0 = 8) (o1 : Nat) (ho1 : xk o1 = 2) {r : Int32 × zM} (E : zX g p m c cX0_run 7 s args (zWs yX0_run cX0_run 7 (some .int)) RX0) (hret : zRi g xE 125 p l e (zrm 8 0 0) s m args below meth c 0 0 Q cX0_run .int (fun v M1 => r = (v, M1))) (M : zM) (x2 : Int32) (x3 : Int32) (H : Heap) (locs : List Loc) (ls : Array Slot) (h : f_X0_run M o0 o1 x2 x3 = some r) (hZ : zS g xE 125 s H locs M) (hl : lv_has ls 7 [(0, .ref (g.2.2 o0)), (1, .ref (g.2.2 o1)), (2, .int x2), (3, .int x3)]) : W p l e (zrm 8 0 0) s m args below meth c H locs 0 0 Q (F0 m 0 ls []) := by
  have hx := E.1.1
  have hb := E.1.2.1
  unfold f_X0_run at h
  refine lv_aload_n hx hb dX0_run_0 rfl (lv_at hl 0 rfl) ?_
  refine zg (v := .int (M o0 13)) E hZ (xb_X9 ho0) ((xe_X9 ho0) _) kc_X9 13 (by decide) kw_106 rfl rfl dX0_run_1 ?_
  obtain ⟨u_14, qu_14, h⟩ := zbn_some h
  refine zciR (zrunS E hZ v_J6_bitCount_0f7a4 kw_1024 (c_J6_bitCount_0f7a4 l g xE 125 M  (M o0 13) qu_14 _) rfl hl.1 rfl (Nat.le_of_ble_eq_true rfl) ⟨by decide, by decide⟩ ⟨by decide, by decide⟩ dX0_run_4) hZ (fun H locs hZ => ?_)
  refine lv_istore (lv' := [(4, .int u_14), (0, .ref (g.2.2 o0)), (1, .ref (g.2.2 o1)), (2, .int x2), (3, .int x3)]) hx hb dX0_run_7 hl (by decide) rfl (fun ls hl => ?_)
  refine lv_iconst (v := 0) hx hb dX0_run_9 (by decide) ?_
  refine lv_istore (lv' := [(5, .int 0), (4, .int u_14), (0, .ref (g.2.2 o0)), (1, .ref (g.2.2 o1)), (2, .int x2), (3, .int x3)]) hx hb dX0_run_10 hl (by decide) rfl (fun ls hl => ?_)
  exact lb_X0_run_12 g o0 ho0 o1 ho1 E hret x2 x3 u_14  6000 M 0 H locs ls h hZ (lv_sub hl [2, 3, 4, 5, 1, 0] rfl)
theorem c_X0_run (l : Launch) (g : zG) (M : zM) (o0 : Nat) (ho0 : xk o0 = 8) (o1 : Nat) (ho1 : xk o1 = 2) (x2 : Int32) (x3 : Int32) {r : Int32 × zM} (h : f_X0_run M o0 o1 x2 x3 = some r) : zMi l g xE 125 yX0_run (zWs yX0_run cX0_run 7 (some .int)) 8 [.ref (g.2.2 o0), .ref (g.2.2 o1), .int x2, .int x3] M (fun v M1 => r = (v, M1)) :=
  zMi_of (by decide +kernel) (Nat.le_of_ble_eq_true rfl) (fun p e s m args below meth c Q ls E hret hZ hl => w_X0_run g o0 ho0 o1 ho1 E hret M x2 x3 _ _ ls h hZ hl)
theorem v_X0_run : zYS yX0_run cX0_run 7 (some .int) 4 := ⟨kw_1023, kw_26, kw_1022, by decide +kernel⟩

def b_X7_kindOf_14  (M : zM) (x0 : Int32) : Option (Int32) :=
  if x0 < 48 then (some 3) else (if 57 < x0 then (some 3) else (some 2))
set_option maxRecDepth 100000 in
set_option maxHeartbeats 4000000 in
theorem lb_X7_kindOf_14 (g : zG)  {r : Int32} {M0 : zM} (E : zX g p m c cX7_kindOf 1 s args (zWs yX7_kindOf cX7_kindOf 1 (some .int)) RX7) (hret : zRi g xE 125 p l e (zrm 2 0 0) s m args below meth c 0 0 Q cX7_kindOf .int (fun v M1 => v = r ∧ M1 = M0)) (M : zM) (x0 : Int32) (hM : M = M0)  (H : Heap) (locs : List Loc) (ls : Array Slot) (h : b_X7_kindOf_14  M x0 = some r) (hZ : zS g xE 125 s H locs M) (hl : lv_has ls 1 [(0, .int x0)]) : W p l e (zrm 2 0 0) s m args below meth c H locs 0 0 Q (F0 m 14 ls []) := by
  have hx := E.1.1
  have hb := E.1.2.1
  unfold b_X7_kindOf_14 at h
  refine lv_iload_n hx hb dX7_kindOf_14 rfl (lv_at hl 0 rfl) ?_
  refine lv_bipush (v := 48) hx hb dX7_kindOf_15 (by decide) ?_
  refine zic_lt (tgt := 30) h E dX7_kindOf_17 (by decide) (fun c_2 h => ?_) (fun c_2 h => ?_)
  · refine lv_iconst (v := 3) hx hb dX7_kindOf_30 (by decide) ?_
    exact hret _ _ _ _ _ _ ⟨Option.some.inj h, hM⟩ rfl hZ dX7_kindOf_31
  · refine lv_iload_n hx hb dX7_kindOf_20 rfl (lv_at hl 0 rfl) ?_
    refine lv_bipush (v := 57) hx hb dX7_kindOf_21 (by decide) ?_
    refine zic_gt (tgt := 30) h E dX7_kindOf_23 (by decide) (fun c_1 h => ?_) (fun c_1 h => ?_)
    · refine lv_iconst (v := 3) hx hb dX7_kindOf_30 (by decide) ?_
      exact hret _ _ _ _ _ _ ⟨Option.some.inj h, hM⟩ rfl hZ dX7_kindOf_31
    · refine lv_iconst (v := 2) hx hb dX7_kindOf_26 (by decide) ?_
      refine lv_goto (tgt := 31) hx hb dX7_kindOf_27 (by decide) ?_
      exact hret _ _ _ _ _ _ ⟨Option.some.inj h, hM⟩ rfl hZ dX7_kindOf_31
def f_X7_kindOf (M : zM) (x0 : Int32) : Option (Int32) :=
  if x0 < 97 then (b_X7_kindOf_14  M x0) else (if 122 < x0 then (b_X7_kindOf_14  M x0) else (some 1))
set_option maxRecDepth 100000 in
set_option maxHeartbeats 4000000 in
theorem w_X7_kindOf (g : zG)  {r : Int32} {M0 : zM} (E : zX g p m c cX7_kindOf 1 s args (zWs yX7_kindOf cX7_kindOf 1 (some .int)) RX7) (hret : zRi g xE 125 p l e (zrm 2 0 0) s m args below meth c 0 0 Q cX7_kindOf .int (fun v M1 => v = r ∧ M1 = M0)) (M : zM) (hM : M = M0) (x0 : Int32) (H : Heap) (locs : List Loc) (ls : Array Slot) (h : f_X7_kindOf M x0 = some r) (hZ : zS g xE 125 s H locs M) (hl : lv_has ls 1 [(0, .int x0)]) : W p l e (zrm 2 0 0) s m args below meth c H locs 0 0 Q (F0 m 0 ls []) := by
  have hx := E.1.1
  have hb := E.1.2.1
  unfold f_X7_kindOf at h
  refine lv_iload_n hx hb dX7_kindOf_0 rfl (lv_at hl 0 rfl) ?_
  refine lv_bipush (v := 97) hx hb dX7_kindOf_1 (by decide) ?_
  refine zic_lt (tgt := 14) h E dX7_kindOf_3 (by decide) (fun c_4 h => ?_) (fun c_4 h => ?_)
  · exact lb_X7_kindOf_14 g  E hret M x0 hM  H locs ls h hZ (lv_sub hl [0] rfl)
  · refine lv_iload_n hx hb dX7_kindOf_6 rfl (lv_at hl 0 rfl) ?_
    refine lv_bipush (v := 122) hx hb dX7_kindOf_7 (by decide) ?_
    refine zic_gt (tgt := 14) h E dX7_kindOf_9 (by decide) (fun c_3 h => ?_) (fun c_3 h => ?_)
    · exact lb_X7_kindOf_14 g  E hret M x0 hM  H locs ls h hZ (lv_sub hl [0] rfl)
    · refine lv_iconst (v := 1) hx hb dX7_kindOf_12 (by decide) ?_
      exact hret _ _ _ _ _ _ ⟨Option.some.inj h, hM⟩ rfl hZ dX7_kindOf_13
theorem c_X7_kindOf (l : Launch) (g : zG) (M : zM)  (x0 : Int32) {r : Int32} (h : f_X7_kindOf M x0 = some r) : zMi l g xE 125 yX7_kindOf (zWs yX7_kindOf cX7_kindOf 1 (some .int)) 2 [.int x0] M (fun v M1 => v = r ∧ M1 = M) :=
  zMi_of (by decide +kernel) (Nat.le_of_ble_eq_true rfl) (fun p e s m args below meth c Q ls E hret hZ hl => w_X7_kindOf g  E hret M rfl x0 _ _ ls h hZ hl)
theorem v_X7_kindOf : zYS yX7_kindOf cX7_kindOf 1 (some .int) 1 := ⟨kw_600, kw_5, kw_599, by decide +kernel⟩

def b_X7_wordNumber_113 (K12 : Int32 → Int32 → Int32 → Int32 → Option (Int32)) (M : zM) (x1 : Int32) (x2 : Int32) (x3 : Int32) (x4 : Int32) : Option (Int32) :=
  znm (x4 + 1) (fun x4_1 => K12 x1 x2 x3 x4_1)
set_option maxRecDepth 100000 in
set_option maxHeartbeats 4000000 in
theorem lb_X7_wordNumber_113 (g : zG)  {r : Int32} {M0 : zM} (E : zX g p m c cX7_wordNumber 5 s args (zWs yX7_wordNumber cX7_wordNumber 5 (some .int)) RX7) (hret : zRi g xE 125 p l e (zrm 2 0 0) s m args below meth c 0 0 Q cX7_wordNumber .int (fun v M1 => v = r ∧ M1 = M0)) (M : zM) (x1 : Int32) (x2 : Int32) (x3 : Int32) (x4 : Int32) (hM : M = M0) (K12 : Int32 → Int32 → Int32 → Int32 → Option (Int32)) (hK12 : ∀ (x1 : Int32) (x2 : Int32) (x3 : Int32) (x4 : Int32) (H : Heap) (locs : List Loc) (ls : Array Slot), K12 x1 x2 x3 x4 = some r → zS g xE 125 s H locs M → lv_has ls 5 [(0, .ref (g.2.2 39)), (1, .int x1), (2, .int x2), (3, .int x3), (4, .int x4)] → W p l e (zrm 2 0 0) s m args below meth c H locs 0 0 Q (F0 m 12 ls [])) (H : Heap) (locs : List Loc) (ls : Array Slot) (h : b_X7_wordNumber_113 K12 M x1 x2 x3 x4 = some r) (hZ : zS g xE 125 s H locs M) (hl : lv_has ls 5 [(0, .ref (g.2.2 39)), (1, .int x1), (2, .int x2), (3, .int x3), (4, .int x4)]) : W p l e (zrm 2 0 0) s m args below meth c H locs 0 0 Q (F0 m 113 ls []) := by
  have hx := E.1.1
  have hb := E.1.2.1
  unfold b_X7_wordNumber_113 at h
  obtain ⟨x4_1, ex4_1, h⟩ := znm_ex h
  refine lv_iinc (v := x4_1) (lv' := [(4, .int x4_1), (0, .ref (g.2.2 39)), (1, .int x1), (2, .int x2), (3, .int x3)]) hx hb dX7_wordNumber_113 hl (k := 4) rfl (by rw [ex4_1]; rfl) (by decide) rfl (fun ls hl => ?_)
  refine lv_goto (tgt := 12) hx hb dX7_wordNumber_116 (by decide) ?_
  exact hK12 x1 x2 x3 x4_1 H locs ls h hZ (lv_sub hl [1, 2, 3, 4, 0] rfl)
def b_X7_wordNumber_109 (K12 : Int32 → Int32 → Int32 → Int32 → Option (Int32)) (M : zM) (x1 : Int32) (x2 : Int32) (x4 : Int32) (t0 : Int32) : Option (Int32) :=
  znm (x2 + 1) (fun x2_2 => b_X7_wordNumber_113 K12 M x1 x2_2 t0 x4)
set_option maxRecDepth 100000 in
set_option maxHeartbeats 4000000 in
theorem lb_X7_wordNumber_109 (g : zG)  {r : Int32} {M0 : zM} (E : zX g p m c cX7_wordNumber 5 s args (zWs yX7_wordNumber cX7_wordNumber 5 (some .int)) RX7) (hret : zRi g xE 125 p l e (zrm 2 0 0) s m args below meth c 0 0 Q cX7_wordNumber .int (fun v M1 => v = r ∧ M1 = M0)) (M : zM) (x1 : Int32) (x2 : Int32) (x4 : Int32) (t0 : Int32) (hM : M = M0) (K12 : Int32 → Int32 → Int32 → Int32 → Option (Int32)) (hK12 : ∀ (x1 : Int32) (x2 : Int32) (x3 : Int32) (x4 : Int32) (H : Heap) (locs : List Loc) (ls : Array Slot), K12 x1 x2 x3 x4 = some r → zS g xE 125 s H locs M → lv_has ls 5 [(0, .ref (g.2.2 39)), (1, .int x1), (2, .int x2), (3, .int x3), (4, .int x4)] → W p l e (zrm 2 0 0) s m args below meth c H locs 0 0 Q (F0 m 12 ls [])) (H : Heap) (locs : List Loc) (ls : Array Slot) (h : b_X7_wordNumber_109 K12 M x1 x2 x4 t0 = some r) (hZ : zS g xE 125 s H locs M) (hl : lv_has ls 5 [(0, .ref (g.2.2 39)), (1, .int x1), (2, .int x2), (4, .int x4)]) : W p l e (zrm 2 0 0) s m args below meth c H locs 0 0 Q (F0 m 109 ls [.int t0]) := by
  have hx := E.1.1
  have hb := E.1.2.1
  unfold b_X7_wordNumber_109 at h
  refine lv_istore_n (lv' := [(3, .int t0), (0, .ref (g.2.2 39)), (1, .int x1), (2, .int x2), (4, .int x4)]) hx hb dX7_wordNumber_109 rfl hl (by decide) rfl (fun ls hl => ?_)
  obtain ⟨x2_2, ex2_2, h⟩ := znm_ex h
  refine lv_iinc (v := x2_2) (lv' := [(2, .int x2_2), (3, .int t0), (0, .ref (g.2.2 39)), (1, .int x1), (4, .int x4)]) hx hb dX7_wordNumber_110 hl (k := 3) rfl (by rw [ex2_2]; rfl) (by decide) rfl (fun ls hl => ?_)
  exact lb_X7_wordNumber_113 g  E hret M x1 x2_2 t0 x4 hM K12 hK12 H locs ls h hZ (lv_sub hl [2, 3, 0, 1, 4] rfl)
def b_X7_wordNumber_108 (K12 : Int32 → Int32 → Int32 → Int32 → Option (Int32)) (M : zM) (x1 : Int32) (x2 : Int32) (x4 : Int32) : Option (Int32) :=
  b_X7_wordNumber_109 K12 M x1 x2 x4 0
set_option maxRecDepth 100000 in
set_option maxHeartbeats 4000000 in
theorem lb_X7_wordNumber_108 (g : zG)  {r : Int32} {M0 : zM} (E : zX g p m c cX7_wordNumber 5 s args (zWs yX7_wordNumber cX7_wordNumber 5 (some .int)) RX7) (hret : zRi g xE 125 p l e (zrm 2 0 0) s m args below meth c 0 0 Q cX7_wordNumber .int (fun v M1 => v = r ∧ M1 = M0)) (M : zM) (x1 : Int32) (x2 : Int32) (x4 : Int32) (hM : M = M0) (K12 : Int32 → Int32 → Int32 → Int32 → Option (Int32)) (hK12 : ∀ (x1 : Int32) (x2 : Int32) (x3 : Int32) (x4 : Int32) (H : Heap) (locs : List Loc) (ls : Array Slot), K12 x1 x2 x3 x4 = some r → zS g xE 125 s H locs M → lv_has ls 5 [(0, .ref (g.2.2 39)), (1, .int x1), (2, .int x2), (3, .int x3), (4, .int x4)] → W p l e (zrm 2 0 0) s m args below meth c H locs 0 0 Q (F0 m 12 ls [])) (H : Heap) (locs : List Loc) (ls : Array Slot) (h : b_X7_wordNumber_108 K12 M x1 x2 x4 = some r) (hZ : zS g xE 125 s H locs M) (hl : lv_has ls 5 [(0, .ref (g.2.2 39)), (1, .int x1), (2, .int x2), (4, .int x4)]) : W p l e (zrm 2 0 0) s m args below meth c H locs 0 0 Q (F0 m 108 ls []) := by
  have hx := E.1.1
  have hb := E.1.2.1
  unfold b_X7_wordNumber_108 at h
  refine lv_iconst (v := 0) hx hb dX7_wordNumber_108 (by decide) ?_
  exact lb_X7_wordNumber_109 g  E hret M x1 x2 x4 0 hM K12 hK12 H locs ls h hZ (lv_sub hl [0, 1, 2, 3] rfl)
def b_X7_wordNumber_48 (K12 : Int32 → Int32 → Int32 → Int32 → Option (Int32)) (M : zM) (x1 : Int32) (x4 : Int32) : Option (Int32) :=
  znm (x1 + 1) (fun x1_3 => znm (M 39 4) (fun x2_4 => b_X7_wordNumber_113 K12 M x1_3 x2_4 1 x4))
set_option maxRecDepth 100000 in
set_option maxHeartbeats 4000000 in
theorem lb_X7_wordNumber_48 (g : zG)  {r : Int32} {M0 : zM} (E : zX g p m c cX7_wordNumber 5 s args (zWs yX7_wordNumber cX7_wordNumber 5 (some .int)) RX7) (hret : zRi g xE 125 p l e (zrm 2 0 0) s m args below meth c 0 0 Q cX7_wordNumber .int (fun v M1 => v = r ∧ M1 = M0)) (M : zM) (x1 : Int32) (x4 : Int32) (hM : M = M0) (K12 : Int32 → Int32 → Int32 → Int32 → Option (Int32)) (hK12 : ∀ (x1 : Int32) (x2 : Int32) (x3 : Int32) (x4 : Int32) (H : Heap) (locs : List Loc) (ls : Array Slot), K12 x1 x2 x3 x4 = some r → zS g xE 125 s H locs M → lv_has ls 5 [(0, .ref (g.2.2 39)), (1, .int x1), (2, .int x2), (3, .int x3), (4, .int x4)] → W p l e (zrm 2 0 0) s m args below meth c H locs 0 0 Q (F0 m 12 ls [])) (H : Heap) (locs : List Loc) (ls : Array Slot) (h : b_X7_wordNumber_48 K12 M x1 x4 = some r) (hZ : zS g xE 125 s H locs M) (hl : lv_has ls 5 [(0, .ref (g.2.2 39)), (1, .int x1), (4, .int x4)]) : W p l e (zrm 2 0 0) s m args below meth c H locs 0 0 Q (F0 m 48 ls []) := by
  have hx := E.1.1
  have hb := E.1.2.1
  unfold b_X7_wordNumber_48 at h
  obtain ⟨x1_3, ex1_3, h⟩ := znm_ex h
  refine lv_iinc (v := x1_3) (lv' := [(1, .int x1_3), (0, .ref (g.2.2 39)), (4, .int x4)]) hx hb dX7_wordNumber_48 hl (k := 1) rfl (by rw [ex1_3]; rfl) (by decide) rfl (fun ls hl => ?_)
  refine lv_aload_n hx hb dX7_wordNumber_51 rfl (lv_at hl 1 rfl) ?_
  refine zg (v := .int (M 39 4)) E hZ (xb_X7 xs_39) ((xe_X7 xs_39) _) kc_X7 4 (by decide) kw_249 rfl rfl dX7_wordNumber_52 ?_
  refine zni h (fun x2_4 ex2_4 h => ?_)
  refine lv_istore_n (lv' := [(2, .int x2_4), (1, .int x1_3), (0, .ref (g.2.2 39)), (4, .int x4)]) hx hb dX7_wordNumber_55 rfl hl (by decide) rfl (fun ls hl => ?_)
  refine lv_iconst (v := 1) hx hb dX7_wordNumber_56 (by decide) ?_
  refine lv_istore_n (lv' := [(3, .int 1), (2, .int x2_4), (1, .int x1_3), (0, .ref (g.2.2 39)), (4, .int x4)]) hx hb dX7_wordNumber_57 rfl hl (by decide) rfl (fun ls hl => ?_)
  refine lv_goto (tgt := 113) hx hb dX7_wordNumber_58 (by decide) ?_
  exact lb_X7_wordNumber_113 g  E hret M x1_3 x2_4 1 x4 hM K12 hK12 H locs ls h hZ (lv_sub hl [3, 2, 1, 0, 4] rfl)
def b_X7_wordNumber_12  (M : zM) : Nat → Int32 → Int32 → Int32 → Int32 → Option (Int32)
  | 0, _, _, _, _ => none
  | n + 1, x1, x2, x3, x4 =>
    if 154 ≤ x4 then (some ((-1))) else (zck (zin x4 154) (if (M 40 (x4 : Int32).toNatClampNeg) = 32 then (if x3 = 0 then (b_X7_wordNumber_48 (fun x1 x2 x3 x4 => b_X7_wordNumber_12  M n x1 x2 x3 x4) M x1 x4) else (if x2 = (M 39 5) then (some x1) else (b_X7_wordNumber_48 (fun x1 x2 x3 x4 => b_X7_wordNumber_12  M n x1 x2 x3 x4) M x1 x4))) else (if x3 = 0 then (b_X7_wordNumber_108 (fun x1 x2 x3 x4 => b_X7_wordNumber_12  M n x1 x2 x3 x4) M x1 x2 x4) else (if (M 39 5) ≤ x2 then (b_X7_wordNumber_108 (fun x1 x2 x3 x4 => b_X7_wordNumber_12  M n x1 x2 x3 x4) M x1 x2 x4) else (if 400 ≤ x2 then (b_X7_wordNumber_108 (fun x1 x2 x3 x4 => b_X7_wordNumber_12  M n x1 x2 x3 x4) M x1 x2 x4) else (zck (zin x2 400) (zck (zin x4 154) (if (M 2 (x2 : Int32).toNatClampNeg) = (M 40 (x4 : Int32).toNatClampNeg) then (b_X7_wordNumber_109 (fun x1 x2 x3 x4 => b_X7_wordNumber_12  M n x1 x2 x3 x4) M x1 x2 x4 1) else (b_X7_wordNumber_108 (fun x1 x2 x3 x4 => b_X7_wordNumber_12  M n x1 x2 x3 x4) M x1 x2 x4)))))))))
set_option maxRecDepth 100000 in
set_option maxHeartbeats 4000000 in
theorem lb_X7_wordNumber_12 (g : zG)  {r : Int32} {M0 : zM} (E : zX g p m c cX7_wordNumber 5 s args (zWs yX7_wordNumber cX7_wordNumber 5 (some .int)) RX7) (hret : zRi g xE 125 p l e (zrm 2 0 0) s m args below meth c 0 0 Q cX7_wordNumber .int (fun v M1 => v = r ∧ M1 = M0)) (M : zM) (hM : M = M0)  : ∀ (n : Nat) (x1 : Int32) (x2 : Int32) (x3 : Int32) (x4 : Int32) (H : Heap) (locs : List Loc) (ls : Array Slot), b_X7_wordNumber_12  M n x1 x2 x3 x4 = some r → zS g xE 125 s H locs M → lv_has ls 5 [(0, .ref (g.2.2 39)), (1, .int x1), (2, .int x2), (3, .int x3), (4, .int x4)] → W p l e (zrm 2 0 0) s m args below meth c H locs 0 0 Q (F0 m 12 ls []) := by
  have hx := E.1.1
  have hb := E.1.2.1
  intro n
  induction n with
  | zero => intro x1 x2 x3 x4 H locs ls h hZ hl; cases h
  | succ n ih =>
    intro x1 x2 x3 x4 H locs ls h hZ hl
    rw [b_X7_wordNumber_12] at h
    refine lv_iload hx hb dX7_wordNumber_12 (lv_at hl 4 rfl) ?_
    refine lv_aload_n hx hb dX7_wordNumber_14 rfl (lv_at hl 0 rfl) ?_
    refine zg (v := .ref (g.2.2 40)) E hZ (xb_X7 xs_39) ((xe_X7 xs_39) _) kc_X7 1 (by decide) kw_246 rfl rfl dX7_wordNumber_15 ?_
    refine zal (v := 154) E hZ 1 rfl (by decide) (xe_CL xs_40) (by decide) dX7_wordNumber_18 ?_
    refine zic_ge (tgt := 119) h E dX7_wordNumber_19 (by decide) (fun c_12 h => ?_) (fun c_12 h => ?_)
    · refine lv_iconst (v := (-1)) hx hb dX7_wordNumber_119 (by decide) ?_
      exact hret _ _ _ _ _ _ ⟨Option.some.inj h, hM⟩ rfl hZ dX7_wordNumber_120
    · refine lv_aload_n hx hb dX7_wordNumber_22 rfl (lv_at hl 0 rfl) ?_
      refine zg (v := .ref (g.2.2 40)) E hZ (xb_X7 xs_39) ((xe_X7 xs_39) _) kc_X7 1 (by decide) kw_246 rfl rfl dX7_wordNumber_23 ?_
      refine lv_iload hx hb dX7_wordNumber_26 (lv_at hl 4 rfl) ?_
      refine zca h E hZ (by decide) (xe_CL xs_40) dX7_wordNumber_28 (fun h => ?_)
      refine lv_bipush (v := 32) hx hb dX7_wordNumber_29 (by decide) ?_
      refine zic_ne (tgt := 61) h E dX7_wordNumber_31 (by decide) (fun c_11 h => ?_) (fun c_11 h => ?_)
      · refine lv_iload_n hx hb dX7_wordNumber_61 rfl (lv_at hl 3 rfl) ?_
        refine zif_eq (tgt := 108) h E dX7_wordNumber_62 (by decide) (fun c_8 h => ?_) (fun c_8 h => ?_)
        · exact lb_X7_wordNumber_108 g  E hret M x1 x2 x4 hM (fun x1 x2 x3 x4 => b_X7_wordNumber_12  M n x1 x2 x3 x4) ih H locs ls h hZ (lv_sub hl [0, 1, 2, 4] rfl)
        · refine lv_iload_n hx hb dX7_wordNumber_65 rfl (lv_at hl 2 rfl) ?_
          refine lv_aload_n hx hb dX7_wordNumber_66 rfl (lv_at hl 0 rfl) ?_
          refine zg (v := .int (M 39 5)) E hZ (xb_X7 xs_39) ((xe_X7 xs_39) _) kc_X7 5 (by decide) kw_250 rfl rfl dX7_wordNumber_67 ?_
          refine zic_ge (tgt := 108) h E dX7_wordNumber_70 (by decide) (fun c_7 h => ?_) (fun c_7 h => ?_)
          · exact lb_X7_wordNumber_108 g  E hret M x1 x2 x4 hM (fun x1 x2 x3 x4 => b_X7_wordNumber_12  M n x1 x2 x3 x4) ih H locs ls h hZ (lv_sub hl [0, 1, 2, 4] rfl)
          · refine lv_iload_n hx hb dX7_wordNumber_73 rfl (lv_at hl 2 rfl) ?_
            refine lv_aload_n hx hb dX7_wordNumber_74 rfl (lv_at hl 0 rfl) ?_
            refine zg (v := .ref (g.2.2 1)) E hZ (xb_X7 xs_39) ((xe_X7 xs_39) _) kc_X7 0 (by decide) kw_245 rfl rfl dX7_wordNumber_75 ?_
            refine zg (v := .ref (g.2.2 2)) E hZ (xb_X6 xs_1) ((xe_X6 xs_1) _) kc_X6 0 (by decide) kw_43 rfl rfl dX7_wordNumber_78 ?_
            refine zal (v := 400) E hZ 0 rfl (xb_I xs_2.1) (xe_IL xs_2) (by decide) dX7_wordNumber_81 ?_
            refine zic_ge (tgt := 108) h E dX7_wordNumber_82 (by decide) (fun c_6 h => ?_) (fun c_6 h => ?_)
            · exact lb_X7_wordNumber_108 g  E hret M x1 x2 x4 hM (fun x1 x2 x3 x4 => b_X7_wordNumber_12  M n x1 x2 x3 x4) ih H locs ls h hZ (lv_sub hl [0, 1, 2, 4] rfl)
            · refine lv_aload_n hx hb dX7_wordNumber_85 rfl (lv_at hl 0 rfl) ?_
              refine zg (v := .ref (g.2.2 1)) E hZ (xb_X7 xs_39) ((xe_X7 xs_39) _) kc_X7 0 (by decide) kw_245 rfl rfl dX7_wordNumber_86 ?_
              refine zg (v := .ref (g.2.2 2)) E hZ (xb_X6 xs_1) ((xe_X6 xs_1) _) kc_X6 0 (by decide) kw_43 rfl rfl dX7_wordNumber_89 ?_
              refine lv_iload_n hx hb dX7_wordNumber_92 rfl (lv_at hl 2 rfl) ?_
              refine zia h E hZ (xb_I xs_2.1) (xe_IL xs_2) dX7_wordNumber_93 (fun h => ?_)
              refine lv_aload_n hx hb dX7_wordNumber_94 rfl (lv_at hl 0 rfl) ?_
              refine zg (v := .ref (g.2.2 40)) E hZ (xb_X7 xs_39) ((xe_X7 xs_39) _) kc_X7 1 (by decide) kw_246 rfl rfl dX7_wordNumber_95 ?_
              refine lv_iload hx hb dX7_wordNumber_98 (lv_at hl 4 rfl) ?_
              refine zca h E hZ (by decide) (xe_CL xs_40) dX7_wordNumber_100 (fun h => ?_)
              refine zic_ne (tgt := 108) h E dX7_wordNumber_101 (by decide) (fun c_5 h => ?_) (fun c_5 h => ?_)
              · exact lb_X7_wordNumber_108 g  E hret M x1 x2 x4 hM (fun x1 x2 x3 x4 => b_X7_wordNumber_12  M n x1 x2 x3 x4) ih H locs ls h hZ (lv_sub hl [0, 1, 2, 4] rfl)
              · refine lv_iconst (v := 1) hx hb dX7_wordNumber_104 (by decide) ?_
                refine lv_goto (tgt := 109) hx hb dX7_wordNumber_105 (by decide) ?_
                exact lb_X7_wordNumber_109 g  E hret M x1 x2 x4 1 hM (fun x1 x2 x3 x4 => b_X7_wordNumber_12  M n x1 x2 x3 x4) ih H locs ls h hZ (lv_sub hl [0, 1, 2, 4] rfl)
      · refine lv_iload_n hx hb dX7_wordNumber_34 rfl (lv_at hl 3 rfl) ?_
        refine zif_eq (tgt := 48) h E dX7_wordNumber_35 (by decide) (fun c_10 h => ?_) (fun c_10 h => ?_)
        · exact lb_X7_wordNumber_48 g  E hret M x1 x4 hM (fun x1 x2 x3 x4 => b_X7_wordNumber_12  M n x1 x2 x3 x4) ih H locs ls h hZ (lv_sub hl [0, 1, 4] rfl)
        · refine lv_iload_n hx hb dX7_wordNumber_38 rfl (lv_at hl 2 rfl) ?_
          refine lv_aload_n hx hb dX7_wordNumber_39 rfl (lv_at hl 0 rfl) ?_
          refine zg (v := .int (M 39 5)) E hZ (xb_X7 xs_39) ((xe_X7 xs_39) _) kc_X7 5 (by decide) kw_250 rfl rfl dX7_wordNumber_40 ?_
          refine zic_ne (tgt := 48) h E dX7_wordNumber_43 (by decide) (fun c_9 h => ?_) (fun c_9 h => ?_)
          · exact lb_X7_wordNumber_48 g  E hret M x1 x4 hM (fun x1 x2 x3 x4 => b_X7_wordNumber_12  M n x1 x2 x3 x4) ih H locs ls h hZ (lv_sub hl [0, 1, 4] rfl)
          · refine lv_iload_n hx hb dX7_wordNumber_46 rfl (lv_at hl 1 rfl) ?_
            exact hret _ _ _ _ _ _ ⟨Option.some.inj h, hM⟩ rfl hZ dX7_wordNumber_47
def f_X7_wordNumber (M : zM)  : Option (Int32) :=
  znm (M 39 4) (fun x2_13 => b_X7_wordNumber_12  M 6000 0 x2_13 1 0)
set_option maxRecDepth 100000 in
set_option maxHeartbeats 4000000 in
theorem w_X7_wordNumber (g : zG)  {r : Int32} {M0 : zM} (E : zX g p m c cX7_wordNumber 5 s args (zWs yX7_wordNumber cX7_wordNumber 5 (some .int)) RX7) (hret : zRi g xE 125 p l e (zrm 2 0 0) s m args below meth c 0 0 Q cX7_wordNumber .int (fun v M1 => v = r ∧ M1 = M0)) (M : zM) (hM : M = M0)  (H : Heap) (locs : List Loc) (ls : Array Slot) (h : f_X7_wordNumber M  = some r) (hZ : zS g xE 125 s H locs M) (hl : lv_has ls 5 [(0, .ref (g.2.2 39))]) : W p l e (zrm 2 0 0) s m args below meth c H locs 0 0 Q (F0 m 0 ls []) := by
  have hx := E.1.1
  have hb := E.1.2.1
  unfold f_X7_wordNumber at h
  refine lv_iconst (v := 0) hx hb dX7_wordNumber_0 (by decide) ?_
  refine lv_istore_n (lv' := [(1, .int 0), (0, .ref (g.2.2 39))]) hx hb dX7_wordNumber_1 rfl hl (by decide) rfl (fun ls hl => ?_)
  refine lv_aload_n hx hb dX7_wordNumber_2 rfl (lv_at hl 1 rfl) ?_
  refine zg (v := .int (M 39 4)) E hZ (xb_X7 xs_39) ((xe_X7 xs_39) _) kc_X7 4 (by decide) kw_249 rfl rfl dX7_wordNumber_3 ?_
  refine zni h (fun x2_13 ex2_13 h => ?_)
  refine lv_istore_n (lv' := [(2, .int x2_13), (1, .int 0), (0, .ref (g.2.2 39))]) hx hb dX7_wordNumber_6 rfl hl (by decide) rfl (fun ls hl => ?_)
  refine lv_iconst (v := 1) hx hb dX7_wordNumber_7 (by decide) ?_
  refine lv_istore_n (lv' := [(3, .int 1), (2, .int x2_13), (1, .int 0), (0, .ref (g.2.2 39))]) hx hb dX7_wordNumber_8 rfl hl (by decide) rfl (fun ls hl => ?_)
  refine lv_iconst (v := 0) hx hb dX7_wordNumber_9 (by decide) ?_
  refine lv_istore (lv' := [(4, .int 0), (3, .int 1), (2, .int x2_13), (1, .int 0), (0, .ref (g.2.2 39))]) hx hb dX7_wordNumber_10 hl (by decide) rfl (fun ls hl => ?_)
  exact lb_X7_wordNumber_12 g  E hret M hM  6000 0 x2_13 1 0 H locs ls h hZ (lv_sub hl [4, 3, 2, 1, 0] rfl)
theorem c_X7_wordNumber (l : Launch) (g : zG) (M : zM)   {r : Int32} (h : f_X7_wordNumber M  = some r) : zMi l g xE 125 yX7_wordNumber (zWs yX7_wordNumber cX7_wordNumber 5 (some .int)) 2 [.ref (g.2.2 39)] M (fun v M1 => v = r ∧ M1 = M) :=
  zMi_of (by decide +kernel) (Nat.le_of_ble_eq_true rfl) (fun p e s m args below meth c Q ls E hret hZ hl => w_X7_wordNumber g  E hret M rfl  _ _ ls h hZ hl)
theorem v_X7_wordNumber : zYV yX7_wordNumber cX7_wordNumber 5 (some .int) 0 := ⟨kw_604, kw_5, kw_603, kp_7, by decide +kernel⟩

def b_X7_digits_22  (M : zM) : Nat → Int32 → Int32 → Option (Int32)
  | 0, _, _ => none
  | n + 1, x1, x2 =>
    if (M 39 5) ≤ x2 then (some x1) else (if 400 ≤ x2 then (some x1) else (zck (zin x2 400) (znm (((10 * x1) + (M 2 (x2 : Int32).toNatClampNeg)) - 48) (fun x1_1 => znm (x2 + 1) (fun x2_2 => b_X7_digits_22  M n x1_1 x2_2)))))
set_option maxRecDepth 100000 in
set_option maxHeartbeats 4000000 in
theorem lb_X7_digits_22 (g : zG)  {r : Int32} {M0 : zM} (E : zX g p m c cX7_digits 3 s args (zWs yX7_digits cX7_digits 3 (some .int)) RX7) (hret : zRi g xE 125 p l e (zrm 2 0 0) s m args below meth c 0 0 Q cX7_digits .int (fun v M1 => v = r ∧ M1 = M0)) (M : zM) (hM : M = M0)  : ∀ (n : Nat) (x1 : Int32) (x2 : Int32) (H : Heap) (locs : List Loc) (ls : Array Slot), b_X7_digits_22  M n x1 x2 = some r → zS g xE 125 s H locs M → lv_has ls 3 [(0, .ref (g.2.2 39)), (1, .int x1), (2, .int x2)] → W p l e (zrm 2 0 0) s m args below meth c H locs 0 0 Q (F0 m 22 ls []) := by
  have hx := E.1.1
  have hb := E.1.2.1
  intro n
  induction n with
  | zero => intro x1 x2 H locs ls h hZ hl; cases h
  | succ n ih =>
    intro x1 x2 H locs ls h hZ hl
    rw [b_X7_digits_22] at h
    refine lv_iload_n hx hb dX7_digits_22 rfl (lv_at hl 2 rfl) ?_
    refine lv_aload_n hx hb dX7_digits_23 rfl (lv_at hl 0 rfl) ?_
    refine zg (v := .int (M 39 5)) E hZ (xb_X7 xs_39) ((xe_X7 xs_39) _) kc_X7 5 (by decide) kw_250 rfl rfl dX7_digits_24 ?_
    refine zic_ge (tgt := 66) h E dX7_digits_27 (by decide) (fun c_4 h => ?_) (fun c_4 h => ?_)
    · refine lv_iload_n hx hb dX7_digits_66 rfl (lv_at hl 1 rfl) ?_
      exact hret _ _ _ _ _ _ ⟨Option.some.inj h, hM⟩ rfl hZ dX7_digits_67
    · refine lv_iload_n hx hb dX7_digits_30 rfl (lv_at hl 2 rfl) ?_
      refine lv_aload_n hx hb dX7_digits_31 rfl (lv_at hl 0 rfl) ?_
      refine zg (v := .ref (g.2.2 1)) E hZ (xb_X7 xs_39) ((xe_X7 xs_39) _) kc_X7 0 (by decide) kw_245 rfl rfl dX7_digits_32 ?_
      refine zg (v := .ref (g.2.2 2)) E hZ (xb_X6 xs_1) ((xe_X6 xs_1) _) kc_X6 0 (by decide) kw_43 rfl rfl dX7_digits_35 ?_
      refine zal (v := 400) E hZ 0 rfl (xb_I xs_2.1) (xe_IL xs_2) (by decide) dX7_digits_38 ?_
      refine zic_ge (tgt := 66) h E dX7_digits_39 (by decide) (fun c_3 h => ?_) (fun c_3 h => ?_)
      · refine lv_iload_n hx hb dX7_digits_66 rfl (lv_at hl 1 rfl) ?_
        exact hret _ _ _ _ _ _ ⟨Option.some.inj h, hM⟩ rfl hZ dX7_digits_67
      · refine lv_bipush (v := 10) hx hb dX7_digits_42 (by decide) ?_
        refine lv_iload_n hx hb dX7_digits_44 rfl (lv_at hl 1 rfl) ?_
        refine lv_imul hx hb dX7_digits_45 ?_
        refine lv_aload_n hx hb dX7_digits_46 rfl (lv_at hl 0 rfl) ?_
        refine zg (v := .ref (g.2.2 1)) E hZ (xb_X7 xs_39) ((xe_X7 xs_39) _) kc_X7 0 (by decide) kw_245 rfl rfl dX7_digits_47 ?_
        refine zg (v := .ref (g.2.2 2)) E hZ (xb_X6 xs_1) ((xe_X6 xs_1) _) kc_X6 0 (by decide) kw_43 rfl rfl dX7_digits_50 ?_
        refine lv_iload_n hx hb dX7_digits_53 rfl (lv_at hl 2 rfl) ?_
        refine zia h E hZ (xb_I xs_2.1) (xe_IL xs_2) dX7_digits_54 (fun h => ?_)
        refine lv_iadd hx hb dX7_digits_55 ?_
        refine lv_bipush (v := 48) hx hb dX7_digits_56 (by decide) ?_
        refine lv_isub hx hb dX7_digits_58 ?_
        refine zni h (fun x1_1 ex1_1 h => ?_)
        refine lv_istore_n (lv' := [(1, .int x1_1), (0, .ref (g.2.2 39)), (2, .int x2)]) hx hb dX7_digits_59 rfl hl (by decide) rfl (fun ls hl => ?_)
        obtain ⟨x2_2, ex2_2, h⟩ := znm_ex h
        refine lv_iinc (v := x2_2) (lv' := [(2, .int x2_2), (1, .int x1_1), (0, .ref (g.2.2 39))]) hx hb dX7_digits_60 hl (k := 2) rfl (by rw [ex2_2]; rfl) (by decide) rfl (fun ls hl => ?_)
        refine lv_goto (tgt := 22) hx hb dX7_digits_63 (by decide) ?_
        exact ih x1_1 x2_2 H locs ls h hZ (lv_sub hl [2, 1, 0] rfl)
def f_X7_digits (M : zM)  : Option (Int32) :=
  if ((M 39 5) - (M 39 4)) ≤ 3 then (znm (M 39 4) (fun x2_5 => b_X7_digits_22  M 6000 0 x2_5)) else (some ((-1)))
set_option maxRecDepth 100000 in
set_option maxHeartbeats 4000000 in
theorem w_X7_digits (g : zG)  {r : Int32} {M0 : zM} (E : zX g p m c cX7_digits 3 s args (zWs yX7_digits cX7_digits 3 (some .int)) RX7) (hret : zRi g xE 125 p l e (zrm 2 0 0) s m args below meth c 0 0 Q cX7_digits .int (fun v M1 => v = r ∧ M1 = M0)) (M : zM) (hM : M = M0)  (H : Heap) (locs : List Loc) (ls : Array Slot) (h : f_X7_digits M  = some r) (hZ : zS g xE 125 s H locs M) (hl : lv_has ls 3 [(0, .ref (g.2.2 39))]) : W p l e (zrm 2 0 0) s m args below meth c H locs 0 0 Q (F0 m 0 ls []) := by
  have hx := E.1.1
  have hb := E.1.2.1
  unfold f_X7_digits at h
  refine lv_aload_n hx hb dX7_digits_0 rfl (lv_at hl 0 rfl) ?_
  refine zg (v := .int (M 39 5)) E hZ (xb_X7 xs_39) ((xe_X7 xs_39) _) kc_X7 5 (by decide) kw_250 rfl rfl dX7_digits_1 ?_
  refine lv_aload_n hx hb dX7_digits_4 rfl (lv_at hl 0 rfl) ?_
  refine zg (v := .int (M 39 4)) E hZ (xb_X7 xs_39) ((xe_X7 xs_39) _) kc_X7 4 (by decide) kw_249 rfl rfl dX7_digits_5 ?_
  refine lv_isub hx hb dX7_digits_8 ?_
  refine lv_iconst (v := 3) hx hb dX7_digits_9 (by decide) ?_
  refine zic_le (tgt := 15) h E dX7_digits_10 (by decide) (fun c_6 h => ?_) (fun c_6 h => ?_)
  · refine lv_iconst (v := 0) hx hb dX7_digits_15 (by decide) ?_
    refine lv_istore_n (lv' := [(1, .int 0), (0, .ref (g.2.2 39))]) hx hb dX7_digits_16 rfl hl (by decide) rfl (fun ls hl => ?_)
    refine lv_aload_n hx hb dX7_digits_17 rfl (lv_at hl 1 rfl) ?_
    refine zg (v := .int (M 39 4)) E hZ (xb_X7 xs_39) ((xe_X7 xs_39) _) kc_X7 4 (by decide) kw_249 rfl rfl dX7_digits_18 ?_
    refine zni h (fun x2_5 ex2_5 h => ?_)
    refine lv_istore_n (lv' := [(2, .int x2_5), (1, .int 0), (0, .ref (g.2.2 39))]) hx hb dX7_digits_21 rfl hl (by decide) rfl (fun ls hl => ?_)
    exact lb_X7_digits_22 g  E hret M hM  6000 0 x2_5 H locs ls h hZ (lv_sub hl [2, 1, 0] rfl)
  · refine lv_iconst (v := (-1)) hx hb dX7_digits_13 (by decide) ?_
    exact hret _ _ _ _ _ _ ⟨Option.some.inj h, hM⟩ rfl hZ dX7_digits_14
theorem c_X7_digits (l : Launch) (g : zG) (M : zM)   {r : Int32} (h : f_X7_digits M  = some r) : zMi l g xE 125 yX7_digits (zWs yX7_digits cX7_digits 3 (some .int)) 2 [.ref (g.2.2 39)] M (fun v M1 => v = r ∧ M1 = M) :=
  zMi_of (by decide +kernel) (Nat.le_of_ble_eq_true rfl) (fun p e s m args below meth c Q ls E hret hZ hl => w_X7_digits g  E hret M rfl  _ _ ls h hZ hl)
theorem v_X7_digits : zYV yX7_digits cX7_digits 3 (some .int) 0 := ⟨kw_608, kw_5, kw_607, kp_8, by decide +kernel⟩

def b_X7_next_201  (M : zM) (t0 : Int32) : Option (zM) :=
  znm (zu M 39 3 t0) (fun M_1 => some M_1)
set_option maxRecDepth 100000 in
set_option maxHeartbeats 4000000 in
theorem lb_X7_next_201 (g : zG)  {r : zM} (E : zX g p m c cX7_next 3 s args (zWs yX7_next cX7_next 3 none) RX7) (hret : zRv g xE 125 p l e (zrm 3 0 0) s m args below meth c 0 0 Q cX7_next (fun M1 => M1 = r)) (M : zM) (t0 : Int32)  (H : Heap) (locs : List Loc) (ls : Array Slot) (h : b_X7_next_201  M t0 = some r) (hZ : zS g xE 125 s H locs M) (hl : lv_has ls 3 []) : W p l e (zrm 3 0 0) s m args below meth c H locs 0 0 Q (F0 m 201 ls [.int t0, .ref (g.2.2 39)]) := by
  have hx := E.1.1
  have hb := E.1.2.1
  unfold b_X7_next_201 at h
  refine zp h E hZ (xb_X7 xs_39) ((xe_X7 xs_39) _) (((xe_X7 xs_39) _).trans (congrArg (fun z => Sum.inr (6, z)) (fs_X7_3 g _ _ _))) kc_X7 (by decide) kw_248 rfl rfl rfl (Nat.le_of_ble_eq_true rfl) dX7_next_201 (fun M_1 H locs eM_1 h hZ => ?_)
  exact hret _ _ _ _ _ (Option.some.inj h) hZ dX7_next_204
def b_X7_next_169  (M : zM) (x2 : Int32) : Option (zM) :=
  if (M 39 2) = 1 then (zbn (f_X7_wordNumber M ) (fun u_4 => b_X7_next_201  M u_4)) else (if (M 39 2) = 2 then (zbn (f_X7_digits M ) (fun u_2 => b_X7_next_201  M u_2)) else (b_X7_next_201  M x2))
set_option maxRecDepth 100000 in
set_option maxHeartbeats 4000000 in
theorem lb_X7_next_169 (g : zG)  {r : zM} (E : zX g p m c cX7_next 3 s args (zWs yX7_next cX7_next 3 none) RX7) (hret : zRv g xE 125 p l e (zrm 3 0 0) s m args below meth c 0 0 Q cX7_next (fun M1 => M1 = r)) (M : zM) (x2 : Int32)  (H : Heap) (locs : List Loc) (ls : Array Slot) (h : b_X7_next_169  M x2 = some r) (hZ : zS g xE 125 s H locs M) (hl : lv_has ls 3 [(0, .ref (g.2.2 39)), (2, .int x2)]) : W p l e (zrm 3 0 0) s m args below meth c H locs 0 0 Q (F0 m 169 ls []) := by
  have hx := E.1.1
  have hb := E.1.2.1
  unfold b_X7_next_169 at h
  refine lv_aload_n hx hb dX7_next_169 rfl (lv_at hl 0 rfl) ?_
  refine lv_aload_n hx hb dX7_next_170 rfl (lv_at hl 0 rfl) ?_
  refine zg (v := .int (M 39 2)) E hZ (xb_X7 xs_39) ((xe_X7 xs_39) _) kc_X7 2 (by decide) kw_247 rfl rfl dX7_next_171 ?_
  refine lv_iconst (v := 1) hx hb dX7_next_174 (by decide) ?_
  refine zic_ne (tgt := 185) h E dX7_next_175 (by decide) (fun c_5 h => ?_) (fun c_5 h => ?_)
  · refine lv_aload_n hx hb dX7_next_185 rfl (lv_at hl 0 rfl) ?_
    refine zg (v := .int (M 39 2)) E hZ (xb_X7 xs_39) ((xe_X7 xs_39) _) kc_X7 2 (by decide) kw_247 rfl rfl dX7_next_186 ?_
    refine lv_iconst (v := 2) hx hb dX7_next_189 (by decide) ?_
    refine zic_ne (tgt := 200) h E dX7_next_190 (by decide) (fun c_3 h => ?_) (fun c_3 h => ?_)
    · refine lv_iload_n hx hb dX7_next_200 rfl (lv_at hl 1 rfl) ?_
      exact lb_X7_next_201 g  E hret M x2  H locs ls h hZ (lv_sub hl [] rfl)
    · refine lv_aload_n hx hb dX7_next_193 rfl (lv_at hl 0 rfl) ?_
      obtain ⟨u_2, qu_2, h⟩ := zbn_some h
      refine zciR (zrunV E hZ (xb_X7 xs_39) ((xe_X7 xs_39) _) rfl rfl v_X7_digits kw_605 (c_X7_digits l g M   qu_2 _) rfl hl.1 rfl (Nat.le_of_ble_eq_true rfl) ⟨by decide, by decide⟩ ⟨by decide, by decide⟩ dX7_next_194) hZ (fun H locs hZ => ?_)
      refine lv_goto (tgt := 201) hx hb dX7_next_197 (by decide) ?_
      exact lb_X7_next_201 g  E hret M u_2  H locs ls h hZ (lv_sub hl [] rfl)
  · refine lv_aload_n hx hb dX7_next_178 rfl (lv_at hl 0 rfl) ?_
    obtain ⟨u_4, qu_4, h⟩ := zbn_some h
    refine zciR (zrunV E hZ (xb_X7 xs_39) ((xe_X7 xs_39) _) rfl rfl v_X7_wordNumber kw_601 (c_X7_wordNumber l g M   qu_4 _) rfl hl.1 rfl (Nat.le_of_ble_eq_true rfl) ⟨by decide, by decide⟩ ⟨by decide, by decide⟩ dX7_next_179) hZ (fun H locs hZ => ?_)
    refine lv_goto (tgt := 201) hx hb dX7_next_182 (by decide) ?_
    exact lb_X7_next_201 g  E hret M u_4  H locs ls h hZ (lv_sub hl [] rfl)
def b_X7_next_118  (x1 : Int32) (x2 : Int32) : Nat → zM → Option (zM)
  | 0, _ => none
  | n + 1, M =>
    if x1 ≤ (M 39 5) then (b_X7_next_169  M x2) else (if (M 39 2) = 3 then (b_X7_next_169  M x2) else (zck (zin (M 39 5) 400) (zbn (f_X7_kindOf M (M 2 (M 39 5 : Int32).toNatClampNeg)) (fun u_6 => if u_6 = (M 39 2) then (znm (zu M 39 5 ((M 39 5) + 1)) (fun M_7 => b_X7_next_118  x1 x2 n M_7)) else (b_X7_next_169  M x2)))))
set_option maxRecDepth 100000 in
set_option maxHeartbeats 4000000 in
theorem lb_X7_next_118 (g : zG)  {r : zM} (E : zX g p m c cX7_next 3 s args (zWs yX7_next cX7_next 3 none) RX7) (hret : zRv g xE 125 p l e (zrm 3 0 0) s m args below meth c 0 0 Q cX7_next (fun M1 => M1 = r)) (x1 : Int32) (x2 : Int32)  : ∀ (n : Nat) (M : zM) (H : Heap) (locs : List Loc) (ls : Array Slot), b_X7_next_118  x1 x2 n M = some r → zS g xE 125 s H locs M → lv_has ls 3 [(0, .ref (g.2.2 39)), (1, .int x1), (2, .int x2)] → W p l e (zrm 3 0 0) s m args below meth c H locs 0 0 Q (F0 m 118 ls []) := by
  have hx := E.1.1
  have hb := E.1.2.1
  intro n
  induction n with
  | zero => intro M H locs ls h hZ hl; cases h
  | succ n ih =>
    intro M H locs ls h hZ hl
    rw [b_X7_next_118] at h
    refine lv_aload_n hx hb dX7_next_118 rfl (lv_at hl 0 rfl) ?_
    refine zg (v := .int (M 39 5)) E hZ (xb_X7 xs_39) ((xe_X7 xs_39) _) kc_X7 5 (by decide) kw_250 rfl rfl dX7_next_119 ?_
    refine lv_iload_n hx hb dX7_next_122 rfl (lv_at hl 1 rfl) ?_
    refine zic_ge (tgt := 169) h E dX7_next_123 (by decide) (fun c_10 h => ?_) (fun c_10 h => ?_)
    · exact lb_X7_next_169 g  E hret M x2  H locs ls h hZ (lv_sub hl [0, 2] rfl)
    · refine lv_aload_n hx hb dX7_next_126 rfl (lv_at hl 0 rfl) ?_
      refine zg (v := .int (M 39 2)) E hZ (xb_X7 xs_39) ((xe_X7 xs_39) _) kc_X7 2 (by decide) kw_247 rfl rfl dX7_next_127 ?_
      refine lv_iconst (v := 3) hx hb dX7_next_130 (by decide) ?_
      refine zic_eq (tgt := 169) h E dX7_next_131 (by decide) (fun c_9 h => ?_) (fun c_9 h => ?_)
      · exact lb_X7_next_169 g  E hret M x2  H locs ls h hZ (lv_sub hl [0, 2] rfl)
      · refine lv_aload_n hx hb dX7_next_134 rfl (lv_at hl 0 rfl) ?_
        refine zg (v := .ref (g.2.2 1)) E hZ (xb_X7 xs_39) ((xe_X7 xs_39) _) kc_X7 0 (by decide) kw_245 rfl rfl dX7_next_135 ?_
        refine zg (v := .ref (g.2.2 2)) E hZ (xb_X6 xs_1) ((xe_X6 xs_1) _) kc_X6 0 (by decide) kw_43 rfl rfl dX7_next_138 ?_
        refine lv_aload_n hx hb dX7_next_141 rfl (lv_at hl 0 rfl) ?_
        refine zg (v := .int (M 39 5)) E hZ (xb_X7 xs_39) ((xe_X7 xs_39) _) kc_X7 5 (by decide) kw_250 rfl rfl dX7_next_142 ?_
        refine zia h E hZ (xb_I xs_2.1) (xe_IL xs_2) dX7_next_145 (fun h => ?_)
        obtain ⟨u_6, qu_6, h⟩ := zbn_some h
        refine zciR (zrunS E hZ v_X7_kindOf kw_598 (c_X7_kindOf l g M  (M 2 (M 39 5 : Int32).toNatClampNeg) qu_6 _) rfl hl.1 rfl (Nat.le_of_ble_eq_true rfl) ⟨by decide, by decide⟩ ⟨by decide, by decide⟩ dX7_next_146) hZ (fun H locs hZ => ?_)
        refine lv_aload_n hx hb dX7_next_149 rfl (lv_at hl 0 rfl) ?_
        refine zg (v := .int (M 39 2)) E hZ (xb_X7 xs_39) ((xe_X7 xs_39) _) kc_X7 2 (by decide) kw_247 rfl rfl dX7_next_150 ?_
        refine zic_ne (tgt := 169) h E dX7_next_153 (by decide) (fun c_8 h => ?_) (fun c_8 h => ?_)
        · exact lb_X7_next_169 g  E hret M x2  H locs ls h hZ (lv_sub hl [0, 2] rfl)
        · refine lv_aload_n hx hb dX7_next_156 rfl (lv_at hl 0 rfl) ?_
          refine lv_dup hx hb dX7_next_157 rfl ?_
          refine zg (v := .int (M 39 5)) E hZ (xb_X7 xs_39) ((xe_X7 xs_39) _) kc_X7 5 (by decide) kw_250 rfl rfl dX7_next_158 ?_
          refine lv_iconst (v := 1) hx hb dX7_next_161 (by decide) ?_
          refine lv_iadd hx hb dX7_next_162 ?_
          refine zp h E hZ (xb_X7 xs_39) ((xe_X7 xs_39) _) (((xe_X7 xs_39) _).trans (congrArg (fun z => Sum.inr (6, z)) (fs_X7_5 g _ _ _))) kc_X7 (by decide) kw_250 rfl rfl rfl (Nat.le_of_ble_eq_true rfl) dX7_next_163 (fun M_7 H locs eM_7 h hZ => ?_)
          refine lv_goto (tgt := 118) hx hb dX7_next_166 (by decide) ?_
          exact ih M_7 H locs ls h hZ (lv_sub hl [0, 1, 2] rfl)
def b_X7_next_65  (M : zM) (x1 : Int32) : Option (zM) :=
  znm (zu M 39 5 (M 39 4)) (fun M_11 => if (M_11 39 4) < x1 then (zck (zin (M_11 39 4) 400) (znm (M_11 2 (M_11 39 4 : Int32).toNatClampNeg) (fun x2_12 => zbn (f_X7_kindOf M_11 x2_12) (fun u_13 => znm (zu M_11 39 2 u_13) (fun M_14 => znm (zu M_14 39 5 ((M_14 39 4) + 1)) (fun M_15 => b_X7_next_118  x1 x2_12 6000 M_15)))))) else (znm (zu M_11 39 2 0) (fun M_16 => some M_16)))
set_option maxRecDepth 100000 in
set_option maxHeartbeats 4000000 in
theorem lb_X7_next_65 (g : zG)  {r : zM} (E : zX g p m c cX7_next 3 s args (zWs yX7_next cX7_next 3 none) RX7) (hret : zRv g xE 125 p l e (zrm 3 0 0) s m args below meth c 0 0 Q cX7_next (fun M1 => M1 = r)) (M : zM) (x1 : Int32)  (H : Heap) (locs : List Loc) (ls : Array Slot) (h : b_X7_next_65  M x1 = some r) (hZ : zS g xE 125 s H locs M) (hl : lv_has ls 3 [(0, .ref (g.2.2 39)), (1, .int x1)]) : W p l e (zrm 3 0 0) s m args below meth c H locs 0 0 Q (F0 m 65 ls []) := by
  have hx := E.1.1
  have hb := E.1.2.1
  unfold b_X7_next_65 at h
  refine lv_aload_n hx hb dX7_next_65 rfl (lv_at hl 0 rfl) ?_
  refine lv_aload_n hx hb dX7_next_66 rfl (lv_at hl 0 rfl) ?_
  refine zg (v := .int (M 39 4)) E hZ (xb_X7 xs_39) ((xe_X7 xs_39) _) kc_X7 4 (by decide) kw_249 rfl rfl dX7_next_67 ?_
  refine zp h E hZ (xb_X7 xs_39) ((xe_X7 xs_39) _) (((xe_X7 xs_39) _).trans (congrArg (fun z => Sum.inr (6, z)) (fs_X7_5 g _ _ _))) kc_X7 (by decide) kw_250 rfl rfl rfl (Nat.le_of_ble_eq_true rfl) dX7_next_70 (fun M_11 H locs eM_11 h hZ => ?_)
  refine lv_aload_n hx hb dX7_next_73 rfl (lv_at hl 0 rfl) ?_
  refine zg (v := .int (M_11 39 4)) E hZ (xb_X7 xs_39) ((xe_X7 xs_39) _) kc_X7 4 (by decide) kw_249 rfl rfl dX7_next_74 ?_
  refine lv_iload_n hx hb dX7_next_77 rfl (lv_at hl 1 rfl) ?_
  refine zic_lt (tgt := 87) h E dX7_next_78 (by decide) (fun c_17 h => ?_) (fun c_17 h => ?_)
  · refine lv_aload_n hx hb dX7_next_87 rfl (lv_at hl 0 rfl) ?_
    refine zg (v := .ref (g.2.2 1)) E hZ (xb_X7 xs_39) ((xe_X7 xs_39) _) kc_X7 0 (by decide) kw_245 rfl rfl dX7_next_88 ?_
    refine zg (v := .ref (g.2.2 2)) E hZ (xb_X6 xs_1) ((xe_X6 xs_1) _) kc_X6 0 (by decide) kw_43 rfl rfl dX7_next_91 ?_
    refine lv_aload_n hx hb dX7_next_94 rfl (lv_at hl 0 rfl) ?_
    refine zg (v := .int (M_11 39 4)) E hZ (xb_X7 xs_39) ((xe_X7 xs_39) _) kc_X7 4 (by decide) kw_249 rfl rfl dX7_next_95 ?_
    refine zia h E hZ (xb_I xs_2.1) (xe_IL xs_2) dX7_next_98 (fun h => ?_)
    refine zni h (fun x2_12 ex2_12 h => ?_)
    refine lv_istore_n (lv' := [(2, .int x2_12), (0, .ref (g.2.2 39)), (1, .int x1)]) hx hb dX7_next_99 rfl hl (by decide) rfl (fun ls hl => ?_)
    refine lv_aload_n hx hb dX7_next_100 rfl (lv_at hl 1 rfl) ?_
    refine lv_iload_n hx hb dX7_next_101 rfl (lv_at hl 0 rfl) ?_
    obtain ⟨u_13, qu_13, h⟩ := zbn_some h
    refine zciR (zrunS E hZ v_X7_kindOf kw_598 (c_X7_kindOf l g M_11  x2_12 qu_13 _) rfl hl.1 rfl (Nat.le_of_ble_eq_true rfl) ⟨by decide, by decide⟩ ⟨by decide, by decide⟩ dX7_next_102) hZ (fun H locs hZ => ?_)
    refine zp h E hZ (xb_X7 xs_39) ((xe_X7 xs_39) _) (((xe_X7 xs_39) _).trans (congrArg (fun z => Sum.inr (6, z)) (fs_X7_2 g _ _ _))) kc_X7 (by decide) kw_247 rfl rfl rfl (Nat.le_of_ble_eq_true rfl) dX7_next_105 (fun M_14 H locs eM_14 h hZ => ?_)
    refine lv_aload_n hx hb dX7_next_108 rfl (lv_at hl 1 rfl) ?_
    refine lv_aload_n hx hb dX7_next_109 rfl (lv_at hl 1 rfl) ?_
    refine zg (v := .int (M_14 39 4)) E hZ (xb_X7 xs_39) ((xe_X7 xs_39) _) kc_X7 4 (by decide) kw_249 rfl rfl dX7_next_110 ?_
    refine lv_iconst (v := 1) hx hb dX7_next_113 (by decide) ?_
    refine lv_iadd hx hb dX7_next_114 ?_
    refine zp h E hZ (xb_X7 xs_39) ((xe_X7 xs_39) _) (((xe_X7 xs_39) _).trans (congrArg (fun z => Sum.inr (6, z)) (fs_X7_5 g _ _ _))) kc_X7 (by decide) kw_250 rfl rfl rfl (Nat.le_of_ble_eq_true rfl) dX7_next_115 (fun M_15 H locs eM_15 h hZ => ?_)
    exact lb_X7_next_118 g  E hret x1 x2_12  6000 M_15 H locs ls h hZ (lv_sub hl [1, 2, 0] rfl)
  · refine lv_aload_n hx hb dX7_next_81 rfl (lv_at hl 0 rfl) ?_
    refine lv_iconst (v := 0) hx hb dX7_next_82 (by decide) ?_
    refine zp h E hZ (xb_X7 xs_39) ((xe_X7 xs_39) _) (((xe_X7 xs_39) _).trans (congrArg (fun z => Sum.inr (6, z)) (fs_X7_2 g _ _ _))) kc_X7 (by decide) kw_247 rfl rfl rfl (Nat.le_of_ble_eq_true rfl) dX7_next_83 (fun M_16 H locs eM_16 h hZ => ?_)
    exact hret _ _ _ _ _ (Option.some.inj h) hZ dX7_next_86
def b_X7_next_27  (x1 : Int32) : Nat → zM → Option (zM)
  | 0, _ => none
  | n + 1, M =>
    if x1 ≤ (M 39 4) then (b_X7_next_65  M x1) else (zck (zin (M 39 4) 400) (if (M 2 (M 39 4 : Int32).toNatClampNeg) = 32 then (znm (zu M 39 4 ((M 39 4) + 1)) (fun M_18 => b_X7_next_27  x1 n M_18)) else (b_X7_next_65  M x1)))
set_option maxRecDepth 100000 in
set_option maxHeartbeats 4000000 in
theorem lb_X7_next_27 (g : zG)  {r : zM} (E : zX g p m c cX7_next 3 s args (zWs yX7_next cX7_next 3 none) RX7) (hret : zRv g xE 125 p l e (zrm 3 0 0) s m args below meth c 0 0 Q cX7_next (fun M1 => M1 = r)) (x1 : Int32)  : ∀ (n : Nat) (M : zM) (H : Heap) (locs : List Loc) (ls : Array Slot), b_X7_next_27  x1 n M = some r → zS g xE 125 s H locs M → lv_has ls 3 [(0, .ref (g.2.2 39)), (1, .int x1)] → W p l e (zrm 3 0 0) s m args below meth c H locs 0 0 Q (F0 m 27 ls []) := by
  have hx := E.1.1
  have hb := E.1.2.1
  intro n
  induction n with
  | zero => intro M H locs ls h hZ hl; cases h
  | succ n ih =>
    intro M H locs ls h hZ hl
    rw [b_X7_next_27] at h
    refine lv_aload_n hx hb dX7_next_27 rfl (lv_at hl 0 rfl) ?_
    refine zg (v := .int (M 39 4)) E hZ (xb_X7 xs_39) ((xe_X7 xs_39) _) kc_X7 4 (by decide) kw_249 rfl rfl dX7_next_28 ?_
    refine lv_iload_n hx hb dX7_next_31 rfl (lv_at hl 1 rfl) ?_
    refine zic_ge (tgt := 65) h E dX7_next_32 (by decide) (fun c_20 h => ?_) (fun c_20 h => ?_)
    · exact lb_X7_next_65 g  E hret M x1  H locs ls h hZ (lv_sub hl [0, 1] rfl)
    · refine lv_aload_n hx hb dX7_next_35 rfl (lv_at hl 0 rfl) ?_
      refine zg (v := .ref (g.2.2 1)) E hZ (xb_X7 xs_39) ((xe_X7 xs_39) _) kc_X7 0 (by decide) kw_245 rfl rfl dX7_next_36 ?_
      refine zg (v := .ref (g.2.2 2)) E hZ (xb_X6 xs_1) ((xe_X6 xs_1) _) kc_X6 0 (by decide) kw_43 rfl rfl dX7_next_39 ?_
      refine lv_aload_n hx hb dX7_next_42 rfl (lv_at hl 0 rfl) ?_
      refine zg (v := .int (M 39 4)) E hZ (xb_X7 xs_39) ((xe_X7 xs_39) _) kc_X7 4 (by decide) kw_249 rfl rfl dX7_next_43 ?_
      refine zia h E hZ (xb_I xs_2.1) (xe_IL xs_2) dX7_next_46 (fun h => ?_)
      refine lv_bipush (v := 32) hx hb dX7_next_47 (by decide) ?_
      refine zic_ne (tgt := 65) h E dX7_next_49 (by decide) (fun c_19 h => ?_) (fun c_19 h => ?_)
      · exact lb_X7_next_65 g  E hret M x1  H locs ls h hZ (lv_sub hl [0, 1] rfl)
      · refine lv_aload_n hx hb dX7_next_52 rfl (lv_at hl 0 rfl) ?_
        refine lv_dup hx hb dX7_next_53 rfl ?_
        refine zg (v := .int (M 39 4)) E hZ (xb_X7 xs_39) ((xe_X7 xs_39) _) kc_X7 4 (by decide) kw_249 rfl rfl dX7_next_54 ?_
        refine lv_iconst (v := 1) hx hb dX7_next_57 (by decide) ?_
        refine lv_iadd hx hb dX7_next_58 ?_
        refine zp h E hZ (xb_X7 xs_39) ((xe_X7 xs_39) _) (((xe_X7 xs_39) _).trans (congrArg (fun z => Sum.inr (6, z)) (fs_X7_4 g _ _ _))) kc_X7 (by decide) kw_249 rfl rfl rfl (Nat.le_of_ble_eq_true rfl) dX7_next_59 (fun M_18 H locs eM_18 h hZ => ?_)
        refine lv_goto (tgt := 27) hx hb dX7_next_62 (by decide) ?_
        exact ih M_18 H locs ls h hZ (lv_sub hl [0, 1] rfl)
def f_X7_next (M : zM)  : Option (zM) :=
  znm (if 400 < (M 1 1) then 400 else (M 1 1)) (fun v_21 => znm (zu M 39 4 (M 39 5)) (fun M_22 => b_X7_next_27  v_21 6000 M_22))
set_option maxRecDepth 100000 in
set_option maxHeartbeats 4000000 in
theorem w_X7_next (g : zG)  {r : zM} (E : zX g p m c cX7_next 3 s args (zWs yX7_next cX7_next 3 none) RX7) (hret : zRv g xE 125 p l e (zrm 3 0 0) s m args below meth c 0 0 Q cX7_next (fun M1 => M1 = r)) (M : zM)  (H : Heap) (locs : List Loc) (ls : Array Slot) (h : f_X7_next M  = some r) (hZ : zS g xE 125 s H locs M) (hl : lv_has ls 3 [(0, .ref (g.2.2 39))]) : W p l e (zrm 3 0 0) s m args below meth c H locs 0 0 Q (F0 m 0 ls []) := by
  have hx := E.1.1
  have hb := E.1.2.1
  unfold f_X7_next at h
  refine lv_aload_n hx hb dX7_next_0 rfl (lv_at hl 0 rfl) ?_
  refine zg (v := .ref (g.2.2 1)) E hZ (xb_X7 xs_39) ((xe_X7 xs_39) _) kc_X7 0 (by decide) kw_245 rfl rfl dX7_next_1 ?_
  refine zg (v := .int (M 1 1)) E hZ (xb_X6 xs_1) ((xe_X6 xs_1) _) kc_X6 1 (by decide) kw_47 rfl rfl dX7_next_4 ?_
  refine lv_aload_n hx hb dX7_next_7 rfl (lv_at hl 0 rfl) ?_
  refine zg (v := .ref (g.2.2 1)) E hZ (xb_X7 xs_39) ((xe_X7 xs_39) _) kc_X7 0 (by decide) kw_245 rfl rfl dX7_next_8 ?_
  refine zg (v := .ref (g.2.2 2)) E hZ (xb_X6 xs_1) ((xe_X6 xs_1) _) kc_X6 0 (by decide) kw_43 rfl rfl dX7_next_11 ?_
  refine zal (v := 400) E hZ 0 rfl (xb_I xs_2.1) (xe_IL xs_2) (by decide) dX7_next_14 ?_
  refine va_mmin hx hb (E.1.2.2.1.trans hl.1.symm) E.1.2.2.2.1 (E.w kw_597) (E.w kw_540) (E.w kw_16) (E.w kw_541) (Nat.le_of_ble_eq_true rfl) (Nat.le_of_ble_eq_true rfl) (Nat.le_of_ble_eq_true rfl) (Nat.le_of_ble_eq_true rfl) dX7_next_15 ?_
  refine zni h (fun v_21 ev_21 h => ?_)
  refine lv_istore_n (lv' := [(1, .int v_21), (0, .ref (g.2.2 39))]) hx hb dX7_next_18 rfl hl (by decide) rfl (fun ls hl => ?_)
  refine lv_aload_n hx hb dX7_next_19 rfl (lv_at hl 1 rfl) ?_
  refine lv_aload_n hx hb dX7_next_20 rfl (lv_at hl 1 rfl) ?_
  refine zg (v := .int (M 39 5)) E hZ (xb_X7 xs_39) ((xe_X7 xs_39) _) kc_X7 5 (by decide) kw_250 rfl rfl dX7_next_21 ?_
  refine zp h E hZ (xb_X7 xs_39) ((xe_X7 xs_39) _) (((xe_X7 xs_39) _).trans (congrArg (fun z => Sum.inr (6, z)) (fs_X7_4 g _ _ _))) kc_X7 (by decide) kw_249 rfl rfl rfl (Nat.le_of_ble_eq_true rfl) dX7_next_24 (fun M_22 H locs eM_22 h hZ => ?_)
  exact lb_X7_next_27 g  E hret v_21  6000 M_22 H locs ls h hZ (lv_sub hl [1, 0] rfl)
theorem c_X7_next (l : Launch) (g : zG) (M : zM)   {r : zM} (h : f_X7_next M  = some r) : zMv l g xE 125 yX7_next (zWs yX7_next cX7_next 3 none) 3 [.ref (g.2.2 39)] M (fun M1 => M1 = r) :=
  zMv_of (by decide +kernel) (Nat.le_of_ble_eq_true rfl) (fun p e s m args below meth c Q ls E hret hZ hl => w_X7_next g  E hret M  _ _ ls h hZ hl)
theorem v_X7_next : zYV yX7_next cX7_next 3 none 0 := ⟨kw_596, kw_5, kw_594, kw_595, by decide +kernel⟩

def f_X7_open (M : zM)  : Option (zM) :=
  znm (zu M 39 6 ((-1))) (fun M_1 => znm (zu M_1 39 5 0) (fun M_2 => zbn (f_X7_next M_2 ) (fun u_3 => some u_3)))
set_option maxRecDepth 100000 in
set_option maxHeartbeats 4000000 in
theorem w_X7_open (g : zG)  {r : zM} (E : zX g p m c cX7_open 1 s args (zWs yX7_open cX7_open 1 none) RX7) (hret : zRv g xE 125 p l e (zrm 4 0 0) s m args below meth c 0 0 Q cX7_open (fun M1 => M1 = r)) (M : zM)  (H : Heap) (locs : List Loc) (ls : Array Slot) (h : f_X7_open M  = some r) (hZ : zS g xE 125 s H locs M) (hl : lv_has ls 1 [(0, .ref (g.2.2 39))]) : W p l e (zrm 4 0 0) s m args below meth c H locs 0 0 Q (F0 m 0 ls []) := by
  have hx := E.1.1
  have hb := E.1.2.1
  unfold f_X7_open at h
  refine lv_aload_n hx hb dX7_open_0 rfl (lv_at hl 0 rfl) ?_
  refine lv_iconst (v := (-1)) hx hb dX7_open_1 (by decide) ?_
  refine zp h E hZ (xb_X7 xs_39) ((xe_X7 xs_39) _) (((xe_X7 xs_39) _).trans (congrArg (fun z => Sum.inr (6, z)) (fs_X7_6 g _ _ _))) kc_X7 (by decide) kw_251 rfl rfl rfl (Nat.le_of_ble_eq_true rfl) dX7_open_2 (fun M_1 H locs eM_1 h hZ => ?_)
  refine lv_aload_n hx hb dX7_open_5 rfl (lv_at hl 0 rfl) ?_
  refine lv_iconst (v := 0) hx hb dX7_open_6 (by decide) ?_
  refine zp h E hZ (xb_X7 xs_39) ((xe_X7 xs_39) _) (((xe_X7 xs_39) _).trans (congrArg (fun z => Sum.inr (6, z)) (fs_X7_5 g _ _ _))) kc_X7 (by decide) kw_250 rfl rfl rfl (Nat.le_of_ble_eq_true rfl) dX7_open_7 (fun M_2 H locs eM_2 h hZ => ?_)
  refine lv_aload_n hx hb dX7_open_10 rfl (lv_at hl 0 rfl) ?_
  obtain ⟨u_3, qu_3, h⟩ := zbn_some h
  refine zcvS (zrunV E hZ (xb_X7 xs_39) ((xe_X7 xs_39) _) rfl rfl v_X7_next kw_593 (c_X7_next l g M_2   qu_3 _) rfl hl.1 rfl (Nat.le_of_ble_eq_true rfl) ⟨by decide, by decide⟩ ⟨by decide, by decide⟩ dX7_open_11) hZ (fun H locs hZ => ?_)
  exact hret _ _ _ _ _ (Option.some.inj h) hZ dX7_open_14
theorem c_X7_open (l : Launch) (g : zG) (M : zM)   {r : zM} (h : f_X7_open M  = some r) : zMv l g xE 125 yX7_open (zWs yX7_open cX7_open 1 none) 4 [.ref (g.2.2 39)] M (fun M1 => M1 = r) :=
  zMv_of (by decide +kernel) (Nat.le_of_ble_eq_true rfl) (fun p e s m args below meth c Q ls E hret hZ hl => w_X7_open g  E hret M  _ _ ls h hZ hl)
theorem v_X7_open : zYV yX7_open cX7_open 1 none 0 := ⟨kw_592, kw_5, kw_590, kw_591, by decide +kernel⟩

def f_X7_ended (M : zM)  : Option (Int32) :=
  if (M 39 2) = 0 then (some 1) else (some 0)
set_option maxRecDepth 100000 in
set_option maxHeartbeats 4000000 in
theorem w_X7_ended (g : zG)  {r : Int32} {M0 : zM} (E : zX g p m c cX7_ended 1 s args (zWs yX7_ended cX7_ended 1 (some .boolean)) RX7) (hret : zRi g xE 125 p l e (zrm 2 0 0) s m args below meth c 0 0 Q cX7_ended .boolean (fun v M1 => v = r ∧ M1 = M0)) (M : zM) (hM : M = M0)  (H : Heap) (locs : List Loc) (ls : Array Slot) (h : f_X7_ended M  = some r) (hZ : zS g xE 125 s H locs M) (hl : lv_has ls 1 [(0, .ref (g.2.2 39))]) : W p l e (zrm 2 0 0) s m args below meth c H locs 0 0 Q (F0 m 0 ls []) := by
  have hx := E.1.1
  have hb := E.1.2.1
  unfold f_X7_ended at h
  refine lv_aload_n hx hb dX7_ended_0 rfl (lv_at hl 0 rfl) ?_
  refine zg (v := .int (M 39 2)) E hZ (xb_X7 xs_39) ((xe_X7 xs_39) _) kc_X7 2 (by decide) kw_247 rfl rfl dX7_ended_1 ?_
  refine zif_ne (tgt := 11) h E dX7_ended_4 (by decide) (fun c_1 h => ?_) (fun c_1 h => ?_)
  · refine lv_iconst (v := 0) hx hb dX7_ended_11 (by decide) ?_
    exact hret _ _ _ _ _ _ ⟨Option.some.inj h, hM⟩ rfl hZ dX7_ended_12
  · refine lv_iconst (v := 1) hx hb dX7_ended_7 (by decide) ?_
    refine lv_goto (tgt := 12) hx hb dX7_ended_8 (by decide) ?_
    exact hret _ _ _ _ _ _ ⟨Option.some.inj h, hM⟩ rfl hZ dX7_ended_12
theorem c_X7_ended (l : Launch) (g : zG) (M : zM)   {r : Int32} (h : f_X7_ended M  = some r) : zMi l g xE 125 yX7_ended (zWs yX7_ended cX7_ended 1 (some .boolean)) 2 [.ref (g.2.2 39)] M (fun v M1 => v = r ∧ M1 = M) :=
  zMi_of (by decide +kernel) (Nat.le_of_ble_eq_true rfl) (fun p e s m args below meth c Q ls E hret hZ hl => w_X7_ended g  E hret M rfl  _ _ ls h hZ hl)
theorem v_X7_ended : zYV yX7_ended cX7_ended 1 (some .boolean) 0 := ⟨kw_612, kw_5, kw_610, kw_611, by decide +kernel⟩

def f_X7_miss (M : zM)  : Option (Int32 × zM) :=
  if (M 39 6) = ((-1)) then (znm (zu M 39 6 (M 39 4)) (fun M_1 => some (0, M_1))) else (some (0, M))
set_option maxRecDepth 100000 in
set_option maxHeartbeats 4000000 in
theorem w_X7_miss (g : zG)  {r : Int32 × zM} (E : zX g p m c cX7_miss 1 s args (zWs yX7_miss cX7_miss 1 (some .boolean)) RX7) (hret : zRi g xE 125 p l e (zrm 2 0 0) s m args below meth c 0 0 Q cX7_miss .boolean (fun v M1 => r = (v, M1))) (M : zM)  (H : Heap) (locs : List Loc) (ls : Array Slot) (h : f_X7_miss M  = some r) (hZ : zS g xE 125 s H locs M) (hl : lv_has ls 1 [(0, .ref (g.2.2 39))]) : W p l e (zrm 2 0 0) s m args below meth c H locs 0 0 Q (F0 m 0 ls []) := by
  have hx := E.1.1
  have hb := E.1.2.1
  unfold f_X7_miss at h
  refine lv_aload_n hx hb dX7_miss_0 rfl (lv_at hl 0 rfl) ?_
  refine zg (v := .int (M 39 6)) E hZ (xb_X7 xs_39) ((xe_X7 xs_39) _) kc_X7 6 (by decide) kw_251 rfl rfl dX7_miss_1 ?_
  refine lv_iconst (v := (-1)) hx hb dX7_miss_4 (by decide) ?_
  refine zic_ne (tgt := 16) h E dX7_miss_5 (by decide) (fun c_2 h => ?_) (fun c_2 h => ?_)
  · refine lv_iconst (v := 0) hx hb dX7_miss_16 (by decide) ?_
    exact hret _ _ _ _ _ _ (Option.some.inj h).symm rfl hZ dX7_miss_17
  · refine lv_aload_n hx hb dX7_miss_8 rfl (lv_at hl 0 rfl) ?_
    refine lv_aload_n hx hb dX7_miss_9 rfl (lv_at hl 0 rfl) ?_
    refine zg (v := .int (M 39 4)) E hZ (xb_X7 xs_39) ((xe_X7 xs_39) _) kc_X7 4 (by decide) kw_249 rfl rfl dX7_miss_10 ?_
    refine zp h E hZ (xb_X7 xs_39) ((xe_X7 xs_39) _) (((xe_X7 xs_39) _).trans (congrArg (fun z => Sum.inr (6, z)) (fs_X7_6 g _ _ _))) kc_X7 (by decide) kw_251 rfl rfl rfl (Nat.le_of_ble_eq_true rfl) dX7_miss_13 (fun M_1 H locs eM_1 h hZ => ?_)
    refine lv_iconst (v := 0) hx hb dX7_miss_16 (by decide) ?_
    exact hret _ _ _ _ _ _ (Option.some.inj h).symm rfl hZ dX7_miss_17
theorem c_X7_miss (l : Launch) (g : zG) (M : zM)   {r : Int32 × zM} (h : f_X7_miss M  = some r) : zMi l g xE 125 yX7_miss (zWs yX7_miss cX7_miss 1 (some .boolean)) 2 [.ref (g.2.2 39)] M (fun v M1 => r = (v, M1)) :=
  zMi_of (by decide +kernel) (Nat.le_of_ble_eq_true rfl) (fun p e s m args below meth c Q ls E hret hZ hl => w_X7_miss g  E hret M  _ _ ls h hZ hl)
theorem v_X7_miss : zYV yX7_miss cX7_miss 1 (some .boolean) 0 := ⟨kw_616, kw_5, kw_614, kw_615, by decide +kernel⟩

def f_X7_word (M : zM)  : Option (Int32) :=
  if (M 39 2) = 1 then (some (M 39 3)) else (some ((-1)))
set_option maxRecDepth 100000 in
set_option maxHeartbeats 4000000 in
theorem w_X7_word (g : zG)  {r : Int32} {M0 : zM} (E : zX g p m c cX7_word 1 s args (zWs yX7_word cX7_word 1 (some .int)) RX7) (hret : zRi g xE 125 p l e (zrm 2 0 0) s m args below meth c 0 0 Q cX7_word .int (fun v M1 => v = r ∧ M1 = M0)) (M : zM) (hM : M = M0)  (H : Heap) (locs : List Loc) (ls : Array Slot) (h : f_X7_word M  = some r) (hZ : zS g xE 125 s H locs M) (hl : lv_has ls 1 [(0, .ref (g.2.2 39))]) : W p l e (zrm 2 0 0) s m args below meth c H locs 0 0 Q (F0 m 0 ls []) := by
  have hx := E.1.1
  have hb := E.1.2.1
  unfold f_X7_word at h
  refine lv_aload_n hx hb dX7_word_0 rfl (lv_at hl 0 rfl) ?_
  refine zg (v := .int (M 39 2)) E hZ (xb_X7 xs_39) ((xe_X7 xs_39) _) kc_X7 2 (by decide) kw_247 rfl rfl dX7_word_1 ?_
  refine lv_iconst (v := 1) hx hb dX7_word_4 (by decide) ?_
  refine zic_ne (tgt := 15) h E dX7_word_5 (by decide) (fun c_1 h => ?_) (fun c_1 h => ?_)
  · refine lv_iconst (v := (-1)) hx hb dX7_word_15 (by decide) ?_
    exact hret _ _ _ _ _ _ ⟨Option.some.inj h, hM⟩ rfl hZ dX7_word_16
  · refine lv_aload_n hx hb dX7_word_8 rfl (lv_at hl 0 rfl) ?_
    refine zg (v := .int (M 39 3)) E hZ (xb_X7 xs_39) ((xe_X7 xs_39) _) kc_X7 3 (by decide) kw_248 rfl rfl dX7_word_9 ?_
    refine lv_goto (tgt := 16) hx hb dX7_word_12 (by decide) ?_
    exact hret _ _ _ _ _ _ ⟨Option.some.inj h, hM⟩ rfl hZ dX7_word_16
theorem c_X7_word (l : Launch) (g : zG) (M : zM)   {r : Int32} (h : f_X7_word M  = some r) : zMi l g xE 125 yX7_word (zWs yX7_word cX7_word 1 (some .int)) 2 [.ref (g.2.2 39)] M (fun v M1 => v = r ∧ M1 = M) :=
  zMi_of (by decide +kernel) (Nat.le_of_ble_eq_true rfl) (fun p e s m args below meth c Q ls E hret hZ hl => w_X7_word g  E hret M rfl  _ _ ls h hZ hl)
theorem v_X7_word : zYV yX7_word cX7_word 1 (some .int) 0 := ⟨kw_624, kw_5, kw_622, kw_623, by decide +kernel⟩

def f_X7_plainNumber (M : zM)  : Option (Int32) :=
  if (M 39 2) = 2 then (some (M 39 3)) else (some ((-1)))
set_option maxRecDepth 100000 in
set_option maxHeartbeats 4000000 in
theorem w_X7_plainNumber (g : zG)  {r : Int32} {M0 : zM} (E : zX g p m c cX7_plainNumber 1 s args (zWs yX7_plainNumber cX7_plainNumber 1 (some .int)) RX7) (hret : zRi g xE 125 p l e (zrm 2 0 0) s m args below meth c 0 0 Q cX7_plainNumber .int (fun v M1 => v = r ∧ M1 = M0)) (M : zM) (hM : M = M0)  (H : Heap) (locs : List Loc) (ls : Array Slot) (h : f_X7_plainNumber M  = some r) (hZ : zS g xE 125 s H locs M) (hl : lv_has ls 1 [(0, .ref (g.2.2 39))]) : W p l e (zrm 2 0 0) s m args below meth c H locs 0 0 Q (F0 m 0 ls []) := by
  have hx := E.1.1
  have hb := E.1.2.1
  unfold f_X7_plainNumber at h
  refine lv_aload_n hx hb dX7_plainNumber_0 rfl (lv_at hl 0 rfl) ?_
  refine zg (v := .int (M 39 2)) E hZ (xb_X7 xs_39) ((xe_X7 xs_39) _) kc_X7 2 (by decide) kw_247 rfl rfl dX7_plainNumber_1 ?_
  refine lv_iconst (v := 2) hx hb dX7_plainNumber_4 (by decide) ?_
  refine zic_ne (tgt := 15) h E dX7_plainNumber_5 (by decide) (fun c_1 h => ?_) (fun c_1 h => ?_)
  · refine lv_iconst (v := (-1)) hx hb dX7_plainNumber_15 (by decide) ?_
    exact hret _ _ _ _ _ _ ⟨Option.some.inj h, hM⟩ rfl hZ dX7_plainNumber_16
  · refine lv_aload_n hx hb dX7_plainNumber_8 rfl (lv_at hl 0 rfl) ?_
    refine zg (v := .int (M 39 3)) E hZ (xb_X7 xs_39) ((xe_X7 xs_39) _) kc_X7 3 (by decide) kw_248 rfl rfl dX7_plainNumber_9 ?_
    refine lv_goto (tgt := 16) hx hb dX7_plainNumber_12 (by decide) ?_
    exact hret _ _ _ _ _ _ ⟨Option.some.inj h, hM⟩ rfl hZ dX7_plainNumber_16
theorem c_X7_plainNumber (l : Launch) (g : zG) (M : zM)   {r : Int32} (h : f_X7_plainNumber M  = some r) : zMi l g xE 125 yX7_plainNumber (zWs yX7_plainNumber cX7_plainNumber 1 (some .int)) 2 [.ref (g.2.2 39)] M (fun v M1 => v = r ∧ M1 = M) :=
  zMi_of (by decide +kernel) (Nat.le_of_ble_eq_true rfl) (fun p e s m args below meth c Q ls E hret hZ hl => w_X7_plainNumber g  E hret M rfl  _ _ ls h hZ hl)
theorem v_X7_plainNumber : zYV yX7_plainNumber cX7_plainNumber 1 (some .int) 0 := ⟨kw_637, kw_5, kw_635, kw_636, by decide +kernel⟩

def b_X7_takeNumber_20  (M : zM) : Option (Int32 × zM) :=
  zbn (f_X7_miss M ) (fun u_1 => some ((-1), u_1.2))
set_option maxRecDepth 100000 in
set_option maxHeartbeats 4000000 in
theorem lb_X7_takeNumber_20 (g : zG)  {r : Int32 × zM} (E : zX g p m c cX7_takeNumber 4 s args (zWs yX7_takeNumber cX7_takeNumber 4 (some .int)) RX7) (hret : zRi g xE 125 p l e (zrm 4 0 0) s m args below meth c 0 0 Q cX7_takeNumber .int (fun v M1 => r = (v, M1))) (M : zM)  (H : Heap) (locs : List Loc) (ls : Array Slot) (h : b_X7_takeNumber_20  M = some r) (hZ : zS g xE 125 s H locs M) (hl : lv_has ls 4 [(0, .ref (g.2.2 39))]) : W p l e (zrm 4 0 0) s m args below meth c H locs 0 0 Q (F0 m 20 ls []) := by
  have hx := E.1.1
  have hb := E.1.2.1
  unfold b_X7_takeNumber_20 at h
  refine lv_aload_n hx hb dX7_takeNumber_20 rfl (lv_at hl 0 rfl) ?_
  obtain ⟨u_1, qu_1, h⟩ := zbn_some h
  refine zciS (zrunV E hZ (xb_X7 xs_39) ((xe_X7 xs_39) _) rfl rfl v_X7_miss kw_638 (c_X7_miss l g M   qu_1 _) rfl hl.1 rfl (Nat.le_of_ble_eq_true rfl) ⟨by decide, by decide⟩ ⟨by decide, by decide⟩ dX7_takeNumber_21) hZ (fun H locs hZ => ?_)
  refine lv_pop hx hb dX7_takeNumber_24 rfl ?_
  refine lv_iconst (v := (-1)) hx hb dX7_takeNumber_25 (by decide) ?_
  exact hret _ _ _ _ _ _ (Option.some.inj h).symm rfl hZ dX7_takeNumber_26
def f_X7_takeNumber (M : zM) (x1 : Int32) (x2 : Int32) : Option (Int32 × zM) :=
  zbn (f_X7_plainNumber M ) (fun u_2 => if u_2 = ((-1)) then (b_X7_takeNumber_20  M) else (if u_2 < x1 then (b_X7_takeNumber_20  M) else (if u_2 ≤ x2 then (zbn (f_X7_next M ) (fun u_3 => some (u_2, u_3))) else (b_X7_takeNumber_20  M))))
set_option maxRecDepth 100000 in
set_option maxHeartbeats 4000000 in
theorem w_X7_takeNumber (g : zG)  {r : Int32 × zM} (E : zX g p m c cX7_takeNumber 4 s args (zWs yX7_takeNumber cX7_takeNumber 4 (some .int)) RX7) (hret : zRi g xE 125 p l e (zrm 4 0 0) s m args below meth c 0 0 Q cX7_takeNumber .int (fun v M1 => r = (v, M1))) (M : zM) (x1 : Int32) (x2 : Int32) (H : Heap) (locs : List Loc) (ls : Array Slot) (h : f_X7_takeNumber M x1 x2 = some r) (hZ : zS g xE 125 s H locs M) (hl : lv_has ls 4 [(0, .ref (g.2.2 39)), (1, .int x1), (2, .int x2)]) : W p l e (zrm 4 0 0) s m args below meth c H locs 0 0 Q (F0 m 0 ls []) := by
  have hx := E.1.1
  have hb := E.1.2.1
  unfold f_X7_takeNumber at h
  refine lv_aload_n hx hb dX7_takeNumber_0 rfl (lv_at hl 0 rfl) ?_
  obtain ⟨u_2, qu_2, h⟩ := zbn_some h
  refine zciR (zrunV E hZ (xb_X7 xs_39) ((xe_X7 xs_39) _) rfl rfl v_X7_plainNumber kw_634 (c_X7_plainNumber l g M   qu_2 _) rfl hl.1 rfl (Nat.le_of_ble_eq_true rfl) ⟨by decide, by decide⟩ ⟨by decide, by decide⟩ dX7_takeNumber_1) hZ (fun H locs hZ => ?_)
  refine lv_istore_n (lv' := [(3, .int u_2), (0, .ref (g.2.2 39)), (1, .int x1), (2, .int x2)]) hx hb dX7_takeNumber_4 rfl hl (by decide) rfl (fun ls hl => ?_)
  refine lv_iload_n hx hb dX7_takeNumber_5 rfl (lv_at hl 0 rfl) ?_
  refine lv_iconst (v := (-1)) hx hb dX7_takeNumber_6 (by decide) ?_
  refine zic_eq (tgt := 20) h E dX7_takeNumber_7 (by decide) (fun c_6 h => ?_) (fun c_6 h => ?_)
  · exact lb_X7_takeNumber_20 g  E hret M  H locs ls h hZ (lv_sub hl [1] rfl)
  · refine lv_iload_n hx hb dX7_takeNumber_10 rfl (lv_at hl 0 rfl) ?_
    refine lv_iload_n hx hb dX7_takeNumber_11 rfl (lv_at hl 2 rfl) ?_
    refine zic_lt (tgt := 20) h E dX7_takeNumber_12 (by decide) (fun c_5 h => ?_) (fun c_5 h => ?_)
    · exact lb_X7_takeNumber_20 g  E hret M  H locs ls h hZ (lv_sub hl [1] rfl)
    · refine lv_iload_n hx hb dX7_takeNumber_15 rfl (lv_at hl 0 rfl) ?_
      refine lv_iload_n hx hb dX7_takeNumber_16 rfl (lv_at hl 3 rfl) ?_
      refine zic_le (tgt := 27) h E dX7_takeNumber_17 (by decide) (fun c_4 h => ?_) (fun c_4 h => ?_)
      · refine lv_aload_n hx hb dX7_takeNumber_27 rfl (lv_at hl 1 rfl) ?_
        obtain ⟨u_3, qu_3, h⟩ := zbn_some h
        refine zcvS (zrunV E hZ (xb_X7 xs_39) ((xe_X7 xs_39) _) rfl rfl v_X7_next kw_593 (c_X7_next l g M   qu_3 _) rfl hl.1 rfl (Nat.le_of_ble_eq_true rfl) ⟨by decide, by decide⟩ ⟨by decide, by decide⟩ dX7_takeNumber_28) hZ (fun H locs hZ => ?_)
        refine lv_iload_n hx hb dX7_takeNumber_31 rfl (lv_at hl 0 rfl) ?_
        exact hret _ _ _ _ _ _ (Option.some.inj h).symm rfl hZ dX7_takeNumber_32
      · exact lb_X7_takeNumber_20 g  E hret M  H locs ls h hZ (lv_sub hl [1] rfl)
theorem c_X7_takeNumber (l : Launch) (g : zG) (M : zM)  (x1 : Int32) (x2 : Int32) {r : Int32 × zM} (h : f_X7_takeNumber M x1 x2 = some r) : zMi l g xE 125 yX7_takeNumber (zWs yX7_takeNumber cX7_takeNumber 4 (some .int)) 4 [.ref (g.2.2 39), .int x1, .int x2] M (fun v M1 => r = (v, M1)) :=
  zMi_of (by decide +kernel) (Nat.le_of_ble_eq_true rfl) (fun p e s m args below meth c Q ls E hret hZ hl => w_X7_takeNumber g  E hret M x1 x2 _ _ ls h hZ hl)
theorem v_X7_takeNumber : zYV yX7_takeNumber cX7_takeNumber 4 (some .int) 2 := ⟨kw_633, kw_5, kw_631, kw_632, by decide +kernel⟩

def f_X7_takeWord (M : zM) (x1 : Int32) : Option (Int32 × zM) :=
  zbn (f_X7_word M ) (fun u_1 => if u_1 = x1 then (zbn (f_X7_next M ) (fun u_2 => some (1, u_2))) else (zbn (f_X7_miss M ) (fun u_3 => zck (zbl u_3.1) (some (u_3.1, u_3.2)))))
set_option maxRecDepth 100000 in
set_option maxHeartbeats 4000000 in
theorem w_X7_takeWord (g : zG)  {r : Int32 × zM} (E : zX g p m c cX7_takeWord 2 s args (zWs yX7_takeWord cX7_takeWord 2 (some .boolean)) RX7) (hret : zRi g xE 125 p l e (zrm 4 0 0) s m args below meth c 0 0 Q cX7_takeWord .boolean (fun v M1 => r = (v, M1))) (M : zM) (x1 : Int32) (H : Heap) (locs : List Loc) (ls : Array Slot) (h : f_X7_takeWord M x1 = some r) (hZ : zS g xE 125 s H locs M) (hl : lv_has ls 2 [(0, .ref (g.2.2 39)), (1, .int x1)]) : W p l e (zrm 4 0 0) s m args below meth c H locs 0 0 Q (F0 m 0 ls []) := by
  have hx := E.1.1
  have hb := E.1.2.1
  unfold f_X7_takeWord at h
  refine lv_aload_n hx hb dX7_takeWord_0 rfl (lv_at hl 0 rfl) ?_
  obtain ⟨u_1, qu_1, h⟩ := zbn_some h
  refine zciR (zrunV E hZ (xb_X7 xs_39) ((xe_X7 xs_39) _) rfl rfl v_X7_word kw_656 (c_X7_word l g M   qu_1 _) rfl hl.1 rfl (Nat.le_of_ble_eq_true rfl) ⟨by decide, by decide⟩ ⟨by decide, by decide⟩ dX7_takeWord_1) hZ (fun H locs hZ => ?_)
  refine lv_iload_n hx hb dX7_takeWord_4 rfl (lv_at hl 1 rfl) ?_
  refine zic_eq (tgt := 13) h E dX7_takeWord_5 (by decide) (fun c_4 h => ?_) (fun c_4 h => ?_)
  · refine lv_aload_n hx hb dX7_takeWord_13 rfl (lv_at hl 0 rfl) ?_
    obtain ⟨u_2, qu_2, h⟩ := zbn_some h
    refine zcvS (zrunV E hZ (xb_X7 xs_39) ((xe_X7 xs_39) _) rfl rfl v_X7_next kw_593 (c_X7_next l g M   qu_2 _) rfl hl.1 rfl (Nat.le_of_ble_eq_true rfl) ⟨by decide, by decide⟩ ⟨by decide, by decide⟩ dX7_takeWord_14) hZ (fun H locs hZ => ?_)
    refine lv_iconst (v := 1) hx hb dX7_takeWord_17 (by decide) ?_
    exact hret _ _ _ _ _ _ (Option.some.inj h).symm rfl hZ dX7_takeWord_18
  · refine lv_aload_n hx hb dX7_takeWord_8 rfl (lv_at hl 0 rfl) ?_
    obtain ⟨u_3, qu_3, h⟩ := zbn_some h
    refine zciS (zrunV E hZ (xb_X7 xs_39) ((xe_X7 xs_39) _) rfl rfl v_X7_miss kw_638 (c_X7_miss l g M   qu_3 _) rfl hl.1 rfl (Nat.le_of_ble_eq_true rfl) ⟨by decide, by decide⟩ ⟨by decide, by decide⟩ dX7_takeWord_9) hZ (fun H locs hZ => ?_)
    obtain ⟨hbl, h⟩ := zck_some h
    exact hret _ _ _ _ _ _ (Option.some.inj h).symm (zbl_n hbl) hZ dX7_takeWord_12
theorem c_X7_takeWord (l : Launch) (g : zG) (M : zM)  (x1 : Int32) {r : Int32 × zM} (h : f_X7_takeWord M x1 = some r) : zMi l g xE 125 yX7_takeWord (zWs yX7_takeWord cX7_takeWord 2 (some .boolean)) 4 [.ref (g.2.2 39), .int x1] M (fun v M1 => r = (v, M1)) :=
  zMi_of (by decide +kernel) (Nat.le_of_ble_eq_true rfl) (fun p e s m args below meth c Q ls E hret hZ hl => w_X7_takeWord g  E hret M x1 _ _ ls h hZ hl)
theorem v_X7_takeWord : zYV yX7_takeWord cX7_takeWord 2 (some .boolean) 1 := ⟨kw_655, kw_5, kw_653, kw_654, by decide +kernel⟩

def f_X7_skipWord (M : zM) (x1 : Int32) : Option (Int32 × zM) :=
  zbn (f_X7_word M ) (fun u_1 => if u_1 = x1 then (zbn (f_X7_next M ) (fun u_2 => some (1, u_2))) else (some (0, M)))
set_option maxRecDepth 100000 in
set_option maxHeartbeats 4000000 in
theorem w_X7_skipWord (g : zG)  {r : Int32 × zM} (E : zX g p m c cX7_skipWord 2 s args (zWs yX7_skipWord cX7_skipWord 2 (some .boolean)) RX7) (hret : zRi g xE 125 p l e (zrm 4 0 0) s m args below meth c 0 0 Q cX7_skipWord .boolean (fun v M1 => r = (v, M1))) (M : zM) (x1 : Int32) (H : Heap) (locs : List Loc) (ls : Array Slot) (h : f_X7_skipWord M x1 = some r) (hZ : zS g xE 125 s H locs M) (hl : lv_has ls 2 [(0, .ref (g.2.2 39)), (1, .int x1)]) : W p l e (zrm 4 0 0) s m args below meth c H locs 0 0 Q (F0 m 0 ls []) := by
  have hx := E.1.1
  have hb := E.1.2.1
  unfold f_X7_skipWord at h
  refine lv_aload_n hx hb dX7_skipWord_0 rfl (lv_at hl 0 rfl) ?_
  obtain ⟨u_1, qu_1, h⟩ := zbn_some h
  refine zciR (zrunV E hZ (xb_X7 xs_39) ((xe_X7 xs_39) _) rfl rfl v_X7_word kw_656 (c_X7_word l g M   qu_1 _) rfl hl.1 rfl (Nat.le_of_ble_eq_true rfl) ⟨by decide, by decide⟩ ⟨by decide, by decide⟩ dX7_skipWord_1) hZ (fun H locs hZ => ?_)
  refine lv_iload_n hx hb dX7_skipWord_4 rfl (lv_at hl 1 rfl) ?_
  refine zic_eq (tgt := 10) h E dX7_skipWord_5 (by decide) (fun c_3 h => ?_) (fun c_3 h => ?_)
  · refine lv_aload_n hx hb dX7_skipWord_10 rfl (lv_at hl 0 rfl) ?_
    obtain ⟨u_2, qu_2, h⟩ := zbn_some h
    refine zcvS (zrunV E hZ (xb_X7 xs_39) ((xe_X7 xs_39) _) rfl rfl v_X7_next kw_593 (c_X7_next l g M   qu_2 _) rfl hl.1 rfl (Nat.le_of_ble_eq_true rfl) ⟨by decide, by decide⟩ ⟨by decide, by decide⟩ dX7_skipWord_11) hZ (fun H locs hZ => ?_)
    refine lv_iconst (v := 1) hx hb dX7_skipWord_14 (by decide) ?_
    exact hret _ _ _ _ _ _ (Option.some.inj h).symm rfl hZ dX7_skipWord_15
  · refine lv_iconst (v := 0) hx hb dX7_skipWord_8 (by decide) ?_
    exact hret _ _ _ _ _ _ (Option.some.inj h).symm rfl hZ dX7_skipWord_9
theorem c_X7_skipWord (l : Launch) (g : zG) (M : zM)  (x1 : Int32) {r : Int32 × zM} (h : f_X7_skipWord M x1 = some r) : zMi l g xE 125 yX7_skipWord (zWs yX7_skipWord cX7_skipWord 2 (some .boolean)) 4 [.ref (g.2.2 39), .int x1] M (fun v M1 => r = (v, M1)) :=
  zMi_of (by decide +kernel) (Nat.le_of_ble_eq_true rfl) (fun p e s m args below meth c Q ls E hret hZ hl => w_X7_skipWord g  E hret M x1 _ _ ls h hZ hl)
theorem v_X7_skipWord : zYV yX7_skipWord cX7_skipWord 2 (some .boolean) 1 := ⟨kw_664, kw_5, kw_662, kw_663, by decide +kernel⟩

def f_X9_addMonk (M : zM) (k : Nat) (x1 : Int32) (x2 : Int32) (x3 : Int32) : Option (zM) :=
  zbn (f_X9_setMonkCell M k (M k 10) 0 x1) (fun u_1 => zbn (f_X9_setMonkCell u_1 k (u_1 k 10) 1 x3) (fun u_2 => zbn (f_X9_setMonkCell u_2 k (u_2 k 10) 2 x2) (fun u_3 => zbn (f_X9_setMonkCell u_3 k (u_3 k 10) 3 0) (fun u_4 => znm (zu u_4 k 10 ((u_4 k 10) + 1)) (fun M_5 => some M_5)))))
set_option maxRecDepth 100000 in
set_option maxHeartbeats 4000000 in
theorem w_X9_addMonk (g : zG)  (k : Nat) (hk : xk k = 8) {r : zM} (E : zX g p m c cX9_addMonk 4 s args (zWs yX9_addMonk cX9_addMonk 4 none) RX9) (hret : zRv g xE 125 p l e (zrm 4 0 0) s m args below meth c 0 0 Q cX9_addMonk (fun M1 => M1 = r)) (M : zM) (x1 : Int32) (x2 : Int32) (x3 : Int32) (H : Heap) (locs : List Loc) (ls : Array Slot) (h : f_X9_addMonk M k x1 x2 x3 = some r) (hZ : zS g xE 125 s H locs M) (hl : lv_has ls 4 [(0, .ref (g.2.2 k)), (1, .int x1), (2, .int x2), (3, .int x3)]) : W p l e (zrm 4 0 0) s m args below meth c H locs 0 0 Q (F0 m 0 ls []) := by
  have hx := E.1.1
  have hb := E.1.2.1
  unfold f_X9_addMonk at h
  refine lv_aload_n hx hb dX9_addMonk_0 rfl (lv_at hl 0 rfl) ?_
  refine lv_aload_n hx hb dX9_addMonk_1 rfl (lv_at hl 0 rfl) ?_
  refine zg (v := .int (M k 10)) E hZ (xb_X9 hk) ((xe_X9 hk) _) kc_X9 10 (by decide) kw_92 rfl rfl dX9_addMonk_2 ?_
  refine lv_iconst (v := 0) hx hb dX9_addMonk_5 (by decide) ?_
  refine lv_iload_n hx hb dX9_addMonk_6 rfl (lv_at hl 1 rfl) ?_
  obtain ⟨u_1, qu_1, h⟩ := zbn_some h
  refine zcvS (zrunV E hZ (xb_X9 hk) ((xe_X9 hk) _) rfl rfl v_X9_setMonkCell kw_669 (c_X9_setMonkCell l g M k hk (M k 10) 0 x1 qu_1 _) rfl hl.1 rfl (Nat.le_of_ble_eq_true rfl) ⟨by decide, by decide⟩ ⟨by decide, by decide⟩ dX9_addMonk_7) hZ (fun H locs hZ => ?_)
  refine lv_aload_n hx hb dX9_addMonk_10 rfl (lv_at hl 0 rfl) ?_
  refine lv_aload_n hx hb dX9_addMonk_11 rfl (lv_at hl 0 rfl) ?_
  refine zg (v := .int (u_1 k 10)) E hZ (xb_X9 hk) ((xe_X9 hk) _) kc_X9 10 (by decide) kw_92 rfl rfl dX9_addMonk_12 ?_
  refine lv_iconst (v := 1) hx hb dX9_addMonk_15 (by decide) ?_
  refine lv_iload_n hx hb dX9_addMonk_16 rfl (lv_at hl 3 rfl) ?_
  obtain ⟨u_2, qu_2, h⟩ := zbn_some h
  refine zcvS (zrunV E hZ (xb_X9 hk) ((xe_X9 hk) _) rfl rfl v_X9_setMonkCell kw_669 (c_X9_setMonkCell l g u_1 k hk (u_1 k 10) 1 x3 qu_2 _) rfl hl.1 rfl (Nat.le_of_ble_eq_true rfl) ⟨by decide, by decide⟩ ⟨by decide, by decide⟩ dX9_addMonk_17) hZ (fun H locs hZ => ?_)
  refine lv_aload_n hx hb dX9_addMonk_20 rfl (lv_at hl 0 rfl) ?_
  refine lv_aload_n hx hb dX9_addMonk_21 rfl (lv_at hl 0 rfl) ?_
  refine zg (v := .int (u_2 k 10)) E hZ (xb_X9 hk) ((xe_X9 hk) _) kc_X9 10 (by decide) kw_92 rfl rfl dX9_addMonk_22 ?_
  refine lv_iconst (v := 2) hx hb dX9_addMonk_25 (by decide) ?_
  refine lv_iload_n hx hb dX9_addMonk_26 rfl (lv_at hl 2 rfl) ?_
  obtain ⟨u_3, qu_3, h⟩ := zbn_some h
  refine zcvS (zrunV E hZ (xb_X9 hk) ((xe_X9 hk) _) rfl rfl v_X9_setMonkCell kw_669 (c_X9_setMonkCell l g u_2 k hk (u_2 k 10) 2 x2 qu_3 _) rfl hl.1 rfl (Nat.le_of_ble_eq_true rfl) ⟨by decide, by decide⟩ ⟨by decide, by decide⟩ dX9_addMonk_27) hZ (fun H locs hZ => ?_)
  refine lv_aload_n hx hb dX9_addMonk_30 rfl (lv_at hl 0 rfl) ?_
  refine lv_aload_n hx hb dX9_addMonk_31 rfl (lv_at hl 0 rfl) ?_
  refine zg (v := .int (u_3 k 10)) E hZ (xb_X9 hk) ((xe_X9 hk) _) kc_X9 10 (by decide) kw_92 rfl rfl dX9_addMonk_32 ?_
  refine lv_iconst (v := 3) hx hb dX9_addMonk_35 (by decide) ?_
  refine lv_iconst (v := 0) hx hb dX9_addMonk_36 (by decide) ?_
  obtain ⟨u_4, qu_4, h⟩ := zbn_some h
  refine zcvS (zrunV E hZ (xb_X9 hk) ((xe_X9 hk) _) rfl rfl v_X9_setMonkCell kw_669 (c_X9_setMonkCell l g u_3 k hk (u_3 k 10) 3 0 qu_4 _) rfl hl.1 rfl (Nat.le_of_ble_eq_true rfl) ⟨by decide, by decide⟩ ⟨by decide, by decide⟩ dX9_addMonk_37) hZ (fun H locs hZ => ?_)
  refine lv_aload_n hx hb dX9_addMonk_40 rfl (lv_at hl 0 rfl) ?_
  refine lv_dup hx hb dX9_addMonk_41 rfl ?_
  refine zg (v := .int (u_4 k 10)) E hZ (xb_X9 hk) ((xe_X9 hk) _) kc_X9 10 (by decide) kw_92 rfl rfl dX9_addMonk_42 ?_
  refine lv_iconst (v := 1) hx hb dX9_addMonk_45 (by decide) ?_
  refine lv_iadd hx hb dX9_addMonk_46 ?_
  refine zp h E hZ (xb_X9 hk) ((xe_X9 hk) _) (((xe_X9 hk) _).trans (congrArg (fun z => Sum.inr (8, z)) (fs_X9_10 g _ _ _))) kc_X9 (by decide) kw_92 rfl rfl rfl (Nat.le_of_ble_eq_true rfl) dX9_addMonk_47 (fun M_5 H locs eM_5 h hZ => ?_)
  exact hret _ _ _ _ _ (Option.some.inj h) hZ dX9_addMonk_50
theorem c_X9_addMonk (l : Launch) (g : zG) (M : zM) (k : Nat) (hk : xk k = 8) (x1 : Int32) (x2 : Int32) (x3 : Int32) {r : zM} (h : f_X9_addMonk M k x1 x2 x3 = some r) : zMv l g xE 125 yX9_addMonk (zWs yX9_addMonk cX9_addMonk 4 none) 4 [.ref (g.2.2 k), .int x1, .int x2, .int x3] M (fun M1 => M1 = r) :=
  zMv_of (by decide +kernel) (Nat.le_of_ble_eq_true rfl) (fun p e s m args below meth c Q ls E hret hZ hl => w_X9_addMonk g k hk E hret M x1 x2 x3 _ _ ls h hZ hl)
theorem v_X9_addMonk : zYV yX9_addMonk cX9_addMonk 4 none 3 := ⟨kw_668, kw_3, kw_666, kw_667, by decide +kernel⟩

def f_X9_addDuty (M : zM) (k : Nat) (x1 : Int32) (x2 : Int32) (x3 : Int32) : Option (zM) :=
  zbn (f_X10_put M (k + 4) (((M k 11) * 3) + 0) x1) (fun u_1 => zbn (f_X10_put u_1 (k + 4) (((u_1 k 11) * 3) + 1) x2) (fun u_2 => zbn (f_X10_put u_2 (k + 4) (((u_2 k 11) * 3) + 2) x3) (fun u_3 => znm (zu u_3 k 11 ((u_3 k 11) + 1)) (fun M_4 => some M_4))))
set_option maxRecDepth 100000 in
set_option maxHeartbeats 4000000 in
theorem w_X9_addDuty (g : zG)  (k : Nat) (hk : xk k = 8) {r : zM} (E : zX g p m c cX9_addDuty 4 s args (zWs yX9_addDuty cX9_addDuty 4 none) RX9) (hret : zRv g xE 125 p l e (zrm 3 0 0) s m args below meth c 0 0 Q cX9_addDuty (fun M1 => M1 = r)) (M : zM) (x1 : Int32) (x2 : Int32) (x3 : Int32) (H : Heap) (locs : List Loc) (ls : Array Slot) (h : f_X9_addDuty M k x1 x2 x3 = some r) (hZ : zS g xE 125 s H locs M) (hl : lv_has ls 4 [(0, .ref (g.2.2 k)), (1, .int x1), (2, .int x2), (3, .int x3)]) : W p l e (zrm 3 0 0) s m args below meth c H locs 0 0 Q (F0 m 0 ls []) := by
  have hx := E.1.1
  have hb := E.1.2.1
  unfold f_X9_addDuty at h
  refine lv_aload_n hx hb dX9_addDuty_0 rfl (lv_at hl 0 rfl) ?_
  refine zg (v := .ref (g.2.2 (k + 4))) E hZ (xb_X9 hk) ((xe_X9 hk) _) kc_X9 18 (by decide) kw_118 rfl rfl dX9_addDuty_1 ?_
  refine lv_aload_n hx hb dX9_addDuty_4 rfl (lv_at hl 0 rfl) ?_
  refine zg (v := .int (M k 11)) E hZ (xb_X9 hk) ((xe_X9 hk) _) kc_X9 11 (by decide) kw_97 rfl rfl dX9_addDuty_5 ?_
  refine lv_iconst (v := 3) hx hb dX9_addDuty_8 (by decide) ?_
  refine lv_imul hx hb dX9_addDuty_9 ?_
  refine lv_iconst (v := 0) hx hb dX9_addDuty_10 (by decide) ?_
  refine lv_iadd hx hb dX9_addDuty_11 ?_
  refine lv_iload_n hx hb dX9_addDuty_12 rfl (lv_at hl 1 rfl) ?_
  obtain ⟨u_1, qu_1, h⟩ := zbn_some h
  refine zcvS (zrunSN E hZ v_X10_put kw_673 (c_X10_put l g M (k + 4) (xc_X9_dutyCells hk).1 (((M k 11) * 3) + 0) x1 qu_1 _) rfl hl.1 rfl (Nat.le_of_ble_eq_true rfl) ⟨by decide, by decide⟩ ⟨by decide, by decide⟩ dX9_addDuty_13) hZ (fun H locs hZ => ?_)
  refine lv_aload_n hx hb dX9_addDuty_16 rfl (lv_at hl 0 rfl) ?_
  refine zg (v := .ref (g.2.2 (k + 4))) E hZ (xb_X9 hk) ((xe_X9 hk) _) kc_X9 18 (by decide) kw_118 rfl rfl dX9_addDuty_17 ?_
  refine lv_aload_n hx hb dX9_addDuty_20 rfl (lv_at hl 0 rfl) ?_
  refine zg (v := .int (u_1 k 11)) E hZ (xb_X9 hk) ((xe_X9 hk) _) kc_X9 11 (by decide) kw_97 rfl rfl dX9_addDuty_21 ?_
  refine lv_iconst (v := 3) hx hb dX9_addDuty_24 (by decide) ?_
  refine lv_imul hx hb dX9_addDuty_25 ?_
  refine lv_iconst (v := 1) hx hb dX9_addDuty_26 (by decide) ?_
  refine lv_iadd hx hb dX9_addDuty_27 ?_
  refine lv_iload_n hx hb dX9_addDuty_28 rfl (lv_at hl 2 rfl) ?_
  obtain ⟨u_2, qu_2, h⟩ := zbn_some h
  refine zcvS (zrunSN E hZ v_X10_put kw_673 (c_X10_put l g u_1 (k + 4) (xc_X9_dutyCells hk).1 (((u_1 k 11) * 3) + 1) x2 qu_2 _) rfl hl.1 rfl (Nat.le_of_ble_eq_true rfl) ⟨by decide, by decide⟩ ⟨by decide, by decide⟩ dX9_addDuty_29) hZ (fun H locs hZ => ?_)
  refine lv_aload_n hx hb dX9_addDuty_32 rfl (lv_at hl 0 rfl) ?_
  refine zg (v := .ref (g.2.2 (k + 4))) E hZ (xb_X9 hk) ((xe_X9 hk) _) kc_X9 18 (by decide) kw_118 rfl rfl dX9_addDuty_33 ?_
  refine lv_aload_n hx hb dX9_addDuty_36 rfl (lv_at hl 0 rfl) ?_
  refine zg (v := .int (u_2 k 11)) E hZ (xb_X9 hk) ((xe_X9 hk) _) kc_X9 11 (by decide) kw_97 rfl rfl dX9_addDuty_37 ?_
  refine lv_iconst (v := 3) hx hb dX9_addDuty_40 (by decide) ?_
  refine lv_imul hx hb dX9_addDuty_41 ?_
  refine lv_iconst (v := 2) hx hb dX9_addDuty_42 (by decide) ?_
  refine lv_iadd hx hb dX9_addDuty_43 ?_
  refine lv_iload_n hx hb dX9_addDuty_44 rfl (lv_at hl 3 rfl) ?_
  obtain ⟨u_3, qu_3, h⟩ := zbn_some h
  refine zcvS (zrunSN E hZ v_X10_put kw_673 (c_X10_put l g u_2 (k + 4) (xc_X9_dutyCells hk).1 (((u_2 k 11) * 3) + 2) x3 qu_3 _) rfl hl.1 rfl (Nat.le_of_ble_eq_true rfl) ⟨by decide, by decide⟩ ⟨by decide, by decide⟩ dX9_addDuty_45) hZ (fun H locs hZ => ?_)
  refine lv_aload_n hx hb dX9_addDuty_48 rfl (lv_at hl 0 rfl) ?_
  refine lv_dup hx hb dX9_addDuty_49 rfl ?_
  refine zg (v := .int (u_3 k 11)) E hZ (xb_X9 hk) ((xe_X9 hk) _) kc_X9 11 (by decide) kw_97 rfl rfl dX9_addDuty_50 ?_
  refine lv_iconst (v := 1) hx hb dX9_addDuty_53 (by decide) ?_
  refine lv_iadd hx hb dX9_addDuty_54 ?_
  refine zp h E hZ (xb_X9 hk) ((xe_X9 hk) _) (((xe_X9 hk) _).trans (congrArg (fun z => Sum.inr (8, z)) (fs_X9_11 g _ _ _))) kc_X9 (by decide) kw_97 rfl rfl rfl (Nat.le_of_ble_eq_true rfl) dX9_addDuty_55 (fun M_4 H locs eM_4 h hZ => ?_)
  exact hret _ _ _ _ _ (Option.some.inj h) hZ dX9_addDuty_58
theorem c_X9_addDuty (l : Launch) (g : zG) (M : zM) (k : Nat) (hk : xk k = 8) (x1 : Int32) (x2 : Int32) (x3 : Int32) {r : zM} (h : f_X9_addDuty M k x1 x2 x3 = some r) : zMv l g xE 125 yX9_addDuty (zWs yX9_addDuty cX9_addDuty 4 none) 3 [.ref (g.2.2 k), .int x1, .int x2, .int x3] M (fun M1 => M1 = r) :=
  zMv_of (by decide +kernel) (Nat.le_of_ble_eq_true rfl) (fun p e s m args below meth c Q ls E hret hZ hl => w_X9_addDuty g k hk E hret M x1 x2 x3 _ _ ls h hZ hl)
theorem v_X9_addDuty : zYV yX9_addDuty cX9_addDuty 4 none 3 := ⟨kw_681, kw_3, kw_679, kw_680, by decide +kernel⟩

def f_X7_isSign (M : zM) (x1 : Int32) : Option (Int32) :=
  if (M 39 2) = 3 then (if (M 39 3) = x1 then (some 1) else (some 0)) else (some 0)
set_option maxRecDepth 100000 in
set_option maxHeartbeats 4000000 in
theorem w_X7_isSign (g : zG)  {r : Int32} {M0 : zM} (E : zX g p m c cX7_isSign 2 s args (zWs yX7_isSign cX7_isSign 2 (some .boolean)) RX7) (hret : zRi g xE 125 p l e (zrm 2 0 0) s m args below meth c 0 0 Q cX7_isSign .boolean (fun v M1 => v = r ∧ M1 = M0)) (M : zM) (hM : M = M0) (x1 : Int32) (H : Heap) (locs : List Loc) (ls : Array Slot) (h : f_X7_isSign M x1 = some r) (hZ : zS g xE 125 s H locs M) (hl : lv_has ls 2 [(0, .ref (g.2.2 39)), (1, .int x1)]) : W p l e (zrm 2 0 0) s m args below meth c H locs 0 0 Q (F0 m 0 ls []) := by
  have hx := E.1.1
  have hb := E.1.2.1
  unfold f_X7_isSign at h
  refine lv_aload_n hx hb dX7_isSign_0 rfl (lv_at hl 0 rfl) ?_
  refine zg (v := .int (M 39 2)) E hZ (xb_X7 xs_39) ((xe_X7 xs_39) _) kc_X7 2 (by decide) kw_247 rfl rfl dX7_isSign_1 ?_
  refine lv_iconst (v := 3) hx hb dX7_isSign_4 (by decide) ?_
  refine zic_ne (tgt := 20) h E dX7_isSign_5 (by decide) (fun c_2 h => ?_) (fun c_2 h => ?_)
  · refine lv_iconst (v := 0) hx hb dX7_isSign_20 (by decide) ?_
    exact hret _ _ _ _ _ _ ⟨Option.some.inj h, hM⟩ rfl hZ dX7_isSign_21
  · refine lv_aload_n hx hb dX7_isSign_8 rfl (lv_at hl 0 rfl) ?_
    refine zg (v := .int (M 39 3)) E hZ (xb_X7 xs_39) ((xe_X7 xs_39) _) kc_X7 3 (by decide) kw_248 rfl rfl dX7_isSign_9 ?_
    refine lv_iload_n hx hb dX7_isSign_12 rfl (lv_at hl 1 rfl) ?_
    refine zic_ne (tgt := 20) h E dX7_isSign_13 (by decide) (fun c_1 h => ?_) (fun c_1 h => ?_)
    · refine lv_iconst (v := 0) hx hb dX7_isSign_20 (by decide) ?_
      exact hret _ _ _ _ _ _ ⟨Option.some.inj h, hM⟩ rfl hZ dX7_isSign_21
    · refine lv_iconst (v := 1) hx hb dX7_isSign_16 (by decide) ?_
      refine lv_goto (tgt := 21) hx hb dX7_isSign_17 (by decide) ?_
      exact hret _ _ _ _ _ _ ⟨Option.some.inj h, hM⟩ rfl hZ dX7_isSign_21
theorem c_X7_isSign (l : Launch) (g : zG) (M : zM)  (x1 : Int32) {r : Int32} (h : f_X7_isSign M x1 = some r) : zMi l g xE 125 yX7_isSign (zWs yX7_isSign cX7_isSign 2 (some .boolean)) 2 [.ref (g.2.2 39), .int x1] M (fun v M1 => v = r ∧ M1 = M) :=
  zMi_of (by decide +kernel) (Nat.le_of_ble_eq_true rfl) (fun p e s m args below meth c Q ls E hret hZ hl => w_X7_isSign g  E hret M rfl x1 _ _ ls h hZ hl)
theorem v_X7_isSign : zYV yX7_isSign cX7_isSign 2 (some .boolean) 1 := ⟨kw_705, kw_5, kw_703, kw_704, by decide +kernel⟩

def f_X7_takeSign (M : zM) (x1 : Int32) : Option (Int32 × zM) :=
  zbn (f_X7_isSign M x1) (fun u_1 => if u_1 = 0 then (zbn (f_X7_miss M ) (fun u_3 => zck (zbl u_3.1) (some (u_3.1, u_3.2)))) else (zbn (f_X7_next M ) (fun u_2 => some (1, u_2))))
set_option maxRecDepth 100000 in
set_option maxHeartbeats 4000000 in
theorem w_X7_takeSign (g : zG)  {r : Int32 × zM} (E : zX g p m c cX7_takeSign 2 s args (zWs yX7_takeSign cX7_takeSign 2 (some .boolean)) RX7) (hret : zRi g xE 125 p l e (zrm 4 0 0) s m args below meth c 0 0 Q cX7_takeSign .boolean (fun v M1 => r = (v, M1))) (M : zM) (x1 : Int32) (H : Heap) (locs : List Loc) (ls : Array Slot) (h : f_X7_takeSign M x1 = some r) (hZ : zS g xE 125 s H locs M) (hl : lv_has ls 2 [(0, .ref (g.2.2 39)), (1, .int x1)]) : W p l e (zrm 4 0 0) s m args below meth c H locs 0 0 Q (F0 m 0 ls []) := by
  have hx := E.1.1
  have hb := E.1.2.1
  unfold f_X7_takeSign at h
  refine lv_aload_n hx hb dX7_takeSign_0 rfl (lv_at hl 0 rfl) ?_
  refine lv_iload_n hx hb dX7_takeSign_1 rfl (lv_at hl 1 rfl) ?_
  obtain ⟨u_1, qu_1, h⟩ := zbn_some h
  refine zciR (zrunV E hZ (xb_X7 xs_39) ((xe_X7 xs_39) _) rfl rfl v_X7_isSign kw_702 (c_X7_isSign l g M  x1 qu_1 _) rfl hl.1 rfl (Nat.le_of_ble_eq_true rfl) ⟨by decide, by decide⟩ ⟨by decide, by decide⟩ dX7_takeSign_2) hZ (fun H locs hZ => ?_)
  refine zif_ne (tgt := 13) h E dX7_takeSign_5 (by decide) (fun c_4 h => ?_) (fun c_4 h => ?_)
  · refine lv_aload_n hx hb dX7_takeSign_13 rfl (lv_at hl 0 rfl) ?_
    obtain ⟨u_2, qu_2, h⟩ := zbn_some h
    refine zcvS (zrunV E hZ (xb_X7 xs_39) ((xe_X7 xs_39) _) rfl rfl v_X7_next kw_593 (c_X7_next l g M   qu_2 _) rfl hl.1 rfl (Nat.le_of_ble_eq_true rfl) ⟨by decide, by decide⟩ ⟨by decide, by decide⟩ dX7_takeSign_14) hZ (fun H locs hZ => ?_)
    refine lv_iconst (v := 1) hx hb dX7_takeSign_17 (by decide) ?_
    exact hret _ _ _ _ _ _ (Option.some.inj h).symm rfl hZ dX7_takeSign_18
  · refine lv_aload_n hx hb dX7_takeSign_8 rfl (lv_at hl 0 rfl) ?_
    obtain ⟨u_3, qu_3, h⟩ := zbn_some h
    refine zciS (zrunV E hZ (xb_X7 xs_39) ((xe_X7 xs_39) _) rfl rfl v_X7_miss kw_638 (c_X7_miss l g M   qu_3 _) rfl hl.1 rfl (Nat.le_of_ble_eq_true rfl) ⟨by decide, by decide⟩ ⟨by decide, by decide⟩ dX7_takeSign_9) hZ (fun H locs hZ => ?_)
    obtain ⟨hbl, h⟩ := zck_some h
    exact hret _ _ _ _ _ _ (Option.some.inj h).symm (zbl_n hbl) hZ dX7_takeSign_12
theorem c_X7_takeSign (l : Launch) (g : zG) (M : zM)  (x1 : Int32) {r : Int32 × zM} (h : f_X7_takeSign M x1 = some r) : zMi l g xE 125 yX7_takeSign (zWs yX7_takeSign cX7_takeSign 2 (some .boolean)) 4 [.ref (g.2.2 39), .int x1] M (fun v M1 => r = (v, M1)) :=
  zMi_of (by decide +kernel) (Nat.le_of_ble_eq_true rfl) (fun p e s m args below meth c Q ls E hret hZ hl => w_X7_takeSign g  E hret M x1 _ _ ls h hZ hl)
theorem v_X7_takeSign : zYV yX7_takeSign cX7_takeSign 2 (some .boolean) 1 := ⟨kw_701, kw_5, kw_699, kw_700, by decide +kernel⟩

def b_X8_look_49 (K2 : zM → Int32 → Option (zM)) (o1 : Nat) (M : zM) (x2 : Int32) (x3 : Int32) : Option (zM) :=
  zck (zin x2 21) (znm (zu M 44 (x2 : Int32).toNatClampNeg x3) (fun M_1 => znm (x2 + 1) (fun x2_2 => K2 M_1 x2_2)))
set_option maxRecDepth 100000 in
set_option maxHeartbeats 4000000 in
theorem lb_X8_look_49 (g : zG)  (o1 : Nat) (ho1 : xk o1 = 8) {r : zM} (E : zX g p m c cX8_look 5 s args (zWs yX8_look cX8_look 5 none) RX8) (hret : zRv g xE 125 p l e (zrm 3 0 0) s m args below meth c 0 0 Q cX8_look (fun M1 => M1 = r)) (M : zM) (x2 : Int32) (x3 : Int32) (K2 : zM → Int32 → Option (zM)) (hK2 : ∀ (M : zM) (x2 : Int32) (H : Heap) (locs : List Loc) (ls : Array Slot), K2 M x2 = some r → zS g xE 125 s H locs M → lv_has ls 5 [(0, .ref (g.2.2 43)), (1, .ref (g.2.2 o1)), (2, .int x2)] → W p l e (zrm 3 0 0) s m args below meth c H locs 0 0 Q (F0 m 2 ls [])) (H : Heap) (locs : List Loc) (ls : Array Slot) (h : b_X8_look_49 K2 o1 M x2 x3 = some r) (hZ : zS g xE 125 s H locs M) (hl : lv_has ls 5 [(0, .ref (g.2.2 43)), (1, .ref (g.2.2 o1)), (2, .int x2), (3, .int x3)]) : W p l e (zrm 3 0 0) s m args below meth c H locs 0 0 Q (F0 m 49 ls []) := by
  have hx := E.1.1
  have hb := E.1.2.1
  unfold b_X8_look_49 at h
  refine lv_aload_n hx hb dX8_look_49 rfl (lv_at hl 0 rfl) ?_
  refine zg (v := .ref (g.2.2 44)) E hZ (xb_X8 xs_43) ((xe_X8 xs_43) _) kc_X8 0 (by decide) kw_300 rfl rfl dX8_look_50 ?_
  refine lv_iload_n hx hb dX8_look_53 rfl (lv_at hl 2 rfl) ?_
  refine lv_iload_n hx hb dX8_look_54 rfl (lv_at hl 3 rfl) ?_
  refine zis h E hZ (xb_I xs_44.1) (xe_IL xs_44) dX8_look_55 (fun M_1 H locs eM_1 h hZ => ?_)
  obtain ⟨x2_2, ex2_2, h⟩ := znm_ex h
  refine lv_iinc (v := x2_2) (lv' := [(2, .int x2_2), (0, .ref (g.2.2 43)), (1, .ref (g.2.2 o1)), (3, .int x3)]) hx hb dX8_look_56 hl (k := 2) rfl (by rw [ex2_2]; rfl) (by decide) rfl (fun ls hl => ?_)
  refine lv_goto (tgt := 2) hx hb dX8_look_59 (by decide) ?_
  exact hK2 M_1 x2_2 H locs ls h hZ (lv_sub hl [1, 2, 0] rfl)
def b_X8_look_43 (K16 : Int32 → Int32 → Option (zM)) (o1 : Nat) (M : zM) (x2 : Int32) (x3 : Int32) (x4 : Int32) : Option (zM) :=
  znm (x4 + 1) (fun x4_3 => K16 x3 x4_3)
set_option maxRecDepth 100000 in
set_option maxHeartbeats 4000000 in
theorem lb_X8_look_43 (g : zG)  (o1 : Nat) (ho1 : xk o1 = 8) {r : zM} (E : zX g p m c cX8_look 5 s args (zWs yX8_look cX8_look 5 none) RX8) (hret : zRv g xE 125 p l e (zrm 3 0 0) s m args below meth c 0 0 Q cX8_look (fun M1 => M1 = r)) (M : zM) (x2 : Int32) (x3 : Int32) (x4 : Int32) (K16 : Int32 → Int32 → Option (zM)) (hK16 : ∀ (x3 : Int32) (x4 : Int32) (H : Heap) (locs : List Loc) (ls : Array Slot), K16 x3 x4 = some r → zS g xE 125 s H locs M → lv_has ls 5 [(0, .ref (g.2.2 43)), (1, .ref (g.2.2 o1)), (2, .int x2), (3, .int x3), (4, .int x4)] → W p l e (zrm 3 0 0) s m args below meth c H locs 0 0 Q (F0 m 16 ls [])) (H : Heap) (locs : List Loc) (ls : Array Slot) (h : b_X8_look_43 K16 o1 M x2 x3 x4 = some r) (hZ : zS g xE 125 s H locs M) (hl : lv_has ls 5 [(0, .ref (g.2.2 43)), (1, .ref (g.2.2 o1)), (2, .int x2), (3, .int x3), (4, .int x4)]) : W p l e (zrm 3 0 0) s m args below meth c H locs 0 0 Q (F0 m 43 ls []) := by
  have hx := E.1.1
  have hb := E.1.2.1
  unfold b_X8_look_43 at h
  obtain ⟨x4_3, ex4_3, h⟩ := znm_ex h
  refine lv_iinc (v := x4_3) (lv' := [(4, .int x4_3), (0, .ref (g.2.2 43)), (1, .ref (g.2.2 o1)), (2, .int x2), (3, .int x3)]) hx hb dX8_look_43 hl (k := 4) rfl (by rw [ex4_3]; rfl) (by decide) rfl (fun ls hl => ?_)
  refine lv_goto (tgt := 16) hx hb dX8_look_46 (by decide) ?_
  exact hK16 x3 x4_3 H locs ls h hZ (lv_sub hl [1, 2, 3, 4, 0] rfl)
def b_X8_look_16 (K2 : zM → Int32 → Option (zM)) (o1 : Nat) (M : zM) (x2 : Int32) : Nat → Int32 → Int32 → Option (zM)
  | 0, _, _ => none
  | n + 1, x3, x4 =>
    if 12 ≤ x4 then (b_X8_look_49 K2 o1 M x2 x3) else (zbn (f_X10_at M (o1 + 1) x4) (fun u_4 => if u_4 < x2 then (b_X8_look_43 (fun x3 x4 => b_X8_look_16 K2 o1 M x2 n x3 x4) o1 M x2 x3 x4) else (znm (x3 ||| ((1 : Int32) <<< (x4 &&& 31))) (fun x3_5 => b_X8_look_43 (fun x3 x4 => b_X8_look_16 K2 o1 M x2 n x3 x4) o1 M x2 x3_5 x4))))
set_option maxRecDepth 100000 in
set_option maxHeartbeats 4000000 in
theorem lb_X8_look_16 (g : zG)  (o1 : Nat) (ho1 : xk o1 = 8) {r : zM} (E : zX g p m c cX8_look 5 s args (zWs yX8_look cX8_look 5 none) RX8) (hret : zRv g xE 125 p l e (zrm 3 0 0) s m args below meth c 0 0 Q cX8_look (fun M1 => M1 = r)) (M : zM) (x2 : Int32) (K2 : zM → Int32 → Option (zM)) (hK2 : ∀ (M : zM) (x2 : Int32) (H : Heap) (locs : List Loc) (ls : Array Slot), K2 M x2 = some r → zS g xE 125 s H locs M → lv_has ls 5 [(0, .ref (g.2.2 43)), (1, .ref (g.2.2 o1)), (2, .int x2)] → W p l e (zrm 3 0 0) s m args below meth c H locs 0 0 Q (F0 m 2 ls [])) : ∀ (n : Nat) (x3 : Int32) (x4 : Int32) (H : Heap) (locs : List Loc) (ls : Array Slot), b_X8_look_16 K2 o1 M x2 n x3 x4 = some r → zS g xE 125 s H locs M → lv_has ls 5 [(0, .ref (g.2.2 43)), (1, .ref (g.2.2 o1)), (2, .int x2), (3, .int x3), (4, .int x4)] → W p l e (zrm 3 0 0) s m args below meth c H locs 0 0 Q (F0 m 16 ls []) := by
  have hx := E.1.1
  have hb := E.1.2.1
  intro n
  induction n with
  | zero => intro x3 x4 H locs ls h hZ hl; cases h
  | succ n ih =>
    intro x3 x4 H locs ls h hZ hl
    rw [b_X8_look_16] at h
    refine lv_iload hx hb dX8_look_16 (lv_at hl 4 rfl) ?_
    refine lv_bipush (v := 12) hx hb dX8_look_18 (by decide) ?_
    refine zic_ge (tgt := 49) h E dX8_look_20 (by decide) (fun c_7 h => ?_) (fun c_7 h => ?_)
    · exact lb_X8_look_49 g o1 ho1 E hret M x2 x3 K2 hK2 H locs ls h hZ (lv_sub hl [0, 1, 2, 3] rfl)
    · refine lv_aload_n hx hb dX8_look_23 rfl (lv_at hl 1 rfl) ?_
      refine zg (v := .ref (g.2.2 (o1 + 1))) E hZ (xb_X9 ho1) ((xe_X9 ho1) _) kc_X9 15 (by decide) kw_111 rfl rfl dX8_look_24 ?_
      refine lv_iload hx hb dX8_look_27 (lv_at hl 4 rfl) ?_
      obtain ⟨u_4, qu_4, h⟩ := zbn_some h
      refine zciR (zrunSN E hZ v_X10_at kw_1098 (c_X10_at l g M (o1 + 1) (xc_X9_ground ho1).1 x4 qu_4 _) rfl hl.1 rfl (Nat.le_of_ble_eq_true rfl) ⟨by decide, by decide⟩ ⟨by decide, by decide⟩ dX8_look_29) hZ (fun H locs hZ => ?_)
      refine lv_iload_n hx hb dX8_look_32 rfl (lv_at hl 2 rfl) ?_
      refine zic_lt (tgt := 43) h E dX8_look_33 (by decide) (fun c_6 h => ?_) (fun c_6 h => ?_)
      · exact lb_X8_look_43 g o1 ho1 E hret M x2 x3 x4 (fun x3 x4 => b_X8_look_16 K2 o1 M x2 n x3 x4) ih H locs ls h hZ (lv_sub hl [0, 1, 2, 3, 4] rfl)
      · refine lv_iload_n hx hb dX8_look_36 rfl (lv_at hl 3 rfl) ?_
        refine lv_iconst (v := 1) hx hb dX8_look_37 (by decide) ?_
        refine lv_iload hx hb dX8_look_38 (lv_at hl 4 rfl) ?_
        refine lv_ishl hx hb dX8_look_40 ?_
        refine lv_ior hx hb dX8_look_41 ?_
        refine zni h (fun x3_5 ex3_5 h => ?_)
        refine lv_istore_n (lv' := [(3, .int x3_5), (0, .ref (g.2.2 43)), (1, .ref (g.2.2 o1)), (2, .int x2), (4, .int x4)]) hx hb dX8_look_42 rfl hl (by decide) rfl (fun ls hl => ?_)
        exact lb_X8_look_43 g o1 ho1 E hret M x2 x3_5 x4 (fun x3 x4 => b_X8_look_16 K2 o1 M x2 n x3 x4) ih H locs ls h hZ (lv_sub hl [1, 2, 3, 0, 4] rfl)
def b_X8_look_2  (o1 : Nat) : Nat → zM → Int32 → Option (zM)
  | 0, _, _ => none
  | n + 1, M, x2 =>
    if 21 ≤ x2 then (some M) else (b_X8_look_16 (fun M x2 => b_X8_look_2  o1 n M x2) o1 M x2 6000 0 0)
set_option maxRecDepth 100000 in
set_option maxHeartbeats 4000000 in
theorem lb_X8_look_2 (g : zG)  (o1 : Nat) (ho1 : xk o1 = 8) {r : zM} (E : zX g p m c cX8_look 5 s args (zWs yX8_look cX8_look 5 none) RX8) (hret : zRv g xE 125 p l e (zrm 3 0 0) s m args below meth c 0 0 Q cX8_look (fun M1 => M1 = r))   : ∀ (n : Nat) (M : zM) (x2 : Int32) (H : Heap) (locs : List Loc) (ls : Array Slot), b_X8_look_2  o1 n M x2 = some r → zS g xE 125 s H locs M → lv_has ls 5 [(0, .ref (g.2.2 43)), (1, .ref (g.2.2 o1)), (2, .int x2)] → W p l e (zrm 3 0 0) s m args below meth c H locs 0 0 Q (F0 m 2 ls []) := by
  have hx := E.1.1
  have hb := E.1.2.1
  intro n
  induction n with
  | zero => intro M x2 H locs ls h hZ hl; cases h
  | succ n ih =>
    intro M x2 H locs ls h hZ hl
    rw [b_X8_look_2] at h
    refine lv_iload_n hx hb dX8_look_2 rfl (lv_at hl 2 rfl) ?_
    refine lv_aload_n hx hb dX8_look_3 rfl (lv_at hl 0 rfl) ?_
    refine zg (v := .ref (g.2.2 44)) E hZ (xb_X8 xs_43) ((xe_X8 xs_43) _) kc_X8 0 (by decide) kw_300 rfl rfl dX8_look_4 ?_
    refine zal (v := 21) E hZ 0 rfl (xb_I xs_44.1) (xe_IL xs_44) (by decide) dX8_look_7 ?_
    refine zic_ge (tgt := 62) h E dX8_look_8 (by decide) (fun c_8 h => ?_) (fun c_8 h => ?_)
    · exact hret _ _ _ _ _ (Option.some.inj h) hZ dX8_look_62
    · refine lv_iconst (v := 0) hx hb dX8_look_11 (by decide) ?_
      refine lv_istore_n (lv' := [(3, .int 0), (0, .ref (g.2.2 43)), (1, .ref (g.2.2 o1)), (2, .int x2)]) hx hb dX8_look_12 rfl hl (by decide) rfl (fun ls hl => ?_)
      refine lv_iconst (v := 0) hx hb dX8_look_13 (by decide) ?_
      refine lv_istore (lv' := [(4, .int 0), (3, .int 0), (0, .ref (g.2.2 43)), (1, .ref (g.2.2 o1)), (2, .int x2)]) hx hb dX8_look_14 hl (by decide) rfl (fun ls hl => ?_)
      exact lb_X8_look_16 g o1 ho1 E hret M x2 (fun M x2 => b_X8_look_2  o1 n M x2) ih 6000 0 0 H locs ls h hZ (lv_sub hl [2, 3, 4, 1, 0] rfl)
def f_X8_look (M : zM) (o1 : Nat) : Option (zM) :=
  b_X8_look_2  o1 6000 M 0
set_option maxRecDepth 100000 in
set_option maxHeartbeats 4000000 in
theorem w_X8_look (g : zG)  (o1 : Nat) (ho1 : xk o1 = 8) {r : zM} (E : zX g p m c cX8_look 5 s args (zWs yX8_look cX8_look 5 none) RX8) (hret : zRv g xE 125 p l e (zrm 3 0 0) s m args below meth c 0 0 Q cX8_look (fun M1 => M1 = r)) (M : zM)  (H : Heap) (locs : List Loc) (ls : Array Slot) (h : f_X8_look M o1 = some r) (hZ : zS g xE 125 s H locs M) (hl : lv_has ls 5 [(0, .ref (g.2.2 43)), (1, .ref (g.2.2 o1))]) : W p l e (zrm 3 0 0) s m args below meth c H locs 0 0 Q (F0 m 0 ls []) := by
  have hx := E.1.1
  have hb := E.1.2.1
  unfold f_X8_look at h
  refine lv_iconst (v := 0) hx hb dX8_look_0 (by decide) ?_
  refine lv_istore_n (lv' := [(2, .int 0), (0, .ref (g.2.2 43)), (1, .ref (g.2.2 o1))]) hx hb dX8_look_1 rfl hl (by decide) rfl (fun ls hl => ?_)
  exact lb_X8_look_2 g o1 ho1 E hret   6000 M 0 H locs ls h hZ (lv_sub hl [1, 2, 0] rfl)
theorem c_X8_look (l : Launch) (g : zG) (M : zM) (o1 : Nat) (ho1 : xk o1 = 8)  {r : zM} (h : f_X8_look M o1 = some r) : zMv l g xE 125 yX8_look (zWs yX8_look cX8_look 5 none) 3 [.ref (g.2.2 43), .ref (g.2.2 o1)] M (fun M1 => M1 = r) :=
  zMv_of (by decide +kernel) (Nat.le_of_ble_eq_true rfl) (fun p e s m args below meth c Q ls E hret hZ hl => w_X8_look g o1 ho1 E hret M  _ _ ls h hZ hl)
theorem v_X8_look : zYV yX8_look cX8_look 5 none 1 := ⟨kw_1097, kw_12, kw_1095, kw_1096, by decide +kernel⟩

def f_X8_openPlaces (M : zM) (o1 : Nat) (x2 : Int32) (x3 : Int32) : Option (Int32) :=
  zbn (f_X9_waterWith M o1 x2 (M o1 1)) (fun u_1 => znm (u_1 - x3) (fun x4_2 => znm (if x4_2 < 20 then x4_2 else 20) (fun v_3 => znm (if 0 < v_3 then v_3 else 0) (fun v_4 => zbn (f_X10_at M 44 v_4) (fun u_5 => some u_5)))))
set_option maxRecDepth 100000 in
set_option maxHeartbeats 4000000 in
theorem w_X8_openPlaces (g : zG)  (o1 : Nat) (ho1 : xk o1 = 8) {r : Int32} {M0 : zM} (E : zX g p m c cX8_openPlaces 5 s args (zWs yX8_openPlaces cX8_openPlaces 5 (some .int)) RX8) (hret : zRi g xE 125 p l e (zrm 4 0 0) s m args below meth c 0 0 Q cX8_openPlaces .int (fun v M1 => v = r ∧ M1 = M0)) (M : zM) (hM : M = M0) (x2 : Int32) (x3 : Int32) (H : Heap) (locs : List Loc) (ls : Array Slot) (h : f_X8_openPlaces M o1 x2 x3 = some r) (hZ : zS g xE 125 s H locs M) (hl : lv_has ls 5 [(0, .ref (g.2.2 43)), (1, .ref (g.2.2 o1)), (2, .int x2), (3, .int x3)]) : W p l e (zrm 4 0 0) s m args below meth c H locs 0 0 Q (F0 m 0 ls []) := by
  have hx := E.1.1
  have hb := E.1.2.1
  unfold f_X8_openPlaces at h
  refine lv_aload_n hx hb dX8_openPlaces_0 rfl (lv_at hl 1 rfl) ?_
  refine lv_iload_n hx hb dX8_openPlaces_1 rfl (lv_at hl 2 rfl) ?_
  refine lv_aload_n hx hb dX8_openPlaces_2 rfl (lv_at hl 1 rfl) ?_
  refine zg (v := .int (M o1 1)) E hZ (xb_X9 ho1) ((xe_X9 ho1) _) kc_X9 1 (by decide) kw_67 rfl rfl dX8_openPlaces_3 ?_
  obtain ⟨u_1, qu_1, h⟩ := zbn_some h
  refine zciR (zrunV E hZ (xb_X9 ho1) ((xe_X9 ho1) _) rfl rfl v_X9_waterWith kw_1103 (c_X9_waterWith l g M o1 ho1 x2 (M o1 1) qu_1 _) rfl hl.1 rfl (Nat.le_of_ble_eq_true rfl) ⟨by decide, by decide⟩ ⟨by decide, by decide⟩ dX8_openPlaces_6) hZ (fun H locs hZ => ?_)
  refine lv_iload_n hx hb dX8_openPlaces_9 rfl (lv_at hl 3 rfl) ?_
  refine lv_isub hx hb dX8_openPlaces_10 ?_
  refine zni h (fun x4_2 ex4_2 h => ?_)
  refine lv_istore (lv' := [(4, .int x4_2), (0, .ref (g.2.2 43)), (1, .ref (g.2.2 o1)), (2, .int x2), (3, .int x3)]) hx hb dX8_openPlaces_11 hl (by decide) rfl (fun ls hl => ?_)
  refine lv_aload_n hx hb dX8_openPlaces_13 rfl (lv_at hl 1 rfl) ?_
  refine zg (v := .ref (g.2.2 44)) E hZ (xb_X8 xs_43) ((xe_X8 xs_43) _) kc_X8 0 (by decide) kw_300 rfl rfl dX8_openPlaces_14 ?_
  refine lv_iconst (v := 0) hx hb dX8_openPlaces_17 (by decide) ?_
  refine lv_bipush (v := 20) hx hb dX8_openPlaces_18 (by decide) ?_
  refine lv_iload hx hb dX8_openPlaces_20 (lv_at hl 0 rfl) ?_
  refine va_mmin hx hb (E.1.2.2.1.trans hl.1.symm) E.1.2.2.2.1 (E.w kw_1104) (E.w kw_540) (E.w kw_16) (E.w kw_541) (Nat.le_of_ble_eq_true rfl) (Nat.le_of_ble_eq_true rfl) (Nat.le_of_ble_eq_true rfl) (Nat.le_of_ble_eq_true rfl) dX8_openPlaces_22 ?_
  refine zni h (fun v_3 ev_3 h => ?_)
  refine va_mmax hx hb (E.1.2.2.1.trans hl.1.symm) E.1.2.2.2.1 (E.w kw_1105) (E.w kw_453) (E.w kw_16) (E.w kw_454) (Nat.le_of_ble_eq_true rfl) (Nat.le_of_ble_eq_true rfl) (Nat.le_of_ble_eq_true rfl) (Nat.le_of_ble_eq_true rfl) dX8_openPlaces_25 ?_
  refine zni h (fun v_4 ev_4 h => ?_)
  obtain ⟨u_5, qu_5, h⟩ := zbn_some h
  refine zciR (zrunSN E hZ v_X10_at kw_1098 (c_X10_at l g M 44 xs_44.1 v_4 qu_5 _) rfl hl.1 rfl (Nat.le_of_ble_eq_true rfl) ⟨by decide, by decide⟩ ⟨by decide, by decide⟩ dX8_openPlaces_28) hZ (fun H locs hZ => ?_)
  exact hret _ _ _ _ _ _ ⟨Option.some.inj h, hM⟩ rfl hZ dX8_openPlaces_31
theorem c_X8_openPlaces (l : Launch) (g : zG) (M : zM) (o1 : Nat) (ho1 : xk o1 = 8) (x2 : Int32) (x3 : Int32) {r : Int32} (h : f_X8_openPlaces M o1 x2 x3 = some r) : zMi l g xE 125 yX8_openPlaces (zWs yX8_openPlaces cX8_openPlaces 5 (some .int)) 4 [.ref (g.2.2 43), .ref (g.2.2 o1), .int x2, .int x3] M (fun v M1 => v = r ∧ M1 = M) :=
  zMi_of (by decide +kernel) (Nat.le_of_ble_eq_true rfl) (fun p e s m args below meth c Q ls E hret hZ hl => w_X8_openPlaces g o1 ho1 E hret M rfl x2 x3 _ _ ls h hZ hl)
theorem v_X8_openPlaces : zYV yX8_openPlaces cX8_openPlaces 5 (some .int) 3 := ⟨kw_1102, kw_12, kw_1100, kw_1101, by decide +kernel⟩

def b_X8_fewestHours_66 (K26 : Int32 → Int32 → Int32 → Option (Int32)) (o1 : Nat) (M : zM) (x3 : Int32) (x4 : Int32) (x5 : Int32) (x6 : Int32) (x7 : Int32) (x9 : Int32) : Option (Int32) :=
  zbn (f_X8_openPlaces M o1 (x6 + x9) x5) (fun u_1 => znm (x7 &&& u_1) (fun x7_2 => zbn (f_X10_has M x7_2 x3) (fun u_3 => if u_3 = 0 then (znm (x9 + 1) (fun x9_4 => K26 x7_2 u_1 x9_4)) else (some x9))))
set_option maxRecDepth 100000 in
set_option maxHeartbeats 4000000 in
theorem lb_X8_fewestHours_66 (g : zG)  (o1 : Nat) (ho1 : xk o1 = 8) {r : Int32} {M0 : zM} (E : zX g p m c cX8_fewestHours 11 s args (zWs yX8_fewestHours cX8_fewestHours 11 (some .int)) RX8) (hret : zRi g xE 125 p l e (zrm 5 0 0) s m args below meth c 0 0 Q cX8_fewestHours .int (fun v M1 => v = r ∧ M1 = M0)) (M : zM) (x3 : Int32) (x4 : Int32) (x5 : Int32) (x6 : Int32) (x7 : Int32) (x9 : Int32) (hM : M = M0) (K26 : Int32 → Int32 → Int32 → Option (Int32)) (hK26 : ∀ (x7 : Int32) (x8 : Int32) (x9 : Int32) (H : Heap) (locs : List Loc) (ls : Array Slot), K26 x7 x8 x9 = some r → zS g xE 125 s H locs M → lv_has ls 11 [(0, .ref (g.2.2 43)), (1, .ref (g.2.2 o1)), (3, .int x3), (4, .int x4), (5, .int x5), (6, .int x6), (7, .int x7), (8, .int x8), (9, .int x9)] → W p l e (zrm 5 0 0) s m args below meth c H locs 0 0 Q (F0 m 26 ls [])) (H : Heap) (locs : List Loc) (ls : Array Slot) (h : b_X8_fewestHours_66 K26 o1 M x3 x4 x5 x6 x7 x9 = some r) (hZ : zS g xE 125 s H locs M) (hl : lv_has ls 11 [(0, .ref (g.2.2 43)), (1, .ref (g.2.2 o1)), (3, .int x3), (4, .int x4), (5, .int x5), (6, .int x6), (7, .int x7), (9, .int x9)]) : W p l e (zrm 5 0 0) s m args below meth c H locs 0 0 Q (F0 m 66 ls []) := by
  have hx := E.1.1
  have hb := E.1.2.1
  unfold b_X8_fewestHours_66 at h
  refine lv_aload_n hx hb dX8_fewestHours_66 rfl (lv_at hl 0 rfl) ?_
  refine lv_aload_n hx hb dX8_fewestHours_67 rfl (lv_at hl 1 rfl) ?_
  refine lv_iload hx hb dX8_fewestHours_68 (lv_at hl 5 rfl) ?_
  refine lv_iload hx hb dX8_fewestHours_70 (lv_at hl 7 rfl) ?_
  refine lv_iadd hx hb dX8_fewestHours_72 ?_
  refine lv_iload hx hb dX8_fewestHours_73 (lv_at hl 4 rfl) ?_
  obtain ⟨u_1, qu_1, h⟩ := zbn_some h
  refine zciR (zrunV E hZ (xb_X8 xs_43) ((xe_X8 xs_43) _) rfl rfl v_X8_openPlaces kw_1124 (c_X8_openPlaces l g M o1 ho1 (x6 + x9) x5 qu_1 _) rfl hl.1 rfl (Nat.le_of_ble_eq_true rfl) ⟨by decide, by decide⟩ ⟨by decide, by decide⟩ dX8_fewestHours_75) hZ (fun H locs hZ => ?_)
  refine lv_istore (lv' := [(8, .int u_1), (0, .ref (g.2.2 43)), (1, .ref (g.2.2 o1)), (3, .int x3), (4, .int x4), (5, .int x5), (6, .int x6), (7, .int x7), (9, .int x9)]) hx hb dX8_fewestHours_78 hl (by decide) rfl (fun ls hl => ?_)
  refine lv_iload hx hb dX8_fewestHours_80 (lv_at hl 7 rfl) ?_
  refine lv_iload hx hb dX8_fewestHours_82 (lv_at hl 0 rfl) ?_
  refine lv_iand hx hb dX8_fewestHours_84 ?_
  refine zni h (fun x7_2 ex7_2 h => ?_)
  refine lv_istore (lv' := [(7, .int x7_2), (8, .int u_1), (0, .ref (g.2.2 43)), (1, .ref (g.2.2 o1)), (3, .int x3), (4, .int x4), (5, .int x5), (6, .int x6), (9, .int x9)]) hx hb dX8_fewestHours_85 hl (by decide) rfl (fun ls hl => ?_)
  refine lv_iload hx hb dX8_fewestHours_87 (lv_at hl 0 rfl) ?_
  refine lv_iload_n hx hb dX8_fewestHours_89 rfl (lv_at hl 4 rfl) ?_
  obtain ⟨u_3, qu_3, h⟩ := zbn_some h
  refine zciR (zrunSN E hZ v_X10_has kw_1125 (c_X10_has l g M  x7_2 x3 qu_3 _) rfl hl.1 rfl (Nat.le_of_ble_eq_true rfl) ⟨by decide, by decide⟩ ⟨by decide, by decide⟩ dX8_fewestHours_90) hZ (fun H locs hZ => ?_)
  refine zif_eq (tgt := 99) h E dX8_fewestHours_93 (by decide) (fun c_5 h => ?_) (fun c_5 h => ?_)
  · obtain ⟨x9_4, ex9_4, h⟩ := znm_ex h
    refine lv_iinc (v := x9_4) (lv' := [(9, .int x9_4), (7, .int x7_2), (8, .int u_1), (0, .ref (g.2.2 43)), (1, .ref (g.2.2 o1)), (3, .int x3), (4, .int x4), (5, .int x5), (6, .int x6)]) hx hb dX8_fewestHours_99 hl (k := 8) rfl (by rw [ex9_4]; rfl) (by decide) rfl (fun ls hl => ?_)
    refine lv_goto (tgt := 26) hx hb dX8_fewestHours_102 (by decide) ?_
    exact hK26 x7_2 u_1 x9_4 H locs ls h hZ (lv_sub hl [3, 4, 5, 6, 7, 8, 1, 2, 0] rfl)
  · refine lv_iload hx hb dX8_fewestHours_96 (lv_at hl 8 rfl) ?_
    exact hret _ _ _ _ _ _ ⟨Option.some.inj h, hM⟩ rfl hZ dX8_fewestHours_98
def b_X8_fewestHours_36 (K26 : Int32 → Int32 → Int32 → Option (Int32)) (o1 : Nat) (M : zM) (x3 : Int32) (x4 : Int32) (x5 : Int32) (x6 : Int32) (x8 : Int32) (x9 : Int32) : Nat → Int32 → Int32 → Option (Int32)
  | 0, _, _ => none
  | n + 1, x7, x10 =>
    if x4 ≤ x10 then (b_X8_fewestHours_66 K26 o1 M x3 x4 x5 x6 x7 x9) else (znm (x7 ||| (((x7 <<< ((1 : Int32) &&& 31)) ||| (x7 >>> ((1 : Int32) &&& 31))) &&& x8)) (fun x7_6 => znm (x10 + 1) (fun x10_7 => b_X8_fewestHours_36 K26 o1 M x3 x4 x5 x6 x8 x9 n x7_6 x10_7)))
set_option maxRecDepth 100000 in
set_option maxHeartbeats 4000000 in
theorem lb_X8_fewestHours_36 (g : zG)  (o1 : Nat) (ho1 : xk o1 = 8) {r : Int32} {M0 : zM} (E : zX g p m c cX8_fewestHours 11 s args (zWs yX8_fewestHours cX8_fewestHours 11 (some .int)) RX8) (hret : zRi g xE 125 p l e (zrm 5 0 0) s m args below meth c 0 0 Q cX8_fewestHours .int (fun v M1 => v = r ∧ M1 = M0)) (M : zM) (x3 : Int32) (x4 : Int32) (x5 : Int32) (x6 : Int32) (x8 : Int32) (x9 : Int32) (hM : M = M0) (K26 : Int32 → Int32 → Int32 → Option (Int32)) (hK26 : ∀ (x7 : Int32) (x8 : Int32) (x9 : Int32) (H : Heap) (locs : List Loc) (ls : Array Slot), K26 x7 x8 x9 = some r → zS g xE 125 s H locs M → lv_has ls 11 [(0, .ref (g.2.2 43)), (1, .ref (g.2.2 o1)), (3, .int x3), (4, .int x4), (5, .int x5), (6, .int x6), (7, .int x7), (8, .int x8), (9, .int x9)] → W p l e (zrm 5 0 0) s m args below meth c H locs 0 0 Q (F0 m 26 ls [])) : ∀ (n : Nat) (x7 : Int32) (x10 : Int32) (H : Heap) (locs : List Loc) (ls : Array Slot), b_X8_fewestHours_36 K26 o1 M x3 x4 x5 x6 x8 x9 n x7 x10 = some r → zS g xE 125 s H locs M → lv_has ls 11 [(0, .ref (g.2.2 43)), (1, .ref (g.2.2 o1)), (3, .int x3), (4, .int x4), (5, .int x5), (6, .int x6), (7, .int x7), (8, .int x8), (9, .int x9), (10, .int x10)] → W p l e (zrm 5 0 0) s m args below meth c H locs 0 0 Q (F0 m 36 ls []) := by
  have hx := E.1.1
  have hb := E.1.2.1
  intro n
  induction n with
  | zero => intro x7 x10 H locs ls h hZ hl; cases h
  | succ n ih =>
    intro x7 x10 H locs ls h hZ hl
    rw [b_X8_fewestHours_36] at h
    refine lv_iload hx hb dX8_fewestHours_36 (lv_at hl 9 rfl) ?_
    refine lv_iload hx hb dX8_fewestHours_38 (lv_at hl 3 rfl) ?_
    refine zic_ge (tgt := 66) h E dX8_fewestHours_40 (by decide) (fun c_8 h => ?_) (fun c_8 h => ?_)
    · exact lb_X8_fewestHours_66 g o1 ho1 E hret M x3 x4 x5 x6 x7 x9 hM K26 hK26 H locs ls h hZ (lv_sub hl [0, 1, 2, 3, 4, 5, 6, 8] rfl)
    · refine lv_iload hx hb dX8_fewestHours_43 (lv_at hl 6 rfl) ?_
      refine lv_iload hx hb dX8_fewestHours_45 (lv_at hl 6 rfl) ?_
      refine lv_iconst (v := 1) hx hb dX8_fewestHours_47 (by decide) ?_
      refine lv_ishl hx hb dX8_fewestHours_48 ?_
      refine lv_iload hx hb dX8_fewestHours_49 (lv_at hl 6 rfl) ?_
      refine lv_iconst (v := 1) hx hb dX8_fewestHours_51 (by decide) ?_
      refine lv_ishr hx hb dX8_fewestHours_52 ?_
      refine lv_ior hx hb dX8_fewestHours_53 ?_
      refine lv_iload hx hb dX8_fewestHours_54 (lv_at hl 7 rfl) ?_
      refine lv_iand hx hb dX8_fewestHours_56 ?_
      refine lv_ior hx hb dX8_fewestHours_57 ?_
      refine zni h (fun x7_6 ex7_6 h => ?_)
      refine lv_istore (lv' := [(7, .int x7_6), (0, .ref (g.2.2 43)), (1, .ref (g.2.2 o1)), (3, .int x3), (4, .int x4), (5, .int x5), (6, .int x6), (8, .int x8), (9, .int x9), (10, .int x10)]) hx hb dX8_fewestHours_58 hl (by decide) rfl (fun ls hl => ?_)
      obtain ⟨x10_7, ex10_7, h⟩ := znm_ex h
      refine lv_iinc (v := x10_7) (lv' := [(10, .int x10_7), (7, .int x7_6), (0, .ref (g.2.2 43)), (1, .ref (g.2.2 o1)), (3, .int x3), (4, .int x4), (5, .int x5), (6, .int x6), (8, .int x8), (9, .int x9)]) hx hb dX8_fewestHours_60 hl (k := 9) rfl (by rw [ex10_7]; rfl) (by decide) rfl (fun ls hl => ?_)
      refine lv_goto (tgt := 36) hx hb dX8_fewestHours_63 (by decide) ?_
      exact ih x7_6 x10_7 H locs ls h hZ (lv_sub hl [2, 3, 4, 5, 6, 7, 1, 8, 9, 0] rfl)
def b_X8_fewestHours_26  (o1 : Nat) (M : zM) (x3 : Int32) (x4 : Int32) (x5 : Int32) (x6 : Int32) : Nat → Int32 → Int32 → Int32 → Option (Int32)
  | 0, _, _, _ => none
  | n + 1, x7, x8, x9 =>
    if 60 < x9 then (some ((-1))) else (b_X8_fewestHours_36 (fun x7 x8 x9 => b_X8_fewestHours_26  o1 M x3 x4 x5 x6 n x7 x8 x9) o1 M x3 x4 x5 x6 x8 x9 6000 x7 0)
set_option maxRecDepth 100000 in
set_option maxHeartbeats 4000000 in
theorem lb_X8_fewestHours_26 (g : zG)  (o1 : Nat) (ho1 : xk o1 = 8) {r : Int32} {M0 : zM} (E : zX g p m c cX8_fewestHours 11 s args (zWs yX8_fewestHours cX8_fewestHours 11 (some .int)) RX8) (hret : zRi g xE 125 p l e (zrm 5 0 0) s m args below meth c 0 0 Q cX8_fewestHours .int (fun v M1 => v = r ∧ M1 = M0)) (M : zM) (x3 : Int32) (x4 : Int32) (x5 : Int32) (x6 : Int32) (hM : M = M0)  : ∀ (n : Nat) (x7 : Int32) (x8 : Int32) (x9 : Int32) (H : Heap) (locs : List Loc) (ls : Array Slot), b_X8_fewestHours_26  o1 M x3 x4 x5 x6 n x7 x8 x9 = some r → zS g xE 125 s H locs M → lv_has ls 11 [(0, .ref (g.2.2 43)), (1, .ref (g.2.2 o1)), (3, .int x3), (4, .int x4), (5, .int x5), (6, .int x6), (7, .int x7), (8, .int x8), (9, .int x9)] → W p l e (zrm 5 0 0) s m args below meth c H locs 0 0 Q (F0 m 26 ls []) := by
  have hx := E.1.1
  have hb := E.1.2.1
  intro n
  induction n with
  | zero => intro x7 x8 x9 H locs ls h hZ hl; cases h
  | succ n ih =>
    intro x7 x8 x9 H locs ls h hZ hl
    rw [b_X8_fewestHours_26] at h
    refine lv_iload hx hb dX8_fewestHours_26 (lv_at hl 8 rfl) ?_
    refine lv_bipush (v := 60) hx hb dX8_fewestHours_28 (by decide) ?_
    refine zic_gt (tgt := 105) h E dX8_fewestHours_30 (by decide) (fun c_9 h => ?_) (fun c_9 h => ?_)
    · refine lv_iconst (v := (-1)) hx hb dX8_fewestHours_105 (by decide) ?_
      exact hret _ _ _ _ _ _ ⟨Option.some.inj h, hM⟩ rfl hZ dX8_fewestHours_106
    · refine lv_iconst (v := 0) hx hb dX8_fewestHours_33 (by decide) ?_
      refine lv_istore (lv' := [(10, .int 0), (0, .ref (g.2.2 43)), (1, .ref (g.2.2 o1)), (3, .int x3), (4, .int x4), (5, .int x5), (6, .int x6), (7, .int x7), (8, .int x8), (9, .int x9)]) hx hb dX8_fewestHours_34 hl (by decide) rfl (fun ls hl => ?_)
      exact lb_X8_fewestHours_36 g o1 ho1 E hret M x3 x4 x5 x6 x8 x9 hM (fun x7 x8 x9 => b_X8_fewestHours_26  o1 M x3 x4 x5 x6 n x7 x8 x9) ih 6000 x7 0 H locs ls h hZ (lv_sub hl [1, 2, 3, 4, 5, 6, 7, 8, 9, 0] rfl)
def f_X8_fewestHours (M : zM) (o1 : Nat) (x2 : Int32) (x3 : Int32) (x4 : Int32) (x5 : Int32) (x6 : Int32) : Option (Int32) :=
  if x2 = x3 then (some 0) else (znm ((1 : Int32) <<< (x2 &&& 31)) (fun x7_10 => zbn (f_X8_openPlaces M o1 x6 x5) (fun u_11 => b_X8_fewestHours_26  o1 M x3 x4 x5 x6 6000 x7_10 u_11 1)))
set_option maxRecDepth 100000 in
set_option maxHeartbeats 4000000 in
theorem w_X8_fewestHours (g : zG)  (o1 : Nat) (ho1 : xk o1 = 8) {r : Int32} {M0 : zM} (E : zX g p m c cX8_fewestHours 11 s args (zWs yX8_fewestHours cX8_fewestHours 11 (some .int)) RX8) (hret : zRi g xE 125 p l e (zrm 5 0 0) s m args below meth c 0 0 Q cX8_fewestHours .int (fun v M1 => v = r ∧ M1 = M0)) (M : zM) (hM : M = M0) (x2 : Int32) (x3 : Int32) (x4 : Int32) (x5 : Int32) (x6 : Int32) (H : Heap) (locs : List Loc) (ls : Array Slot) (h : f_X8_fewestHours M o1 x2 x3 x4 x5 x6 = some r) (hZ : zS g xE 125 s H locs M) (hl : lv_has ls 11 [(0, .ref (g.2.2 43)), (1, .ref (g.2.2 o1)), (2, .int x2), (3, .int x3), (4, .int x4), (5, .int x5), (6, .int x6)]) : W p l e (zrm 5 0 0) s m args below meth c H locs 0 0 Q (F0 m 0 ls []) := by
  have hx := E.1.1
  have hb := E.1.2.1
  unfold f_X8_fewestHours at h
  refine lv_iload_n hx hb dX8_fewestHours_0 rfl (lv_at hl 2 rfl) ?_
  refine lv_iload_n hx hb dX8_fewestHours_1 rfl (lv_at hl 3 rfl) ?_
  refine zic_ne (tgt := 7) h E dX8_fewestHours_2 (by decide) (fun c_12 h => ?_) (fun c_12 h => ?_)
  · refine lv_iconst (v := 1) hx hb dX8_fewestHours_7 (by decide) ?_
    refine lv_iload_n hx hb dX8_fewestHours_8 rfl (lv_at hl 2 rfl) ?_
    refine lv_ishl hx hb dX8_fewestHours_9 ?_
    refine zni h (fun x7_10 ex7_10 h => ?_)
    refine lv_istore (lv' := [(7, .int x7_10), (0, .ref (g.2.2 43)), (1, .ref (g.2.2 o1)), (2, .int x2), (3, .int x3), (4, .int x4), (5, .int x5), (6, .int x6)]) hx hb dX8_fewestHours_10 hl (by decide) rfl (fun ls hl => ?_)
    refine lv_aload_n hx hb dX8_fewestHours_12 rfl (lv_at hl 1 rfl) ?_
    refine lv_aload_n hx hb dX8_fewestHours_13 rfl (lv_at hl 2 rfl) ?_
    refine lv_iload hx hb dX8_fewestHours_14 (lv_at hl 7 rfl) ?_
    refine lv_iload hx hb dX8_fewestHours_16 (lv_at hl 6 rfl) ?_
    obtain ⟨u_11, qu_11, h⟩ := zbn_some h
    refine zciR (zrunV E hZ (xb_X8 xs_43) ((xe_X8 xs_43) _) rfl rfl v_X8_openPlaces kw_1124 (c_X8_openPlaces l g M o1 ho1 x6 x5 qu_11 _) rfl hl.1 rfl (Nat.le_of_ble_eq_true rfl) ⟨by decide, by decide⟩ ⟨by decide, by decide⟩ dX8_fewestHours_18) hZ (fun H locs hZ => ?_)
    refine lv_istore (lv' := [(8, .int u_11), (7, .int x7_10), (0, .ref (g.2.2 43)), (1, .ref (g.2.2 o1)), (2, .int x2), (3, .int x3), (4, .int x4), (5, .int x5), (6, .int x6)]) hx hb dX8_fewestHours_21 hl (by decide) rfl (fun ls hl => ?_)
    refine lv_iconst (v := 1) hx hb dX8_fewestHours_23 (by decide) ?_
    refine lv_istore (lv' := [(9, .int 1), (8, .int u_11), (7, .int x7_10), (0, .ref (g.2.2 43)), (1, .ref (g.2.2 o1)), (2, .int x2), (3, .int x3), (4, .int x4), (5, .int x5), (6, .int x6)]) hx hb dX8_fewestHours_24 hl (by decide) rfl (fun ls hl => ?_)
    exact lb_X8_fewestHours_26 g o1 ho1 E hret M x3 x4 x5 x6 hM  6000 x7_10 u_11 1 H locs ls h hZ (lv_sub hl [3, 4, 6, 7, 8, 9, 2, 1, 0] rfl)
  · refine lv_iconst (v := 0) hx hb dX8_fewestHours_5 (by decide) ?_
    exact hret _ _ _ _ _ _ ⟨Option.some.inj h, hM⟩ rfl hZ dX8_fewestHours_6
theorem c_X8_fewestHours (l : Launch) (g : zG) (M : zM) (o1 : Nat) (ho1 : xk o1 = 8) (x2 : Int32) (x3 : Int32) (x4 : Int32) (x5 : Int32) (x6 : Int32) {r : Int32} (h : f_X8_fewestHours M o1 x2 x3 x4 x5 x6 = some r) : zMi l g xE 125 yX8_fewestHours (zWs yX8_fewestHours cX8_fewestHours 11 (some .int)) 5 [.ref (g.2.2 43), .ref (g.2.2 o1), .int x2, .int x3, .int x4, .int x5, .int x6] M (fun v M1 => v = r ∧ M1 = M) :=
  zMi_of (by decide +kernel) (Nat.le_of_ble_eq_true rfl) (fun p e s m args below meth c Q ls E hret hZ hl => w_X8_fewestHours g o1 ho1 E hret M rfl x2 x3 x4 x5 x6 _ _ ls h hZ hl)
theorem v_X8_fewestHours : zYV yX8_fewestHours cX8_fewestHours 11 (some .int) 6 := ⟨kw_1123, kw_12, kw_1121, kw_1122, by decide +kernel⟩

def f_X8_hoursOfMonk (M : zM) (o1 : Nat) (x2 : Int32) (x3 : Int32) : Option (Int32) :=
  zbn (f_X9_monkCell M o1 x2 0) (fun u_1 => zbn (f_X9_monkCell M o1 x2 2) (fun u_2 => zbn (f_X8_fewestHours M o1 u_1 x3 u_2 1 (M o1 0)) (fun u_3 => some u_3)))
set_option maxRecDepth 100000 in
set_option maxHeartbeats 4000000 in
theorem w_X8_hoursOfMonk (g : zG)  (o1 : Nat) (ho1 : xk o1 = 8) {r : Int32} {M0 : zM} (E : zX g p m c cX8_hoursOfMonk 5 s args (zWs yX8_hoursOfMonk cX8_hoursOfMonk 5 (some .int)) RX8) (hret : zRi g xE 125 p l e (zrm 6 0 0) s m args below meth c 0 0 Q cX8_hoursOfMonk .int (fun v M1 => v = r ∧ M1 = M0)) (M : zM) (hM : M = M0) (x2 : Int32) (x3 : Int32) (H : Heap) (locs : List Loc) (ls : Array Slot) (h : f_X8_hoursOfMonk M o1 x2 x3 = some r) (hZ : zS g xE 125 s H locs M) (hl : lv_has ls 5 [(0, .ref (g.2.2 43)), (1, .ref (g.2.2 o1)), (2, .int x2), (3, .int x3)]) : W p l e (zrm 6 0 0) s m args below meth c H locs 0 0 Q (F0 m 0 ls []) := by
  have hx := E.1.1
  have hb := E.1.2.1
  unfold f_X8_hoursOfMonk at h
  refine lv_aload_n hx hb dX8_hoursOfMonk_0 rfl (lv_at hl 1 rfl) ?_
  refine lv_iload_n hx hb dX8_hoursOfMonk_1 rfl (lv_at hl 2 rfl) ?_
  refine lv_iconst (v := 0) hx hb dX8_hoursOfMonk_2 (by decide) ?_
  obtain ⟨u_1, qu_1, h⟩ := zbn_some h
  refine zciR (zrunV E hZ (xb_X9 ho1) ((xe_X9 ho1) _) rfl rfl v_X9_monkCell kw_1151 (c_X9_monkCell l g M o1 ho1 x2 0 qu_1 _) rfl hl.1 rfl (Nat.le_of_ble_eq_true rfl) ⟨by decide, by decide⟩ ⟨by decide, by decide⟩ dX8_hoursOfMonk_3) hZ (fun H locs hZ => ?_)
  refine lv_istore (lv' := [(4, .int u_1), (0, .ref (g.2.2 43)), (1, .ref (g.2.2 o1)), (2, .int x2), (3, .int x3)]) hx hb dX8_hoursOfMonk_6 hl (by decide) rfl (fun ls hl => ?_)
  refine lv_aload_n hx hb dX8_hoursOfMonk_8 rfl (lv_at hl 1 rfl) ?_
  refine lv_aload_n hx hb dX8_hoursOfMonk_9 rfl (lv_at hl 2 rfl) ?_
  refine lv_iload hx hb dX8_hoursOfMonk_10 (lv_at hl 0 rfl) ?_
  refine lv_iload_n hx hb dX8_hoursOfMonk_12 rfl (lv_at hl 4 rfl) ?_
  refine lv_aload_n hx hb dX8_hoursOfMonk_13 rfl (lv_at hl 2 rfl) ?_
  refine lv_iload_n hx hb dX8_hoursOfMonk_14 rfl (lv_at hl 3 rfl) ?_
  refine lv_iconst (v := 2) hx hb dX8_hoursOfMonk_15 (by decide) ?_
  obtain ⟨u_2, qu_2, h⟩ := zbn_some h
  refine zciR (zrunV E hZ (xb_X9 ho1) ((xe_X9 ho1) _) rfl rfl v_X9_monkCell kw_1151 (c_X9_monkCell l g M o1 ho1 x2 2 qu_2 _) rfl hl.1 rfl (Nat.le_of_ble_eq_true rfl) ⟨by decide, by decide⟩ ⟨by decide, by decide⟩ dX8_hoursOfMonk_16) hZ (fun H locs hZ => ?_)
  refine lv_iconst (v := 1) hx hb dX8_hoursOfMonk_19 (by decide) ?_
  refine lv_aload_n hx hb dX8_hoursOfMonk_20 rfl (lv_at hl 2 rfl) ?_
  refine zg (v := .int (M o1 0)) E hZ (xb_X9 ho1) ((xe_X9 ho1) _) kc_X9 0 (by decide) kw_62 rfl rfl dX8_hoursOfMonk_21 ?_
  obtain ⟨u_3, qu_3, h⟩ := zbn_some h
  refine zciR (zrunV E hZ (xb_X8 xs_43) ((xe_X8 xs_43) _) rfl rfl v_X8_fewestHours kw_1152 (c_X8_fewestHours l g M o1 ho1 u_1 x3 u_2 1 (M o1 0) qu_3 _) rfl hl.1 rfl (Nat.le_of_ble_eq_true rfl) ⟨by decide, by decide⟩ ⟨by decide, by decide⟩ dX8_hoursOfMonk_24) hZ (fun H locs hZ => ?_)
  exact hret _ _ _ _ _ _ ⟨Option.some.inj h, hM⟩ rfl hZ dX8_hoursOfMonk_27
theorem c_X8_hoursOfMonk (l : Launch) (g : zG) (M : zM) (o1 : Nat) (ho1 : xk o1 = 8) (x2 : Int32) (x3 : Int32) {r : Int32} (h : f_X8_hoursOfMonk M o1 x2 x3 = some r) : zMi l g xE 125 yX8_hoursOfMonk (zWs yX8_hoursOfMonk cX8_hoursOfMonk 5 (some .int)) 6 [.ref (g.2.2 43), .ref (g.2.2 o1), .int x2, .int x3] M (fun v M1 => v = r ∧ M1 = M) :=
  zMi_of (by decide +kernel) (Nat.le_of_ble_eq_true rfl) (fun p e s m args below meth c Q ls E hret hZ hl => w_X8_hoursOfMonk g o1 ho1 E hret M rfl x2 x3 _ _ ls h hZ hl)
theorem v_X8_hoursOfMonk : zYV yX8_hoursOfMonk cX8_hoursOfMonk 5 (some .int) 3 := ⟨kw_1150, kw_12, kw_1148, kw_1149, by decide +kernel⟩

def f_X10_copyRow (M : zM) (o0 : Nat) (o1 : Nat) : Option (zM) :=
  znm (if (Int32.ofNat (xl o1)) < (Int32.ofNat (xl o0)) then (Int32.ofNat (xl o1)) else (Int32.ofNat (xl o0))) (fun v_1 => zck (zcp 0 0 v_1 (xl o0) (xl o1)) (znm (va_up M o1 (va_cpy (M o0) (M o1) (0 : Int32).toNatClampNeg (0 : Int32).toNatClampNeg (v_1 : Int32).toNatClampNeg)) (fun M_2 => some M_2)))
set_option maxRecDepth 100000 in
set_option maxHeartbeats 4000000 in
theorem w_X10_copyRow (g : zG)  (o0 : Nat) (ho0 : xk o0 = 20) (o1 : Nat) (ho1 : xk o1 = 20) {r : zM} (E : zX g p m c cX10_copyRow 2 s args (zWs yX10_copyRow cX10_copyRow 2 none) RX10) (hret : zRv g xE 125 p l e (zrm 3 0 0) s m args below meth c 0 0 Q cX10_copyRow (fun M1 => M1 = r)) (M : zM)  (H : Heap) (locs : List Loc) (ls : Array Slot) (h : f_X10_copyRow M o0 o1 = some r) (hZ : zS g xE 125 s H locs M) (hl : lv_has ls 2 [(0, .ref (g.2.2 o0)), (1, .ref (g.2.2 o1))]) : W p l e (zrm 3 0 0) s m args below meth c H locs 0 0 Q (F0 m 0 ls []) := by
  have hx := E.1.1
  have hb := E.1.2.1
  unfold f_X10_copyRow at h
  refine lv_aload_n hx hb dX10_copyRow_0 rfl (lv_at hl 0 rfl) ?_
  refine lv_iconst (v := 0) hx hb dX10_copyRow_1 (by decide) ?_
  refine lv_aload_n hx hb dX10_copyRow_2 rfl (lv_at hl 1 rfl) ?_
  refine lv_iconst (v := 0) hx hb dX10_copyRow_3 (by decide) ?_
  refine lv_aload_n hx hb dX10_copyRow_4 rfl (lv_at hl 0 rfl) ?_
  refine zal E hZ 0 rfl (xb_I ho0) (xe_I ho0) rfl dX10_copyRow_5 ?_
  refine lv_aload_n hx hb dX10_copyRow_6 rfl (lv_at hl 1 rfl) ?_
  refine zal E hZ 0 rfl (xb_I ho1) (xe_I ho1) rfl dX10_copyRow_7 ?_
  refine va_mmin hx hb (E.1.2.2.1.trans hl.1.symm) E.1.2.2.2.1 (E.w kw_539) (E.w kw_540) (E.w kw_16) (E.w kw_541) (Nat.le_of_ble_eq_true rfl) (Nat.le_of_ble_eq_true rfl) (Nat.le_of_ble_eq_true rfl) (Nat.le_of_ble_eq_true rfl) dX10_copyRow_8 ?_
  refine zni h (fun v_1 ev_1 h => ?_)
  refine zcopy h E hZ (xb_I ho0) (xe_I ho0) (xb_I ho1) (xe_I ho1) (E.w kw_542) (E.w kw_544) (E.w kw_543) (E.w kw_17) hl.1 (Nat.le_of_ble_eq_true rfl) (Nat.le_of_ble_eq_true rfl) dX10_copyRow_11 (fun M_2 H locs eM_2 h hZ => ?_)
  exact hret _ _ _ _ _ (Option.some.inj h) hZ dX10_copyRow_14
theorem c_X10_copyRow (l : Launch) (g : zG) (M : zM) (o0 : Nat) (ho0 : xk o0 = 20) (o1 : Nat) (ho1 : xk o1 = 20)  {r : zM} (h : f_X10_copyRow M o0 o1 = some r) : zMv l g xE 125 yX10_copyRow (zWs yX10_copyRow cX10_copyRow 2 none) 3 [.ref (g.2.2 o0), .ref (g.2.2 o1)] M (fun M1 => M1 = r) :=
  zMv_of (by decide +kernel) (Nat.le_of_ble_eq_true rfl) (fun p e s m args below meth c Q ls E hret hZ hl => w_X10_copyRow g o0 ho0 o1 ho1 E hret M  _ _ ls h hZ hl)
theorem v_X10_copyRow : zYS yX10_copyRow cX10_copyRow 2 none 2 := ⟨kw_538, kw_1, kw_537, by decide +kernel⟩

def f_X3_copyFrom (M : zM) (k : Nat) (o1 : Nat) : Option (zM) :=
  znm (zu M k 0 (M o1 0)) (fun M_1 => znm (zu M_1 k 5 (M_1 o1 5)) (fun M_2 => zbn (f_X10_copyRow M_2 (o1 + 1) (k + 1)) (fun u_3 => zbn (f_X10_copyRow u_3 (o1 + 2) (k + 2)) (fun u_4 => zbn (f_X10_copyRow u_4 (o1 + 3) (k + 3)) (fun u_5 => zbn (f_X10_copyRow u_5 (o1 + 4) (k + 4)) (fun u_6 => some u_6))))))
set_option maxRecDepth 100000 in
set_option maxHeartbeats 4000000 in
theorem w_X3_copyFrom (g : zG)  (k : Nat) (hk : xk k = 2) (o1 : Nat) (ho1 : xk o1 = 2) {r : zM} (E : zX g p m c cX3_copyFrom 2 s args (zWs yX3_copyFrom cX3_copyFrom 2 none) RX3) (hret : zRv g xE 125 p l e (zrm 4 0 0) s m args below meth c 0 0 Q cX3_copyFrom (fun M1 => M1 = r)) (M : zM)  (H : Heap) (locs : List Loc) (ls : Array Slot) (h : f_X3_copyFrom M k o1 = some r) (hZ : zS g xE 125 s H locs M) (hl : lv_has ls 2 [(0, .ref (g.2.2 k)), (1, .ref (g.2.2 o1))]) : W p l e (zrm 4 0 0) s m args below meth c H locs 0 0 Q (F0 m 0 ls []) := by
  have hx := E.1.1
  have hb := E.1.2.1
  unfold f_X3_copyFrom at h
  refine lv_aload_n hx hb dX3_copyFrom_0 rfl (lv_at hl 0 rfl) ?_
  refine lv_aload_n hx hb dX3_copyFrom_1 rfl (lv_at hl 1 rfl) ?_
  refine zg (v := .int (M o1 0)) E hZ (xb_X3 ho1) ((xe_X3 ho1) _) kc_X3 0 (by decide) kw_167 rfl rfl dX3_copyFrom_2 ?_
  refine zp h E hZ (xb_X3 hk) ((xe_X3 hk) _) (((xe_X3 hk) _).trans (congrArg (fun z => Sum.inr (2, z)) (fs_X3_0 g _ _ _))) kc_X3 (by decide) kw_167 rfl rfl rfl (Nat.le_of_ble_eq_true rfl) dX3_copyFrom_5 (fun M_1 H locs eM_1 h hZ => ?_)
  refine lv_aload_n hx hb dX3_copyFrom_8 rfl (lv_at hl 0 rfl) ?_
  refine lv_aload_n hx hb dX3_copyFrom_9 rfl (lv_at hl 1 rfl) ?_
  refine zg (v := .int (M_1 o1 5)) E hZ (xb_X3 ho1) ((xe_X3 ho1) _) kc_X3 5 (by decide) kw_173 rfl rfl dX3_copyFrom_10 ?_
  refine zp h E hZ (xb_X3 hk) ((xe_X3 hk) _) (((xe_X3 hk) _).trans (congrArg (fun z => Sum.inr (2, z)) (fs_X3_5 g _ _ _))) kc_X3 (by decide) kw_173 rfl rfl rfl (Nat.le_of_ble_eq_true rfl) dX3_copyFrom_13 (fun M_2 H locs eM_2 h hZ => ?_)
  refine lv_aload_n hx hb dX3_copyFrom_16 rfl (lv_at hl 1 rfl) ?_
  refine zg (v := .ref (g.2.2 (o1 + 1))) E hZ (xb_X3 ho1) ((xe_X3 ho1) _) kc_X3 1 (by decide) kw_169 rfl rfl dX3_copyFrom_17 ?_
  refine lv_aload_n hx hb dX3_copyFrom_20 rfl (lv_at hl 0 rfl) ?_
  refine zg (v := .ref (g.2.2 (k + 1))) E hZ (xb_X3 hk) ((xe_X3 hk) _) kc_X3 1 (by decide) kw_169 rfl rfl dX3_copyFrom_21 ?_
  obtain ⟨u_3, qu_3, h⟩ := zbn_some h
  refine zcvS (zrunSN E hZ v_X10_copyRow kw_554 (c_X10_copyRow l g M_2 (o1 + 1) (xc_X3_kinds ho1).1 (k + 1) (xc_X3_kinds hk).1  qu_3 _) rfl hl.1 rfl (Nat.le_of_ble_eq_true rfl) ⟨by decide, by decide⟩ ⟨by decide, by decide⟩ dX3_copyFrom_24) hZ (fun H locs hZ => ?_)
  refine lv_aload_n hx hb dX3_copyFrom_27 rfl (lv_at hl 1 rfl) ?_
  refine zg (v := .ref (g.2.2 (o1 + 2))) E hZ (xb_X3 ho1) ((xe_X3 ho1) _) kc_X3 2 (by decide) kw_170 rfl rfl dX3_copyFrom_28 ?_
  refine lv_aload_n hx hb dX3_copyFrom_31 rfl (lv_at hl 0 rfl) ?_
  refine zg (v := .ref (g.2.2 (k + 2))) E hZ (xb_X3 hk) ((xe_X3 hk) _) kc_X3 2 (by decide) kw_170 rfl rfl dX3_copyFrom_32 ?_
  obtain ⟨u_4, qu_4, h⟩ := zbn_some h
  refine zcvS (zrunSN E hZ v_X10_copyRow kw_554 (c_X10_copyRow l g u_3 (o1 + 2) (xc_X3_amounts ho1).1 (k + 2) (xc_X3_amounts hk).1  qu_4 _) rfl hl.1 rfl (Nat.le_of_ble_eq_true rfl) ⟨by decide, by decide⟩ ⟨by decide, by decide⟩ dX3_copyFrom_35) hZ (fun H locs hZ => ?_)
  refine lv_aload_n hx hb dX3_copyFrom_38 rfl (lv_at hl 1 rfl) ?_
  refine zg (v := .ref (g.2.2 (o1 + 3))) E hZ (xb_X3 ho1) ((xe_X3 ho1) _) kc_X3 3 (by decide) kw_171 rfl rfl dX3_copyFrom_39 ?_
  refine lv_aload_n hx hb dX3_copyFrom_42 rfl (lv_at hl 0 rfl) ?_
  refine zg (v := .ref (g.2.2 (k + 3))) E hZ (xb_X3 hk) ((xe_X3 hk) _) kc_X3 3 (by decide) kw_171 rfl rfl dX3_copyFrom_43 ?_
  obtain ⟨u_5, qu_5, h⟩ := zbn_some h
  refine zcvS (zrunSN E hZ v_X10_copyRow kw_554 (c_X10_copyRow l g u_4 (o1 + 3) (xc_X3_ends ho1).1 (k + 3) (xc_X3_ends hk).1  qu_5 _) rfl hl.1 rfl (Nat.le_of_ble_eq_true rfl) ⟨by decide, by decide⟩ ⟨by decide, by decide⟩ dX3_copyFrom_46) hZ (fun H locs hZ => ?_)
  refine lv_aload_n hx hb dX3_copyFrom_49 rfl (lv_at hl 1 rfl) ?_
  refine zg (v := .ref (g.2.2 (o1 + 4))) E hZ (xb_X3 ho1) ((xe_X3 ho1) _) kc_X3 4 (by decide) kw_172 rfl rfl dX3_copyFrom_50 ?_
  refine lv_aload_n hx hb dX3_copyFrom_53 rfl (lv_at hl 0 rfl) ?_
  refine zg (v := .ref (g.2.2 (k + 4))) E hZ (xb_X3 hk) ((xe_X3 hk) _) kc_X3 4 (by decide) kw_172 rfl rfl dX3_copyFrom_54 ?_
  obtain ⟨u_6, qu_6, h⟩ := zbn_some h
  refine zcvS (zrunSN E hZ v_X10_copyRow kw_554 (c_X10_copyRow l g u_5 (o1 + 4) (xc_X3_steps ho1).1 (k + 4) (xc_X3_steps hk).1  qu_6 _) rfl hl.1 rfl (Nat.le_of_ble_eq_true rfl) ⟨by decide, by decide⟩ ⟨by decide, by decide⟩ dX3_copyFrom_57) hZ (fun H locs hZ => ?_)
  exact hret _ _ _ _ _ (Option.some.inj h) hZ dX3_copyFrom_60
theorem c_X3_copyFrom (l : Launch) (g : zG) (M : zM) (k : Nat) (hk : xk k = 2) (o1 : Nat) (ho1 : xk o1 = 2)  {r : zM} (h : f_X3_copyFrom M k o1 = some r) : zMv l g xE 125 yX3_copyFrom (zWs yX3_copyFrom cX3_copyFrom 2 none) 4 [.ref (g.2.2 k), .ref (g.2.2 o1)] M (fun M1 => M1 = r) :=
  zMv_of (by decide +kernel) (Nat.le_of_ble_eq_true rfl) (fun p e s m args below meth c Q ls E hret hZ hl => w_X3_copyFrom g k hk o1 ho1 E hret M  _ _ ls h hZ hl)
theorem v_X3_copyFrom : zYV yX3_copyFrom cX3_copyFrom 2 none 1 := ⟨kw_553, kw_4, kw_551, kw_552, by decide +kernel⟩

def f_X3_clear (M : zM) (k : Nat) : Option (zM) :=
  znm (zu M k 0 0) (fun M_1 => znm (zu M_1 k 5 0) (fun M_2 => some M_2))
set_option maxRecDepth 100000 in
set_option maxHeartbeats 4000000 in
theorem w_X3_clear (g : zG)  (k : Nat) (hk : xk k = 2) {r : zM} (E : zX g p m c cX3_clear 1 s args (zWs yX3_clear cX3_clear 1 none) RX3) (hret : zRv g xE 125 p l e (zrm 2 0 0) s m args below meth c 0 0 Q cX3_clear (fun M1 => M1 = r)) (M : zM)  (H : Heap) (locs : List Loc) (ls : Array Slot) (h : f_X3_clear M k = some r) (hZ : zS g xE 125 s H locs M) (hl : lv_has ls 1 [(0, .ref (g.2.2 k))]) : W p l e (zrm 2 0 0) s m args below meth c H locs 0 0 Q (F0 m 0 ls []) := by
  have hx := E.1.1
  have hb := E.1.2.1
  unfold f_X3_clear at h
  refine lv_aload_n hx hb dX3_clear_0 rfl (lv_at hl 0 rfl) ?_
  refine lv_iconst (v := 0) hx hb dX3_clear_1 (by decide) ?_
  refine zp h E hZ (xb_X3 hk) ((xe_X3 hk) _) (((xe_X3 hk) _).trans (congrArg (fun z => Sum.inr (2, z)) (fs_X3_0 g _ _ _))) kc_X3 (by decide) kw_167 rfl rfl rfl (Nat.le_of_ble_eq_true rfl) dX3_clear_2 (fun M_1 H locs eM_1 h hZ => ?_)
  refine lv_aload_n hx hb dX3_clear_5 rfl (lv_at hl 0 rfl) ?_
  refine lv_iconst (v := 0) hx hb dX3_clear_6 (by decide) ?_
  refine zp h E hZ (xb_X3 hk) ((xe_X3 hk) _) (((xe_X3 hk) _).trans (congrArg (fun z => Sum.inr (2, z)) (fs_X3_5 g _ _ _))) kc_X3 (by decide) kw_173 rfl rfl rfl (Nat.le_of_ble_eq_true rfl) dX3_clear_7 (fun M_2 H locs eM_2 h hZ => ?_)
  exact hret _ _ _ _ _ (Option.some.inj h) hZ dX3_clear_10
theorem c_X3_clear (l : Launch) (g : zG) (M : zM) (k : Nat) (hk : xk k = 2)  {r : zM} (h : f_X3_clear M k = some r) : zMv l g xE 125 yX3_clear (zWs yX3_clear cX3_clear 1 none) 2 [.ref (g.2.2 k)] M (fun M1 => M1 = r) :=
  zMv_of (by decide +kernel) (Nat.le_of_ble_eq_true rfl) (fun p e s m args below meth c Q ls E hret hZ hl => w_X3_clear g k hk E hret M  _ _ ls h hZ hl)
theorem v_X3_clear : zYV yX3_clear cX3_clear 1 none 0 := ⟨kw_800, kw_4, kw_798, kw_799, by decide +kernel⟩

def f_X3_addStep (M : zM) (k : Nat) (x1 : Int32) : Option (zM) :=
  zbn (f_X10_put M (k + 4) (M k 5) x1) (fun u_1 => znm (zu u_1 k 5 ((u_1 k 5) + 1)) (fun M_2 => some M_2))
set_option maxRecDepth 100000 in
set_option maxHeartbeats 4000000 in
theorem w_X3_addStep (g : zG)  (k : Nat) (hk : xk k = 2) {r : zM} (E : zX g p m c cX3_addStep 2 s args (zWs yX3_addStep cX3_addStep 2 none) RX3) (hret : zRv g xE 125 p l e (zrm 3 0 0) s m args below meth c 0 0 Q cX3_addStep (fun M1 => M1 = r)) (M : zM) (x1 : Int32) (H : Heap) (locs : List Loc) (ls : Array Slot) (h : f_X3_addStep M k x1 = some r) (hZ : zS g xE 125 s H locs M) (hl : lv_has ls 2 [(0, .ref (g.2.2 k)), (1, .int x1)]) : W p l e (zrm 3 0 0) s m args below meth c H locs 0 0 Q (F0 m 0 ls []) := by
  have hx := E.1.1
  have hb := E.1.2.1
  unfold f_X3_addStep at h
  refine lv_aload_n hx hb dX3_addStep_0 rfl (lv_at hl 0 rfl) ?_
  refine zg (v := .ref (g.2.2 (k + 4))) E hZ (xb_X3 hk) ((xe_X3 hk) _) kc_X3 4 (by decide) kw_172 rfl rfl dX3_addStep_1 ?_
  refine lv_aload_n hx hb dX3_addStep_4 rfl (lv_at hl 0 rfl) ?_
  refine zg (v := .int (M k 5)) E hZ (xb_X3 hk) ((xe_X3 hk) _) kc_X3 5 (by decide) kw_173 rfl rfl dX3_addStep_5 ?_
  refine lv_iload_n hx hb dX3_addStep_8 rfl (lv_at hl 1 rfl) ?_
  obtain ⟨u_1, qu_1, h⟩ := zbn_some h
  refine zcvS (zrunSN E hZ v_X10_put kw_826 (c_X10_put l g M (k + 4) (xc_X3_steps hk).1 (M k 5) x1 qu_1 _) rfl hl.1 rfl (Nat.le_of_ble_eq_true rfl) ⟨by decide, by decide⟩ ⟨by decide, by decide⟩ dX3_addStep_9) hZ (fun H locs hZ => ?_)
  refine lv_aload_n hx hb dX3_addStep_12 rfl (lv_at hl 0 rfl) ?_
  refine lv_dup hx hb dX3_addStep_13 rfl ?_
  refine zg (v := .int (u_1 k 5)) E hZ (xb_X3 hk) ((xe_X3 hk) _) kc_X3 5 (by decide) kw_173 rfl rfl dX3_addStep_14 ?_
  refine lv_iconst (v := 1) hx hb dX3_addStep_17 (by decide) ?_
  refine lv_iadd hx hb dX3_addStep_18 ?_
  refine zp h E hZ (xb_X3 hk) ((xe_X3 hk) _) (((xe_X3 hk) _).trans (congrArg (fun z => Sum.inr (2, z)) (fs_X3_5 g _ _ _))) kc_X3 (by decide) kw_173 rfl rfl rfl (Nat.le_of_ble_eq_true rfl) dX3_addStep_19 (fun M_2 H locs eM_2 h hZ => ?_)
  exact hret _ _ _ _ _ (Option.some.inj h) hZ dX3_addStep_22
theorem c_X3_addStep (l : Launch) (g : zG) (M : zM) (k : Nat) (hk : xk k = 2) (x1 : Int32) {r : zM} (h : f_X3_addStep M k x1 = some r) : zMv l g xE 125 yX3_addStep (zWs yX3_addStep cX3_addStep 2 none) 3 [.ref (g.2.2 k), .int x1] M (fun M1 => M1 = r) :=
  zMv_of (by decide +kernel) (Nat.le_of_ble_eq_true rfl) (fun p e s m args below meth c Q ls E hret hZ hl => w_X3_addStep g k hk E hret M x1 _ _ ls h hZ hl)
theorem v_X3_addStep : zYV yX3_addStep cX3_addStep 2 none 1 := ⟨kw_825, kw_4, kw_823, kw_824, by decide +kernel⟩

def f_X3_addLine (M : zM) (k : Nat) (x1 : Int32) (x2 : Int32) : Option (zM) :=
  zbn (f_X10_put M (k + 1) (M k 0) x1) (fun u_1 => zbn (f_X10_put u_1 (k + 2) (u_1 k 0) x2) (fun u_2 => zbn (f_X10_put u_2 (k + 3) (u_2 k 0) (u_2 k 5)) (fun u_3 => znm (zu u_3 k 0 ((u_3 k 0) + 1)) (fun M_4 => some M_4))))
set_option maxRecDepth 100000 in
set_option maxHeartbeats 4000000 in
theorem w_X3_addLine (g : zG)  (k : Nat) (hk : xk k = 2) {r : zM} (E : zX g p m c cX3_addLine 3 s args (zWs yX3_addLine cX3_addLine 3 none) RX3) (hret : zRv g xE 125 p l e (zrm 3 0 0) s m args below meth c 0 0 Q cX3_addLine (fun M1 => M1 = r)) (M : zM) (x1 : Int32) (x2 : Int32) (H : Heap) (locs : List Loc) (ls : Array Slot) (h : f_X3_addLine M k x1 x2 = some r) (hZ : zS g xE 125 s H locs M) (hl : lv_has ls 3 [(0, .ref (g.2.2 k)), (1, .int x1), (2, .int x2)]) : W p l e (zrm 3 0 0) s m args below meth c H locs 0 0 Q (F0 m 0 ls []) := by
  have hx := E.1.1
  have hb := E.1.2.1
  unfold f_X3_addLine at h
  refine lv_aload_n hx hb dX3_addLine_0 rfl (lv_at hl 0 rfl) ?_
  refine zg (v := .ref (g.2.2 (k + 1))) E hZ (xb_X3 hk) ((xe_X3 hk) _) kc_X3 1 (by decide) kw_169 rfl rfl dX3_addLine_1 ?_
  refine lv_aload_n hx hb dX3_addLine_4 rfl (lv_at hl 0 rfl) ?_
  refine zg (v := .int (M k 0)) E hZ (xb_X3 hk) ((xe_X3 hk) _) kc_X3 0 (by decide) kw_167 rfl rfl dX3_addLine_5 ?_
  refine lv_iload_n hx hb dX3_addLine_8 rfl (lv_at hl 1 rfl) ?_
  obtain ⟨u_1, qu_1, h⟩ := zbn_some h
  refine zcvS (zrunSN E hZ v_X10_put kw_826 (c_X10_put l g M (k + 1) (xc_X3_kinds hk).1 (M k 0) x1 qu_1 _) rfl hl.1 rfl (Nat.le_of_ble_eq_true rfl) ⟨by decide, by decide⟩ ⟨by decide, by decide⟩ dX3_addLine_9) hZ (fun H locs hZ => ?_)
  refine lv_aload_n hx hb dX3_addLine_12 rfl (lv_at hl 0 rfl) ?_
  refine zg (v := .ref (g.2.2 (k + 2))) E hZ (xb_X3 hk) ((xe_X3 hk) _) kc_X3 2 (by decide) kw_170 rfl rfl dX3_addLine_13 ?_
  refine lv_aload_n hx hb dX3_addLine_16 rfl (lv_at hl 0 rfl) ?_
  refine zg (v := .int (u_1 k 0)) E hZ (xb_X3 hk) ((xe_X3 hk) _) kc_X3 0 (by decide) kw_167 rfl rfl dX3_addLine_17 ?_
  refine lv_iload_n hx hb dX3_addLine_20 rfl (lv_at hl 2 rfl) ?_
  obtain ⟨u_2, qu_2, h⟩ := zbn_some h
  refine zcvS (zrunSN E hZ v_X10_put kw_826 (c_X10_put l g u_1 (k + 2) (xc_X3_amounts hk).1 (u_1 k 0) x2 qu_2 _) rfl hl.1 rfl (Nat.le_of_ble_eq_true rfl) ⟨by decide, by decide⟩ ⟨by decide, by decide⟩ dX3_addLine_21) hZ (fun H locs hZ => ?_)
  refine lv_aload_n hx hb dX3_addLine_24 rfl (lv_at hl 0 rfl) ?_
  refine zg (v := .ref (g.2.2 (k + 3))) E hZ (xb_X3 hk) ((xe_X3 hk) _) kc_X3 3 (by decide) kw_171 rfl rfl dX3_addLine_25 ?_
  refine lv_aload_n hx hb dX3_addLine_28 rfl (lv_at hl 0 rfl) ?_
  refine zg (v := .int (u_2 k 0)) E hZ (xb_X3 hk) ((xe_X3 hk) _) kc_X3 0 (by decide) kw_167 rfl rfl dX3_addLine_29 ?_
  refine lv_aload_n hx hb dX3_addLine_32 rfl (lv_at hl 0 rfl) ?_
  refine zg (v := .int (u_2 k 5)) E hZ (xb_X3 hk) ((xe_X3 hk) _) kc_X3 5 (by decide) kw_173 rfl rfl dX3_addLine_33 ?_
  obtain ⟨u_3, qu_3, h⟩ := zbn_some h
  refine zcvS (zrunSN E hZ v_X10_put kw_826 (c_X10_put l g u_2 (k + 3) (xc_X3_ends hk).1 (u_2 k 0) (u_2 k 5) qu_3 _) rfl hl.1 rfl (Nat.le_of_ble_eq_true rfl) ⟨by decide, by decide⟩ ⟨by decide, by decide⟩ dX3_addLine_36) hZ (fun H locs hZ => ?_)
  refine lv_aload_n hx hb dX3_addLine_39 rfl (lv_at hl 0 rfl) ?_
  refine lv_dup hx hb dX3_addLine_40 rfl ?_
  refine zg (v := .int (u_3 k 0)) E hZ (xb_X3 hk) ((xe_X3 hk) _) kc_X3 0 (by decide) kw_167 rfl rfl dX3_addLine_41 ?_
  refine lv_iconst (v := 1) hx hb dX3_addLine_44 (by decide) ?_
  refine lv_iadd hx hb dX3_addLine_45 ?_
  refine zp h E hZ (xb_X3 hk) ((xe_X3 hk) _) (((xe_X3 hk) _).trans (congrArg (fun z => Sum.inr (2, z)) (fs_X3_0 g _ _ _))) kc_X3 (by decide) kw_167 rfl rfl rfl (Nat.le_of_ble_eq_true rfl) dX3_addLine_46 (fun M_4 H locs eM_4 h hZ => ?_)
  exact hret _ _ _ _ _ (Option.some.inj h) hZ dX3_addLine_49
theorem c_X3_addLine (l : Launch) (g : zG) (M : zM) (k : Nat) (hk : xk k = 2) (x1 : Int32) (x2 : Int32) {r : zM} (h : f_X3_addLine M k x1 x2 = some r) : zMv l g xE 125 yX3_addLine (zWs yX3_addLine cX3_addLine 3 none) 3 [.ref (g.2.2 k), .int x1, .int x2] M (fun M1 => M1 = r) :=
  zMv_of (by decide +kernel) (Nat.le_of_ble_eq_true rfl) (fun p e s m args below meth c Q ls E hret hZ hl => w_X3_addLine g k hk E hret M x1 x2 _ _ ls h hZ hl)
theorem v_X3_addLine : zYV yX3_addLine cX3_addLine 3 none 2 := ⟨kw_835, kw_4, kw_833, kw_834, by decide +kernel⟩

def f_X9_copyFrom (M : zM) (k : Nat) (o1 : Nat) : Option (zM) :=
  znm (zu M k 0 (M o1 0)) (fun M_1 => znm (zu M_1 k 1 (M_1 o1 1)) (fun M_2 => znm (zu M_2 k 2 (M_2 o1 2)) (fun M_3 => znm (zu M_3 k 3 (M_3 o1 3)) (fun M_4 => znm (zu M_4 k 4 (M_4 o1 4)) (fun M_5 => znm (zu M_5 k 5 (M_5 o1 5)) (fun M_6 => znm (zu M_6 k 6 (M_6 o1 6)) (fun M_7 => znm (zu M_7 k 7 (M_7 o1 7)) (fun M_8 => znm (zu M_8 k 8 (M_8 o1 8)) (fun M_9 => znm (zu M_9 k 9 (M_9 o1 9)) (fun M_10 => znm (zu M_10 k 10 (M_10 o1 10)) (fun M_11 => znm (zu M_11 k 11 (M_11 o1 11)) (fun M_12 => znm (zu M_12 k 12 (M_12 o1 12)) (fun M_13 => znm (zu M_13 k 13 (M_13 o1 13)) (fun M_14 => znm (zu M_14 k 14 (M_14 o1 14)) (fun M_15 => zbn (f_X10_copyRow M_15 (o1 + 1) (k + 1)) (fun u_16 => zbn (f_X10_copyRow u_16 (o1 + 2) (k + 2)) (fun u_17 => zbn (f_X10_copyRow u_17 (o1 + 3) (k + 3)) (fun u_18 => zbn (f_X10_copyRow u_18 (o1 + 4) (k + 4)) (fun u_19 => zbn (f_X10_copyRow u_19 (o1 + 5) (k + 5)) (fun u_20 => some u_20))))))))))))))))))))
set_option maxRecDepth 100000 in
set_option maxHeartbeats 4000000 in
theorem w_X9_copyFrom (g : zG)  (k : Nat) (hk : xk k = 8) (o1 : Nat) (ho1 : xk o1 = 8) {r : zM} (E : zX g p m c cX9_copyFrom 2 s args (zWs yX9_copyFrom cX9_copyFrom 2 none) RX9) (hret : zRv g xE 125 p l e (zrm 4 0 0) s m args below meth c 0 0 Q cX9_copyFrom (fun M1 => M1 = r)) (M : zM)  (H : Heap) (locs : List Loc) (ls : Array Slot) (h : f_X9_copyFrom M k o1 = some r) (hZ : zS g xE 125 s H locs M) (hl : lv_has ls 2 [(0, .ref (g.2.2 k)), (1, .ref (g.2.2 o1))]) : W p l e (zrm 4 0 0) s m args below meth c H locs 0 0 Q (F0 m 0 ls []) := by
  have hx := E.1.1
  have hb := E.1.2.1
  unfold f_X9_copyFrom at h
  refine lv_aload_n hx hb dX9_copyFrom_0 rfl (lv_at hl 0 rfl) ?_
  refine lv_aload_n hx hb dX9_copyFrom_1 rfl (lv_at hl 1 rfl) ?_
  refine zg (v := .int (M o1 0)) E hZ (xb_X9 ho1) ((xe_X9 ho1) _) kc_X9 0 (by decide) kw_60 rfl rfl dX9_copyFrom_2 ?_
  refine zp h E hZ (xb_X9 hk) ((xe_X9 hk) _) (((xe_X9 hk) _).trans (congrArg (fun z => Sum.inr (8, z)) (fs_X9_0 g _ _ _))) kc_X9 (by decide) kw_60 rfl rfl rfl (Nat.le_of_ble_eq_true rfl) dX9_copyFrom_5 (fun M_1 H locs eM_1 h hZ => ?_)
  refine lv_aload_n hx hb dX9_copyFrom_8 rfl (lv_at hl 0 rfl) ?_
  refine lv_aload_n hx hb dX9_copyFrom_9 rfl (lv_at hl 1 rfl) ?_
  refine zg (v := .int (M_1 o1 1)) E hZ (xb_X9 ho1) ((xe_X9 ho1) _) kc_X9 1 (by decide) kw_66 rfl rfl dX9_copyFrom_10 ?_
  refine zp h E hZ (xb_X9 hk) ((xe_X9 hk) _) (((xe_X9 hk) _).trans (congrArg (fun z => Sum.inr (8, z)) (fs_X9_1 g _ _ _))) kc_X9 (by decide) kw_66 rfl rfl rfl (Nat.le_of_ble_eq_true rfl) dX9_copyFrom_13 (fun M_2 H locs eM_2 h hZ => ?_)
  refine lv_aload_n hx hb dX9_copyFrom_16 rfl (lv_at hl 0 rfl) ?_
  refine lv_aload_n hx hb dX9_copyFrom_17 rfl (lv_at hl 1 rfl) ?_
  refine zg (v := .int (M_2 o1 2)) E hZ (xb_X9 ho1) ((xe_X9 ho1) _) kc_X9 2 (by decide) kw_69 rfl rfl dX9_copyFrom_18 ?_
  refine zp h E hZ (xb_X9 hk) ((xe_X9 hk) _) (((xe_X9 hk) _).trans (congrArg (fun z => Sum.inr (8, z)) (fs_X9_2 g _ _ _))) kc_X9 (by decide) kw_69 rfl rfl rfl (Nat.le_of_ble_eq_true rfl) dX9_copyFrom_21 (fun M_3 H locs eM_3 h hZ => ?_)
  refine lv_aload_n hx hb dX9_copyFrom_24 rfl (lv_at hl 0 rfl) ?_
  refine lv_aload_n hx hb dX9_copyFrom_25 rfl (lv_at hl 1 rfl) ?_
  refine zg (v := .int (M_3 o1 3)) E hZ (xb_X9 ho1) ((xe_X9 ho1) _) kc_X9 3 (by decide) kw_71 rfl rfl dX9_copyFrom_26 ?_
  refine zp h E hZ (xb_X9 hk) ((xe_X9 hk) _) (((xe_X9 hk) _).trans (congrArg (fun z => Sum.inr (8, z)) (fs_X9_3 g _ _ _))) kc_X9 (by decide) kw_71 rfl rfl rfl (Nat.le_of_ble_eq_true rfl) dX9_copyFrom_29 (fun M_4 H locs eM_4 h hZ => ?_)
  refine lv_aload_n hx hb dX9_copyFrom_32 rfl (lv_at hl 0 rfl) ?_
  refine lv_aload_n hx hb dX9_copyFrom_33 rfl (lv_at hl 1 rfl) ?_
  refine zg (v := .int (M_4 o1 4)) E hZ (xb_X9 ho1) ((xe_X9 ho1) _) kc_X9 4 (by decide) kw_74 rfl rfl dX9_copyFrom_34 ?_
  refine zp h E hZ (xb_X9 hk) ((xe_X9 hk) _) (((xe_X9 hk) _).trans (congrArg (fun z => Sum.inr (8, z)) (fs_X9_4 g _ _ _))) kc_X9 (by decide) kw_74 rfl rfl rfl (Nat.le_of_ble_eq_true rfl) dX9_copyFrom_37 (fun M_5 H locs eM_5 h hZ => ?_)
  refine lv_aload_n hx hb dX9_copyFrom_40 rfl (lv_at hl 0 rfl) ?_
  refine lv_aload_n hx hb dX9_copyFrom_41 rfl (lv_at hl 1 rfl) ?_
  refine zg (v := .int (M_5 o1 5)) E hZ (xb_X9 ho1) ((xe_X9 ho1) _) kc_X9 5 (by decide) kw_77 rfl rfl dX9_copyFrom_42 ?_
  refine zp h E hZ (xb_X9 hk) ((xe_X9 hk) _) (((xe_X9 hk) _).trans (congrArg (fun z => Sum.inr (8, z)) (fs_X9_5 g _ _ _))) kc_X9 (by decide) kw_77 rfl rfl rfl (Nat.le_of_ble_eq_true rfl) dX9_copyFrom_45 (fun M_6 H locs eM_6 h hZ => ?_)
  refine lv_aload_n hx hb dX9_copyFrom_48 rfl (lv_at hl 0 rfl) ?_
  refine lv_aload_n hx hb dX9_copyFrom_49 rfl (lv_at hl 1 rfl) ?_
  refine zg (v := .int (M_6 o1 6)) E hZ (xb_X9 ho1) ((xe_X9 ho1) _) kc_X9 6 (by decide) kw_81 rfl rfl dX9_copyFrom_50 ?_
  refine zp h E hZ (xb_X9 hk) ((xe_X9 hk) _) (((xe_X9 hk) _).trans (congrArg (fun z => Sum.inr (8, z)) (fs_X9_6 g _ _ _))) kc_X9 (by decide) kw_81 rfl rfl rfl (Nat.le_of_ble_eq_true rfl) dX9_copyFrom_53 (fun M_7 H locs eM_7 h hZ => ?_)
  refine lv_aload_n hx hb dX9_copyFrom_56 rfl (lv_at hl 0 rfl) ?_
  refine lv_aload_n hx hb dX9_copyFrom_57 rfl (lv_at hl 1 rfl) ?_
  refine zg (v := .int (M_7 o1 7)) E hZ (xb_X9 ho1) ((xe_X9 ho1) _) kc_X9 7 (by decide) kw_84 rfl rfl dX9_copyFrom_58 ?_
  refine zp h E hZ (xb_X9 hk) ((xe_X9 hk) _) (((xe_X9 hk) _).trans (congrArg (fun z => Sum.inr (8, z)) (fs_X9_7 g _ _ _))) kc_X9 (by decide) kw_84 rfl rfl rfl (Nat.le_of_ble_eq_true rfl) dX9_copyFrom_61 (fun M_8 H locs eM_8 h hZ => ?_)
  refine lv_aload_n hx hb dX9_copyFrom_64 rfl (lv_at hl 0 rfl) ?_
  refine lv_aload_n hx hb dX9_copyFrom_65 rfl (lv_at hl 1 rfl) ?_
  refine zg (v := .int (M_8 o1 8)) E hZ (xb_X9 ho1) ((xe_X9 ho1) _) kc_X9 8 (by decide) kw_87 rfl rfl dX9_copyFrom_66 ?_
  refine zp h E hZ (xb_X9 hk) ((xe_X9 hk) _) (((xe_X9 hk) _).trans (congrArg (fun z => Sum.inr (8, z)) (fs_X9_8 g _ _ _))) kc_X9 (by decide) kw_87 rfl rfl rfl (Nat.le_of_ble_eq_true rfl) dX9_copyFrom_69 (fun M_9 H locs eM_9 h hZ => ?_)
  refine lv_aload_n hx hb dX9_copyFrom_72 rfl (lv_at hl 0 rfl) ?_
  refine lv_aload_n hx hb dX9_copyFrom_73 rfl (lv_at hl 1 rfl) ?_
  refine zg (v := .int (M_9 o1 9)) E hZ (xb_X9 ho1) ((xe_X9 ho1) _) kc_X9 9 (by decide) kw_90 rfl rfl dX9_copyFrom_74 ?_
  refine zp h E hZ (xb_X9 hk) ((xe_X9 hk) _) (((xe_X9 hk) _).trans (congrArg (fun z => Sum.inr (8, z)) (fs_X9_9 g _ _ _))) kc_X9 (by decide) kw_90 rfl rfl rfl (Nat.le_of_ble_eq_true rfl) dX9_copyFrom_77 (fun M_10 H locs eM_10 h hZ => ?_)
  refine lv_aload_n hx hb dX9_copyFrom_80 rfl (lv_at hl 0 rfl) ?_
  refine lv_aload_n hx hb dX9_copyFrom_81 rfl (lv_at hl 1 rfl) ?_
  refine zg (v := .int (M_10 o1 10)) E hZ (xb_X9 ho1) ((xe_X9 ho1) _) kc_X9 10 (by decide) kw_92 rfl rfl dX9_copyFrom_82 ?_
  refine zp h E hZ (xb_X9 hk) ((xe_X9 hk) _) (((xe_X9 hk) _).trans (congrArg (fun z => Sum.inr (8, z)) (fs_X9_10 g _ _ _))) kc_X9 (by decide) kw_92 rfl rfl rfl (Nat.le_of_ble_eq_true rfl) dX9_copyFrom_85 (fun M_11 H locs eM_11 h hZ => ?_)
  refine lv_aload_n hx hb dX9_copyFrom_88 rfl (lv_at hl 0 rfl) ?_
  refine lv_aload_n hx hb dX9_copyFrom_89 rfl (lv_at hl 1 rfl) ?_
  refine zg (v := .int (M_11 o1 11)) E hZ (xb_X9 ho1) ((xe_X9 ho1) _) kc_X9 11 (by decide) kw_97 rfl rfl dX9_copyFrom_90 ?_
  refine zp h E hZ (xb_X9 hk) ((xe_X9 hk) _) (((xe_X9 hk) _).trans (congrArg (fun z => Sum.inr (8, z)) (fs_X9_11 g _ _ _))) kc_X9 (by decide) kw_97 rfl rfl rfl (Nat.le_of_ble_eq_true rfl) dX9_copyFrom_93 (fun M_12 H locs eM_12 h hZ => ?_)
  refine lv_aload_n hx hb dX9_copyFrom_96 rfl (lv_at hl 0 rfl) ?_
  refine lv_aload_n hx hb dX9_copyFrom_97 rfl (lv_at hl 1 rfl) ?_
  refine zg (v := .int (M_12 o1 12)) E hZ (xb_X9 ho1) ((xe_X9 ho1) _) kc_X9 12 (by decide) kw_102 rfl rfl dX9_copyFrom_98 ?_
  refine zp h E hZ (xb_X9 hk) ((xe_X9 hk) _) (((xe_X9 hk) _).trans (congrArg (fun z => Sum.inr (8, z)) (fs_X9_12 g _ _ _))) kc_X9 (by decide) kw_102 rfl rfl rfl (Nat.le_of_ble_eq_true rfl) dX9_copyFrom_101 (fun M_13 H locs eM_13 h hZ => ?_)
  refine lv_aload_n hx hb dX9_copyFrom_104 rfl (lv_at hl 0 rfl) ?_
  refine lv_aload_n hx hb dX9_copyFrom_105 rfl (lv_at hl 1 rfl) ?_
  refine zg (v := .int (M_13 o1 13)) E hZ (xb_X9 ho1) ((xe_X9 ho1) _) kc_X9 13 (by decide) kw_105 rfl rfl dX9_copyFrom_106 ?_
  refine zp h E hZ (xb_X9 hk) ((xe_X9 hk) _) (((xe_X9 hk) _).trans (congrArg (fun z => Sum.inr (8, z)) (fs_X9_13 g _ _ _))) kc_X9 (by decide) kw_105 rfl rfl rfl (Nat.le_of_ble_eq_true rfl) dX9_copyFrom_109 (fun M_14 H locs eM_14 h hZ => ?_)
  refine lv_aload_n hx hb dX9_copyFrom_112 rfl (lv_at hl 0 rfl) ?_
  refine lv_aload_n hx hb dX9_copyFrom_113 rfl (lv_at hl 1 rfl) ?_
  refine zg (v := .int (M_14 o1 14)) E hZ (xb_X9 ho1) ((xe_X9 ho1) _) kc_X9 14 (by decide) kw_109 rfl rfl dX9_copyFrom_114 ?_
  refine zp h E hZ (xb_X9 hk) ((xe_X9 hk) _) (((xe_X9 hk) _).trans (congrArg (fun z => Sum.inr (8, z)) (fs_X9_14 g _ _ _))) kc_X9 (by decide) kw_109 rfl rfl rfl (Nat.le_of_ble_eq_true rfl) dX9_copyFrom_117 (fun M_15 H locs eM_15 h hZ => ?_)
  refine lv_aload_n hx hb dX9_copyFrom_120 rfl (lv_at hl 1 rfl) ?_
  refine zg (v := .ref (g.2.2 (o1 + 1))) E hZ (xb_X9 ho1) ((xe_X9 ho1) _) kc_X9 15 (by decide) kw_110 rfl rfl dX9_copyFrom_121 ?_
  refine lv_aload_n hx hb dX9_copyFrom_124 rfl (lv_at hl 0 rfl) ?_
  refine zg (v := .ref (g.2.2 (k + 1))) E hZ (xb_X9 hk) ((xe_X9 hk) _) kc_X9 15 (by decide) kw_110 rfl rfl dX9_copyFrom_125 ?_
  obtain ⟨u_16, qu_16, h⟩ := zbn_some h
  refine zcvS (zrunSN E hZ v_X10_copyRow kw_536 (c_X10_copyRow l g M_15 (o1 + 1) (xc_X9_ground ho1).1 (k + 1) (xc_X9_ground hk).1  qu_16 _) rfl hl.1 rfl (Nat.le_of_ble_eq_true rfl) ⟨by decide, by decide⟩ ⟨by decide, by decide⟩ dX9_copyFrom_128) hZ (fun H locs hZ => ?_)
  refine lv_aload_n hx hb dX9_copyFrom_131 rfl (lv_at hl 1 rfl) ?_
  refine zg (v := .ref (g.2.2 (o1 + 2))) E hZ (xb_X9 ho1) ((xe_X9 ho1) _) kc_X9 16 (by decide) kw_114 rfl rfl dX9_copyFrom_132 ?_
  refine lv_aload_n hx hb dX9_copyFrom_135 rfl (lv_at hl 0 rfl) ?_
  refine zg (v := .ref (g.2.2 (k + 2))) E hZ (xb_X9 hk) ((xe_X9 hk) _) kc_X9 16 (by decide) kw_114 rfl rfl dX9_copyFrom_136 ?_
  obtain ⟨u_17, qu_17, h⟩ := zbn_some h
  refine zcvS (zrunSN E hZ v_X10_copyRow kw_536 (c_X10_copyRow l g u_16 (o1 + 2) (xc_X9_errors ho1).1 (k + 2) (xc_X9_errors hk).1  qu_17 _) rfl hl.1 rfl (Nat.le_of_ble_eq_true rfl) ⟨by decide, by decide⟩ ⟨by decide, by decide⟩ dX9_copyFrom_139) hZ (fun H locs hZ => ?_)
  refine lv_aload_n hx hb dX9_copyFrom_142 rfl (lv_at hl 1 rfl) ?_
  refine zg (v := .ref (g.2.2 (o1 + 3))) E hZ (xb_X9 ho1) ((xe_X9 ho1) _) kc_X9 17 (by decide) kw_117 rfl rfl dX9_copyFrom_143 ?_
  refine lv_aload_n hx hb dX9_copyFrom_146 rfl (lv_at hl 0 rfl) ?_
  refine zg (v := .ref (g.2.2 (k + 3))) E hZ (xb_X9 hk) ((xe_X9 hk) _) kc_X9 17 (by decide) kw_117 rfl rfl dX9_copyFrom_147 ?_
  obtain ⟨u_18, qu_18, h⟩ := zbn_some h
  refine zcvS (zrunSN E hZ v_X10_copyRow kw_536 (c_X10_copyRow l g u_17 (o1 + 3) (xc_X9_monkCells ho1).1 (k + 3) (xc_X9_monkCells hk).1  qu_18 _) rfl hl.1 rfl (Nat.le_of_ble_eq_true rfl) ⟨by decide, by decide⟩ ⟨by decide, by decide⟩ dX9_copyFrom_150) hZ (fun H locs hZ => ?_)
  refine lv_aload_n hx hb dX9_copyFrom_153 rfl (lv_at hl 1 rfl) ?_
  refine zg (v := .ref (g.2.2 (o1 + 4))) E hZ (xb_X9 ho1) ((xe_X9 ho1) _) kc_X9 18 (by decide) kw_118 rfl rfl dX9_copyFrom_154 ?_
  refine lv_aload_n hx hb dX9_copyFrom_157 rfl (lv_at hl 0 rfl) ?_
  refine zg (v := .ref (g.2.2 (k + 4))) E hZ (xb_X9 hk) ((xe_X9 hk) _) kc_X9 18 (by decide) kw_118 rfl rfl dX9_copyFrom_158 ?_
  obtain ⟨u_19, qu_19, h⟩ := zbn_some h
  refine zcvS (zrunSN E hZ v_X10_copyRow kw_536 (c_X10_copyRow l g u_18 (o1 + 4) (xc_X9_dutyCells ho1).1 (k + 4) (xc_X9_dutyCells hk).1  qu_19 _) rfl hl.1 rfl (Nat.le_of_ble_eq_true rfl) ⟨by decide, by decide⟩ ⟨by decide, by decide⟩ dX9_copyFrom_161) hZ (fun H locs hZ => ?_)
  refine lv_aload_n hx hb dX9_copyFrom_164 rfl (lv_at hl 1 rfl) ?_
  refine zg (v := .ref (g.2.2 (o1 + 5))) E hZ (xb_X9 ho1) ((xe_X9 ho1) _) kc_X9 19 (by decide) kw_119 rfl rfl dX9_copyFrom_165 ?_
  refine lv_aload_n hx hb dX9_copyFrom_168 rfl (lv_at hl 0 rfl) ?_
  refine zg (v := .ref (g.2.2 (k + 5))) E hZ (xb_X9 hk) ((xe_X9 hk) _) kc_X9 19 (by decide) kw_119 rfl rfl dX9_copyFrom_169 ?_
  obtain ⟨u_20, qu_20, h⟩ := zbn_some h
  refine zcvS (zrunSN E hZ v_X10_copyRow kw_536 (c_X10_copyRow l g u_19 (o1 + 5) (xc_X9_logRows ho1).1 (k + 5) (xc_X9_logRows hk).1  qu_20 _) rfl hl.1 rfl (Nat.le_of_ble_eq_true rfl) ⟨by decide, by decide⟩ ⟨by decide, by decide⟩ dX9_copyFrom_172) hZ (fun H locs hZ => ?_)
  exact hret _ _ _ _ _ (Option.some.inj h) hZ dX9_copyFrom_175
theorem c_X9_copyFrom (l : Launch) (g : zG) (M : zM) (k : Nat) (hk : xk k = 8) (o1 : Nat) (ho1 : xk o1 = 8)  {r : zM} (h : f_X9_copyFrom M k o1 = some r) : zMv l g xE 125 yX9_copyFrom (zWs yX9_copyFrom cX9_copyFrom 2 none) 4 [.ref (g.2.2 k), .ref (g.2.2 o1)] M (fun M1 => M1 = r) :=
  zMv_of (by decide +kernel) (Nat.le_of_ble_eq_true rfl) (fun p e s m args below meth c Q ls E hret hZ hl => w_X9_copyFrom g k hk o1 ho1 E hret M  _ _ ls h hZ hl)
theorem v_X9_copyFrom : zYV yX9_copyFrom cX9_copyFrom 2 none 1 := ⟨kw_535, kw_3, kw_533, kw_534, by decide +kernel⟩

def b_X6_addNumber_3  (x1 : Int32) : Nat → zM → Int32 → Option (zM)
  | 0, _, _ => none
  | n + 1, M, x2 =>
    if x2 < 0 then (some M) else (zbn (f_X10_put M 2 (M 1 1) ((x1 >>> (x2 &&& 31)) &&& 255)) (fun u_1 => znm (zu u_1 1 1 ((u_1 1 1) + 1)) (fun M_2 => znm (x2 + (-8)) (fun x2_3 => b_X6_addNumber_3  x1 n M_2 x2_3))))
set_option maxRecDepth 100000 in
set_option maxHeartbeats 4000000 in
theorem lb_X6_addNumber_3 (g : zG)  {r : zM} (E : zX g p m c cX6_addNumber 3 s args (zWs yX6_addNumber cX6_addNumber 3 none) RX6) (hret : zRv g xE 125 p l e (zrm 3 0 0) s m args below meth c 0 0 Q cX6_addNumber (fun M1 => M1 = r)) (x1 : Int32)  : ∀ (n : Nat) (M : zM) (x2 : Int32) (H : Heap) (locs : List Loc) (ls : Array Slot), b_X6_addNumber_3  x1 n M x2 = some r → zS g xE 125 s H locs M → lv_has ls 3 [(0, .ref (g.2.2 1)), (1, .int x1), (2, .int x2)] → W p l e (zrm 3 0 0) s m args below meth c H locs 0 0 Q (F0 m 3 ls []) := by
  have hx := E.1.1
  have hb := E.1.2.1
  intro n
  induction n with
  | zero => intro M x2 H locs ls h hZ hl; cases h
  | succ n ih =>
    intro M x2 H locs ls h hZ hl
    rw [b_X6_addNumber_3] at h
    refine lv_iload_n hx hb dX6_addNumber_3 rfl (lv_at hl 2 rfl) ?_
    refine zif_lt (tgt := 41) h E dX6_addNumber_4 (by decide) (fun c_4 h => ?_) (fun c_4 h => ?_)
    · exact hret _ _ _ _ _ (Option.some.inj h) hZ dX6_addNumber_41
    · refine lv_aload_n hx hb dX6_addNumber_7 rfl (lv_at hl 0 rfl) ?_
      refine zg (v := .ref (g.2.2 2)) E hZ (xb_X6 xs_1) ((xe_X6 xs_1) _) kc_X6 0 (by decide) kw_42 rfl rfl dX6_addNumber_8 ?_
      refine lv_aload_n hx hb dX6_addNumber_11 rfl (lv_at hl 0 rfl) ?_
      refine zg (v := .int (M 1 1)) E hZ (xb_X6 xs_1) ((xe_X6 xs_1) _) kc_X6 1 (by decide) kw_45 rfl rfl dX6_addNumber_12 ?_
      refine lv_iload_n hx hb dX6_addNumber_15 rfl (lv_at hl 1 rfl) ?_
      refine lv_iload_n hx hb dX6_addNumber_16 rfl (lv_at hl 2 rfl) ?_
      refine lv_ishr hx hb dX6_addNumber_17 ?_
      refine lv_sipush (v := 255) hx hb dX6_addNumber_18 (by decide) ?_
      refine lv_iand hx hb dX6_addNumber_21 ?_
      obtain ⟨u_1, qu_1, h⟩ := zbn_some h
      refine zcvS (zrunSN E hZ v_X10_put kw_406 (c_X10_put l g M 2 xs_2.1 (M 1 1) ((x1 >>> (x2 &&& 31)) &&& 255) qu_1 _) rfl hl.1 rfl (Nat.le_of_ble_eq_true rfl) ⟨by decide, by decide⟩ ⟨by decide, by decide⟩ dX6_addNumber_22) hZ (fun H locs hZ => ?_)
      refine lv_aload_n hx hb dX6_addNumber_25 rfl (lv_at hl 0 rfl) ?_
      refine lv_dup hx hb dX6_addNumber_26 rfl ?_
      refine zg (v := .int (u_1 1 1)) E hZ (xb_X6 xs_1) ((xe_X6 xs_1) _) kc_X6 1 (by decide) kw_45 rfl rfl dX6_addNumber_27 ?_
      refine lv_iconst (v := 1) hx hb dX6_addNumber_30 (by decide) ?_
      refine lv_iadd hx hb dX6_addNumber_31 ?_
      refine zp h E hZ (xb_X6 xs_1) ((xe_X6 xs_1) _) (((xe_X6 xs_1) _).trans (congrArg (fun z => Sum.inr (5, z)) (fs_X6_1 g _ _ _))) kc_X6 (by decide) kw_45 rfl rfl rfl (Nat.le_of_ble_eq_true rfl) dX6_addNumber_32 (fun M_2 H locs eM_2 h hZ => ?_)
      obtain ⟨x2_3, ex2_3, h⟩ := znm_ex h
      refine lv_iinc (v := x2_3) (lv' := [(2, .int x2_3), (0, .ref (g.2.2 1)), (1, .int x1)]) hx hb dX6_addNumber_35 hl (k := 2) rfl (by rw [ex2_3]; rfl) (by decide) rfl (fun ls hl => ?_)
      refine lv_goto (tgt := 3) hx hb dX6_addNumber_38 (by decide) ?_
      exact ih M_2 x2_3 H locs ls h hZ (lv_sub hl [1, 2, 0] rfl)
def f_X6_addNumber (M : zM) (x1 : Int32) : Option (zM) :=
  b_X6_addNumber_3  x1 6000 M 24
set_option maxRecDepth 100000 in
set_option maxHeartbeats 4000000 in
theorem w_X6_addNumber (g : zG)  {r : zM} (E : zX g p m c cX6_addNumber 3 s args (zWs yX6_addNumber cX6_addNumber 3 none) RX6) (hret : zRv g xE 125 p l e (zrm 3 0 0) s m args below meth c 0 0 Q cX6_addNumber (fun M1 => M1 = r)) (M : zM) (x1 : Int32) (H : Heap) (locs : List Loc) (ls : Array Slot) (h : f_X6_addNumber M x1 = some r) (hZ : zS g xE 125 s H locs M) (hl : lv_has ls 3 [(0, .ref (g.2.2 1)), (1, .int x1)]) : W p l e (zrm 3 0 0) s m args below meth c H locs 0 0 Q (F0 m 0 ls []) := by
  have hx := E.1.1
  have hb := E.1.2.1
  unfold f_X6_addNumber at h
  refine lv_bipush (v := 24) hx hb dX6_addNumber_0 (by decide) ?_
  refine lv_istore_n (lv' := [(2, .int 24), (0, .ref (g.2.2 1)), (1, .int x1)]) hx hb dX6_addNumber_2 rfl hl (by decide) rfl (fun ls hl => ?_)
  exact lb_X6_addNumber_3 g  E hret x1  6000 M 24 H locs ls h hZ (lv_sub hl [1, 2, 0] rfl)
theorem c_X6_addNumber (l : Launch) (g : zG) (M : zM)  (x1 : Int32) {r : zM} (h : f_X6_addNumber M x1 = some r) : zMv l g xE 125 yX6_addNumber (zWs yX6_addNumber cX6_addNumber 3 none) 3 [.ref (g.2.2 1), .int x1] M (fun M1 => M1 = r) :=
  zMv_of (by decide +kernel) (Nat.le_of_ble_eq_true rfl) (fun p e s m args below meth c Q ls E hret hZ hl => w_X6_addNumber g  E hret M x1 _ _ ls h hZ hl)
theorem v_X6_addNumber : zYV yX6_addNumber cX6_addNumber 3 none 1 := ⟨kw_405, kw_2, kw_403, kw_404, by decide +kernel⟩

def f_X9_alive (M : zM) (k : Nat) : Option (Int32) :=
  zbn (f_J6_bitCount_0f7a4 (M k 12)) (fun u_1 => some ((M k 10) - u_1))
set_option maxRecDepth 100000 in
set_option maxHeartbeats 4000000 in
theorem w_X9_alive (g : zG)  (k : Nat) (hk : xk k = 8) {r : Int32} {M0 : zM} (E : zX g p m c cX9_alive 1 s args (zWs yX9_alive cX9_alive 1 (some .int)) RX9) (hret : zRi g xE 125 p l e (zrm 3 0 0) s m args below meth c 0 0 Q cX9_alive .int (fun v M1 => v = r ∧ M1 = M0)) (M : zM) (hM : M = M0)  (H : Heap) (locs : List Loc) (ls : Array Slot) (h : f_X9_alive M k = some r) (hZ : zS g xE 125 s H locs M) (hl : lv_has ls 1 [(0, .ref (g.2.2 k))]) : W p l e (zrm 3 0 0) s m args below meth c H locs 0 0 Q (F0 m 0 ls []) := by
  have hx := E.1.1
  have hb := E.1.2.1
  unfold f_X9_alive at h
  refine lv_aload_n hx hb dX9_alive_0 rfl (lv_at hl 0 rfl) ?_
  refine zg (v := .int (M k 10)) E hZ (xb_X9 hk) ((xe_X9 hk) _) kc_X9 10 (by decide) kw_92 rfl rfl dX9_alive_1 ?_
  refine lv_aload_n hx hb dX9_alive_4 rfl (lv_at hl 0 rfl) ?_
  refine zg (v := .int (M k 12)) E hZ (xb_X9 hk) ((xe_X9 hk) _) kc_X9 12 (by decide) kw_102 rfl rfl dX9_alive_5 ?_
  obtain ⟨u_1, qu_1, h⟩ := zbn_some h
  refine zciR (zrunS E hZ v_J6_bitCount_0f7a4 kw_1164 (c_J6_bitCount_0f7a4 l g xE 125 M  (M k 12) qu_1 _) rfl hl.1 rfl (Nat.le_of_ble_eq_true rfl) ⟨by decide, by decide⟩ ⟨by decide, by decide⟩ dX9_alive_8) hZ (fun H locs hZ => ?_)
  refine lv_isub hx hb dX9_alive_11 ?_
  exact hret _ _ _ _ _ _ ⟨Option.some.inj h, hM⟩ rfl hZ dX9_alive_12
theorem c_X9_alive (l : Launch) (g : zG) (M : zM) (k : Nat) (hk : xk k = 8)  {r : Int32} (h : f_X9_alive M k = some r) : zMi l g xE 125 yX9_alive (zWs yX9_alive cX9_alive 1 (some .int)) 3 [.ref (g.2.2 k)] M (fun v M1 => v = r ∧ M1 = M) :=
  zMi_of (by decide +kernel) (Nat.le_of_ble_eq_true rfl) (fun p e s m args below meth c Q ls E hret hZ hl => w_X9_alive g k hk E hret M rfl  _ _ ls h hZ hl)
theorem v_X9_alive : zYV yX9_alive cX9_alive 1 (some .int) 0 := ⟨kw_1163, kw_3, kw_1161, kw_1162, by decide +kernel⟩

def f_X9_printedBy (M : zM) (k : Nat) (x1 : Int32) (x2 : Int32) : Option (Int32) :=
  zbn (f_X10_at M (k + 2) x2) (fun u_1 => some ((((M k 5) * x2) + x1) + u_1))
set_option maxRecDepth 100000 in
set_option maxHeartbeats 4000000 in
theorem w_X9_printedBy (g : zG)  (k : Nat) (hk : xk k = 8) {r : Int32} {M0 : zM} (E : zX g p m c cX9_printedBy 3 s args (zWs yX9_printedBy cX9_printedBy 3 (some .int)) RX9) (hret : zRi g xE 125 p l e (zrm 3 0 0) s m args below meth c 0 0 Q cX9_printedBy .int (fun v M1 => v = r ∧ M1 = M0)) (M : zM) (hM : M = M0) (x1 : Int32) (x2 : Int32) (H : Heap) (locs : List Loc) (ls : Array Slot) (h : f_X9_printedBy M k x1 x2 = some r) (hZ : zS g xE 125 s H locs M) (hl : lv_has ls 3 [(0, .ref (g.2.2 k)), (1, .int x1), (2, .int x2)]) : W p l e (zrm 3 0 0) s m args below meth c H locs 0 0 Q (F0 m 0 ls []) := by
  have hx := E.1.1
  have hb := E.1.2.1
  unfold f_X9_printedBy at h
  refine lv_aload_n hx hb dX9_printedBy_0 rfl (lv_at hl 0 rfl) ?_
  refine zg (v := .int (M k 5)) E hZ (xb_X9 hk) ((xe_X9 hk) _) kc_X9 5 (by decide) kw_77 rfl rfl dX9_printedBy_1 ?_
  refine lv_iload_n hx hb dX9_printedBy_4 rfl (lv_at hl 2 rfl) ?_
  refine lv_imul hx hb dX9_printedBy_5 ?_
  refine lv_iload_n hx hb dX9_printedBy_6 rfl (lv_at hl 1 rfl) ?_
  refine lv_iadd hx hb dX9_printedBy_7 ?_
  refine lv_aload_n hx hb dX9_printedBy_8 rfl (lv_at hl 0 rfl) ?_
  refine zg (v := .ref (g.2.2 (k + 2))) E hZ (xb_X9 hk) ((xe_X9 hk) _) kc_X9 16 (by decide) kw_114 rfl rfl dX9_printedBy_9 ?_
  refine lv_iload_n hx hb dX9_printedBy_12 rfl (lv_at hl 2 rfl) ?_
  obtain ⟨u_1, qu_1, h⟩ := zbn_some h
  refine zciR (zrunSN E hZ v_X10_at kw_425 (c_X10_at l g M (k + 2) (xc_X9_errors hk).1 x2 qu_1 _) rfl hl.1 rfl (Nat.le_of_ble_eq_true rfl) ⟨by decide, by decide⟩ ⟨by decide, by decide⟩ dX9_printedBy_13) hZ (fun H locs hZ => ?_)
  refine lv_iadd hx hb dX9_printedBy_16 ?_
  exact hret _ _ _ _ _ _ ⟨Option.some.inj h, hM⟩ rfl hZ dX9_printedBy_17
theorem c_X9_printedBy (l : Launch) (g : zG) (M : zM) (k : Nat) (hk : xk k = 8) (x1 : Int32) (x2 : Int32) {r : Int32} (h : f_X9_printedBy M k x1 x2 = some r) : zMi l g xE 125 yX9_printedBy (zWs yX9_printedBy cX9_printedBy 3 (some .int)) 3 [.ref (g.2.2 k), .int x1, .int x2] M (fun v M1 => v = r ∧ M1 = M) :=
  zMi_of (by decide +kernel) (Nat.le_of_ble_eq_true rfl) (fun p e s m args below meth c Q ls E hret hZ hl => w_X9_printedBy g k hk E hret M rfl x1 x2 _ _ ls h hZ hl)
theorem v_X9_printedBy : zYV yX9_printedBy cX9_printedBy 3 (some .int) 2 := ⟨kw_424, kw_3, kw_422, kw_423, by decide +kernel⟩

def f_X9_loggedRows (M : zM) (k : Nat) : Option (Int32) :=
  znm (if 60 < (M k 14) then 60 else (M k 14)) (fun v_1 => some v_1)
set_option maxRecDepth 100000 in
set_option maxHeartbeats 4000000 in
theorem w_X9_loggedRows (g : zG)  (k : Nat) (hk : xk k = 8) {r : Int32} {M0 : zM} (E : zX g p m c cX9_loggedRows 1 s args (zWs yX9_loggedRows cX9_loggedRows 1 (some .int)) RX9) (hret : zRi g xE 125 p l e (zrm 3 0 0) s m args below meth c 0 0 Q cX9_loggedRows .int (fun v M1 => v = r ∧ M1 = M0)) (M : zM) (hM : M = M0)  (H : Heap) (locs : List Loc) (ls : Array Slot) (h : f_X9_loggedRows M k = some r) (hZ : zS g xE 125 s H locs M) (hl : lv_has ls 1 [(0, .ref (g.2.2 k))]) : W p l e (zrm 3 0 0) s m args below meth c H locs 0 0 Q (F0 m 0 ls []) := by
  have hx := E.1.1
  have hb := E.1.2.1
  unfold f_X9_loggedRows at h
  refine lv_aload_n hx hb dX9_loggedRows_0 rfl (lv_at hl 0 rfl) ?_
  refine zg (v := .int (M k 14)) E hZ (xb_X9 hk) ((xe_X9 hk) _) kc_X9 14 (by decide) kw_109 rfl rfl dX9_loggedRows_1 ?_
  refine lv_bipush (v := 60) hx hb dX9_loggedRows_4 (by decide) ?_
  refine va_mmin hx hb (E.1.2.2.1.trans hl.1.symm) E.1.2.2.2.1 (E.w kw_571) (E.w kw_540) (E.w kw_16) (E.w kw_541) (Nat.le_of_ble_eq_true rfl) (Nat.le_of_ble_eq_true rfl) (Nat.le_of_ble_eq_true rfl) (Nat.le_of_ble_eq_true rfl) dX9_loggedRows_6 ?_
  refine zni h (fun v_1 ev_1 h => ?_)
  exact hret _ _ _ _ _ _ ⟨Option.some.inj h, hM⟩ rfl hZ dX9_loggedRows_9
theorem c_X9_loggedRows (l : Launch) (g : zG) (M : zM) (k : Nat) (hk : xk k = 8)  {r : Int32} (h : f_X9_loggedRows M k = some r) : zMi l g xE 125 yX9_loggedRows (zWs yX9_loggedRows cX9_loggedRows 1 (some .int)) 3 [.ref (g.2.2 k)] M (fun v M1 => v = r ∧ M1 = M) :=
  zMi_of (by decide +kernel) (Nat.le_of_ble_eq_true rfl) (fun p e s m args below meth c Q ls E hret hZ hl => w_X9_loggedRows g k hk E hret M rfl  _ _ ls h hZ hl)
theorem v_X9_loggedRows : zYV yX9_loggedRows cX9_loggedRows 1 (some .int) 0 := ⟨kw_570, kw_3, kw_568, kw_569, by decide +kernel⟩

def f_X9_row (M : zM) (k : Nat) (x1 : Int32) : Option (Int32) :=
  zck (decide (¬ (60 : Int32) = 0)) (zbn (f_X10_at M (k + 5) ((((M k 14) - 1) - x1) - (((M k 14) - 1) - x1) / 60 * 60)) (fun u_1 => some u_1))
set_option maxRecDepth 100000 in
set_option maxHeartbeats 4000000 in
theorem w_X9_row (g : zG)  (k : Nat) (hk : xk k = 8) {r : Int32} {M0 : zM} (E : zX g p m c cX9_row 2 s args (zWs yX9_row cX9_row 2 (some .int)) RX9) (hret : zRi g xE 125 p l e (zrm 3 0 0) s m args below meth c 0 0 Q cX9_row .int (fun v M1 => v = r ∧ M1 = M0)) (M : zM) (hM : M = M0) (x1 : Int32) (H : Heap) (locs : List Loc) (ls : Array Slot) (h : f_X9_row M k x1 = some r) (hZ : zS g xE 125 s H locs M) (hl : lv_has ls 2 [(0, .ref (g.2.2 k)), (1, .int x1)]) : W p l e (zrm 3 0 0) s m args below meth c H locs 0 0 Q (F0 m 0 ls []) := by
  have hx := E.1.1
  have hb := E.1.2.1
  unfold f_X9_row at h
  refine lv_aload_n hx hb dX9_row_0 rfl (lv_at hl 0 rfl) ?_
  refine zg (v := .ref (g.2.2 (k + 5))) E hZ (xb_X9 hk) ((xe_X9 hk) _) kc_X9 19 (by decide) kw_119 rfl rfl dX9_row_1 ?_
  refine lv_aload_n hx hb dX9_row_4 rfl (lv_at hl 0 rfl) ?_
  refine zg (v := .int (M k 14)) E hZ (xb_X9 hk) ((xe_X9 hk) _) kc_X9 14 (by decide) kw_109 rfl rfl dX9_row_5 ?_
  refine lv_iconst (v := 1) hx hb dX9_row_8 (by decide) ?_
  refine lv_isub hx hb dX9_row_9 ?_
  refine lv_iload_n hx hb dX9_row_10 rfl (lv_at hl 1 rfl) ?_
  refine lv_isub hx hb dX9_row_11 ?_
  refine lv_bipush (v := 60) hx hb dX9_row_12 (by decide) ?_
  refine zrem h E dX9_row_14 (fun h => ?_)
  obtain ⟨u_1, qu_1, h⟩ := zbn_some h
  refine zciR (zrunSN E hZ v_X10_at kw_425 (c_X10_at l g M (k + 5) (xc_X9_logRows hk).1 ((((M k 14) - 1) - x1) - (((M k 14) - 1) - x1) / 60 * 60) qu_1 _) rfl hl.1 rfl (Nat.le_of_ble_eq_true rfl) ⟨by decide, by decide⟩ ⟨by decide, by decide⟩ dX9_row_15) hZ (fun H locs hZ => ?_)
  exact hret _ _ _ _ _ _ ⟨Option.some.inj h, hM⟩ rfl hZ dX9_row_18
theorem c_X9_row (l : Launch) (g : zG) (M : zM) (k : Nat) (hk : xk k = 8) (x1 : Int32) {r : Int32} (h : f_X9_row M k x1 = some r) : zMi l g xE 125 yX9_row (zWs yX9_row cX9_row 2 (some .int)) 3 [.ref (g.2.2 k), .int x1] M (fun v M1 => v = r ∧ M1 = M) :=
  zMi_of (by decide +kernel) (Nat.le_of_ble_eq_true rfl) (fun p e s m args below meth c Q ls E hret hZ hl => w_X9_row g k hk E hret M rfl x1 _ _ ls h hZ hl)
theorem v_X9_row : zYV yX9_row cX9_row 2 (some .int) 1 := ⟨kw_1338, kw_3, kw_1337, kp_39, by decide +kernel⟩

def f_X9_loggedHour (M : zM) (k : Nat) (x1 : Int32) : Option (Int32) :=
  zbn (f_X9_row M k x1) (fun u_1 => some (u_1 &&& 16383))
set_option maxRecDepth 100000 in
set_option maxHeartbeats 4000000 in
theorem w_X9_loggedHour (g : zG)  (k : Nat) (hk : xk k = 8) {r : Int32} {M0 : zM} (E : zX g p m c cX9_loggedHour 2 s args (zWs yX9_loggedHour cX9_loggedHour 2 (some .int)) RX9) (hret : zRi g xE 125 p l e (zrm 4 0 0) s m args below meth c 0 0 Q cX9_loggedHour .int (fun v M1 => v = r ∧ M1 = M0)) (M : zM) (hM : M = M0) (x1 : Int32) (H : Heap) (locs : List Loc) (ls : Array Slot) (h : f_X9_loggedHour M k x1 = some r) (hZ : zS g xE 125 s H locs M) (hl : lv_has ls 2 [(0, .ref (g.2.2 k)), (1, .int x1)]) : W p l e (zrm 4 0 0) s m args below meth c H locs 0 0 Q (F0 m 0 ls []) := by
  have hx := E.1.1
  have hb := E.1.2.1
  unfold f_X9_loggedHour at h
  refine lv_aload_n hx hb dX9_loggedHour_0 rfl (lv_at hl 0 rfl) ?_
  refine lv_iload_n hx hb dX9_loggedHour_1 rfl (lv_at hl 1 rfl) ?_
  obtain ⟨u_1, qu_1, h⟩ := zbn_some h
  refine zciR (zrunV E hZ (xb_X9 hk) ((xe_X9 hk) _) rfl rfl v_X9_row kw_1335 (c_X9_row l g M k hk x1 qu_1 _) rfl hl.1 rfl (Nat.le_of_ble_eq_true rfl) ⟨by decide, by decide⟩ ⟨by decide, by decide⟩ dX9_loggedHour_2) hZ (fun H locs hZ => ?_)
  refine lv_sipush (v := 16383) hx hb dX9_loggedHour_5 (by decide) ?_
  refine lv_iand hx hb dX9_loggedHour_8 ?_
  exact hret _ _ _ _ _ _ ⟨Option.some.inj h, hM⟩ rfl hZ dX9_loggedHour_9
theorem c_X9_loggedHour (l : Launch) (g : zG) (M : zM) (k : Nat) (hk : xk k = 8) (x1 : Int32) {r : Int32} (h : f_X9_loggedHour M k x1 = some r) : zMi l g xE 125 yX9_loggedHour (zWs yX9_loggedHour cX9_loggedHour 2 (some .int)) 4 [.ref (g.2.2 k), .int x1] M (fun v M1 => v = r ∧ M1 = M) :=
  zMi_of (by decide +kernel) (Nat.le_of_ble_eq_true rfl) (fun p e s m args below meth c Q ls E hret hZ hl => w_X9_loggedHour g k hk E hret M rfl x1 _ _ ls h hZ hl)
theorem v_X9_loggedHour : zYV yX9_loggedHour cX9_loggedHour 2 (some .int) 1 := ⟨kw_1342, kw_3, kw_1340, kw_1341, by decide +kernel⟩

def f_X9_loggedNumber (M : zM) (k : Nat) (x1 : Int32) : Option (Int32) :=
  zbn (f_X9_row M k x1) (fun u_1 => some ((u_1 >>> ((14 : Int32) &&& 31)) &&& 7))
set_option maxRecDepth 100000 in
set_option maxHeartbeats 4000000 in
theorem w_X9_loggedNumber (g : zG)  (k : Nat) (hk : xk k = 8) {r : Int32} {M0 : zM} (E : zX g p m c cX9_loggedNumber 2 s args (zWs yX9_loggedNumber cX9_loggedNumber 2 (some .int)) RX9) (hret : zRi g xE 125 p l e (zrm 4 0 0) s m args below meth c 0 0 Q cX9_loggedNumber .int (fun v M1 => v = r ∧ M1 = M0)) (M : zM) (hM : M = M0) (x1 : Int32) (H : Heap) (locs : List Loc) (ls : Array Slot) (h : f_X9_loggedNumber M k x1 = some r) (hZ : zS g xE 125 s H locs M) (hl : lv_has ls 2 [(0, .ref (g.2.2 k)), (1, .int x1)]) : W p l e (zrm 4 0 0) s m args below meth c H locs 0 0 Q (F0 m 0 ls []) := by
  have hx := E.1.1
  have hb := E.1.2.1
  unfold f_X9_loggedNumber at h
  refine lv_aload_n hx hb dX9_loggedNumber_0 rfl (lv_at hl 0 rfl) ?_
  refine lv_iload_n hx hb dX9_loggedNumber_1 rfl (lv_at hl 1 rfl) ?_
  obtain ⟨u_1, qu_1, h⟩ := zbn_some h
  refine zciR (zrunV E hZ (xb_X9 hk) ((xe_X9 hk) _) rfl rfl v_X9_row kw_1335 (c_X9_row l g M k hk x1 qu_1 _) rfl hl.1 rfl (Nat.le_of_ble_eq_true rfl) ⟨by decide, by decide⟩ ⟨by decide, by decide⟩ dX9_loggedNumber_2) hZ (fun H locs hZ => ?_)
  refine lv_bipush (v := 14) hx hb dX9_loggedNumber_5 (by decide) ?_
  refine lv_ishr hx hb dX9_loggedNumber_7 ?_
  refine lv_bipush (v := 7) hx hb dX9_loggedNumber_8 (by decide) ?_
  refine lv_iand hx hb dX9_loggedNumber_10 ?_
  exact hret _ _ _ _ _ _ ⟨Option.some.inj h, hM⟩ rfl hZ dX9_loggedNumber_11
theorem c_X9_loggedNumber (l : Launch) (g : zG) (M : zM) (k : Nat) (hk : xk k = 8) (x1 : Int32) {r : Int32} (h : f_X9_loggedNumber M k x1 = some r) : zMi l g xE 125 yX9_loggedNumber (zWs yX9_loggedNumber cX9_loggedNumber 2 (some .int)) 4 [.ref (g.2.2 k), .int x1] M (fun v M1 => v = r ∧ M1 = M) :=
  zMi_of (by decide +kernel) (Nat.le_of_ble_eq_true rfl) (fun p e s m args below meth c Q ls E hret hZ hl => w_X9_loggedNumber g k hk E hret M rfl x1 _ _ ls h hZ hl)
theorem v_X9_loggedNumber : zYV yX9_loggedNumber cX9_loggedNumber 2 (some .int) 1 := ⟨kw_1353, kw_3, kw_1351, kw_1352, by decide +kernel⟩

def f_X9_loggedKind (M : zM) (k : Nat) (x1 : Int32) : Option (Int32) :=
  zbn (f_X9_row M k x1) (fun u_1 => some ((u_1 >>> ((17 : Int32) &&& 31)) &&& 1))
set_option maxRecDepth 100000 in
set_option maxHeartbeats 4000000 in
theorem w_X9_loggedKind (g : zG)  (k : Nat) (hk : xk k = 8) {r : Int32} {M0 : zM} (E : zX g p m c cX9_loggedKind 2 s args (zWs yX9_loggedKind cX9_loggedKind 2 (some .int)) RX9) (hret : zRi g xE 125 p l e (zrm 4 0 0) s m args below meth c 0 0 Q cX9_loggedKind .int (fun v M1 => v = r ∧ M1 = M0)) (M : zM) (hM : M = M0) (x1 : Int32) (H : Heap) (locs : List Loc) (ls : Array Slot) (h : f_X9_loggedKind M k x1 = some r) (hZ : zS g xE 125 s H locs M) (hl : lv_has ls 2 [(0, .ref (g.2.2 k)), (1, .int x1)]) : W p l e (zrm 4 0 0) s m args below meth c H locs 0 0 Q (F0 m 0 ls []) := by
  have hx := E.1.1
  have hb := E.1.2.1
  unfold f_X9_loggedKind at h
  refine lv_aload_n hx hb dX9_loggedKind_0 rfl (lv_at hl 0 rfl) ?_
  refine lv_iload_n hx hb dX9_loggedKind_1 rfl (lv_at hl 1 rfl) ?_
  obtain ⟨u_1, qu_1, h⟩ := zbn_some h
  refine zciR (zrunV E hZ (xb_X9 hk) ((xe_X9 hk) _) rfl rfl v_X9_row kw_1335 (c_X9_row l g M k hk x1 qu_1 _) rfl hl.1 rfl (Nat.le_of_ble_eq_true rfl) ⟨by decide, by decide⟩ ⟨by decide, by decide⟩ dX9_loggedKind_2) hZ (fun H locs hZ => ?_)
  refine lv_bipush (v := 17) hx hb dX9_loggedKind_5 (by decide) ?_
  refine lv_ishr hx hb dX9_loggedKind_7 ?_
  refine lv_iconst (v := 1) hx hb dX9_loggedKind_8 (by decide) ?_
  refine lv_iand hx hb dX9_loggedKind_9 ?_
  exact hret _ _ _ _ _ _ ⟨Option.some.inj h, hM⟩ rfl hZ dX9_loggedKind_10
theorem c_X9_loggedKind (l : Launch) (g : zG) (M : zM) (k : Nat) (hk : xk k = 8) (x1 : Int32) {r : Int32} (h : f_X9_loggedKind M k x1 = some r) : zMi l g xE 125 yX9_loggedKind (zWs yX9_loggedKind cX9_loggedKind 2 (some .int)) 4 [.ref (g.2.2 k), .int x1] M (fun v M1 => v = r ∧ M1 = M) :=
  zMi_of (by decide +kernel) (Nat.le_of_ble_eq_true rfl) (fun p e s m args below meth c Q ls E hret hZ hl => w_X9_loggedKind g k hk E hret M rfl x1 _ _ ls h hZ hl)
theorem v_X9_loggedKind : zYV yX9_loggedKind cX9_loggedKind 2 (some .int) 1 := ⟨kw_1357, kw_3, kw_1355, kw_1356, by decide +kernel⟩

def f_X9_loggedPlace (M : zM) (k : Nat) (x1 : Int32) : Option (Int32) :=
  zbn (f_X9_row M k x1) (fun u_1 => some ((u_1 >>> ((18 : Int32) &&& 31)) &&& 15))
set_option maxRecDepth 100000 in
set_option maxHeartbeats 4000000 in
theorem w_X9_loggedPlace (g : zG)  (k : Nat) (hk : xk k = 8) {r : Int32} {M0 : zM} (E : zX g p m c cX9_loggedPlace 2 s args (zWs yX9_loggedPlace cX9_loggedPlace 2 (some .int)) RX9) (hret : zRi g xE 125 p l e (zrm 4 0 0) s m args below meth c 0 0 Q cX9_loggedPlace .int (fun v M1 => v = r ∧ M1 = M0)) (M : zM) (hM : M = M0) (x1 : Int32) (H : Heap) (locs : List Loc) (ls : Array Slot) (h : f_X9_loggedPlace M k x1 = some r) (hZ : zS g xE 125 s H locs M) (hl : lv_has ls 2 [(0, .ref (g.2.2 k)), (1, .int x1)]) : W p l e (zrm 4 0 0) s m args below meth c H locs 0 0 Q (F0 m 0 ls []) := by
  have hx := E.1.1
  have hb := E.1.2.1
  unfold f_X9_loggedPlace at h
  refine lv_aload_n hx hb dX9_loggedPlace_0 rfl (lv_at hl 0 rfl) ?_
  refine lv_iload_n hx hb dX9_loggedPlace_1 rfl (lv_at hl 1 rfl) ?_
  obtain ⟨u_1, qu_1, h⟩ := zbn_some h
  refine zciR (zrunV E hZ (xb_X9 hk) ((xe_X9 hk) _) rfl rfl v_X9_row kw_1335 (c_X9_row l g M k hk x1 qu_1 _) rfl hl.1 rfl (Nat.le_of_ble_eq_true rfl) ⟨by decide, by decide⟩ ⟨by decide, by decide⟩ dX9_loggedPlace_2) hZ (fun H locs hZ => ?_)
  refine lv_bipush (v := 18) hx hb dX9_loggedPlace_5 (by decide) ?_
  refine lv_ishr hx hb dX9_loggedPlace_7 ?_
  refine lv_bipush (v := 15) hx hb dX9_loggedPlace_8 (by decide) ?_
  refine lv_iand hx hb dX9_loggedPlace_10 ?_
  exact hret _ _ _ _ _ _ ⟨Option.some.inj h, hM⟩ rfl hZ dX9_loggedPlace_11
theorem c_X9_loggedPlace (l : Launch) (g : zG) (M : zM) (k : Nat) (hk : xk k = 8) (x1 : Int32) {r : Int32} (h : f_X9_loggedPlace M k x1 = some r) : zMi l g xE 125 yX9_loggedPlace (zWs yX9_loggedPlace cX9_loggedPlace 2 (some .int)) 4 [.ref (g.2.2 k), .int x1] M (fun v M1 => v = r ∧ M1 = M) :=
  zMi_of (by decide +kernel) (Nat.le_of_ble_eq_true rfl) (fun p e s m args below meth c Q ls E hret hZ hl => w_X9_loggedPlace g k hk E hret M rfl x1 _ _ ls h hZ hl)
theorem v_X9_loggedPlace : zYV yX9_loggedPlace cX9_loggedPlace 2 (some .int) 1 := ⟨kw_1334, kw_3, kw_1332, kw_1333, by decide +kernel⟩

end
