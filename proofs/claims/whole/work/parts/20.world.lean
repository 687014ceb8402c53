section
variable {p : Program} {l : Launch} {e : Env} {s : State} {m : MethodId} {args : Array Value} {below : List Frame} {meth : Method} {c : Code} {Q : State → Prop}

def f_X10_copyRow (M : zM) (o0 : Nat) (o1 : Nat) : Option (zM) :=
  znm (if (Int32.ofNat (xl o1)) < (Int32.ofNat (xl o0)) then (Int32.ofNat (xl o1)) else (Int32.ofNat (xl o0))) (fun v_1 => zck (zcp 0 0 v_1 (xl o0) (xl o1)) (znm (va_up M o1 (va_cpy (M o0) (M o1) (0 : Int32).toNatClampNeg (0 : Int32).toNatClampNeg (v_1 : Int32).toNatClampNeg)) (fun M_2 => some M_2)))
set_option maxRecDepth 100000 in
set_option maxHeartbeats 4000000 in
theorem w_X10_copyRow (g : zG) (o0 : Nat) (ho0 : xk o0 = 20) (o1 : Nat) (ho1 : xk o1 = 20) {r : zM} (E : zX g p m c cX10_copyRow 2 s args (zWs yX10_copyRow cX10_copyRow 2 none) RX10) (hret : zRv g xE 125 p l e (zrm 3 0 0) s m args below meth c 0 0 Q cX10_copyRow (fun M1 => M1 = r)) (M : zM)  (H : Heap) (locs : List Loc) (ls : Array Slot) (h : f_X10_copyRow M o0 o1 = some r) (hZ : zS g xE 125 s H locs M) (hl : lv_has ls 2 [(0, .ref (g.2.2 o0)), (1, .ref (g.2.2 o1))]) : W p l e (zrm 3 0 0) s m args below meth c H locs 0 0 Q (F0 m 0 ls []) := by
  have hx := E.1.1
  have hb := E.1.2.1
  unfold f_X10_copyRow at h
  refine lv_aload_n hx hb dX10_copyRow_0 rfl (lv_at hl 0 rfl) ?_
  refine lv_iconst (v := 0) hx hb dX10_copyRow_1 (by decide) ?_
  refine lv_aload_n hx hb dX10_copyRow_2 rfl (lv_at hl 1 rfl) ?_
  refine lv_iconst (v := 0) hx hb dX10_copyRow_3 (by decide) ?_
  refine lv_aload_n hx hb dX10_copyRow_4 rfl (lv_at hl 0 rfl) ?_
  refine zal E hZ 0 rfl (xb_I ho0) (xe_I ho0) rfl dX10_copyRow_5 ?_
  refine lv_aload_n hx hb dX10_copyRow_6 rfl (lv_at hl 1 rfl) ?_
  refine zal E hZ 0 rfl (xb_I ho1) (xe_I ho1) rfl dX10_copyRow_7 ?_
  refine va_mmin hx hb (E.1.2.2.1.trans hl.1.symm) E.1.2.2.2.1 (E.w kw_539) (E.w kw_540) (E.w kw_16) (E.w kw_541) (Nat.le_of_ble_eq_true rfl) (Nat.le_of_ble_eq_true rfl) (Nat.le_of_ble_eq_true rfl) (Nat.le_of_ble_eq_true rfl) dX10_copyRow_8 ?_
  refine zni h (fun v_1 ev_1 h => ?_)
  refine zcopy h E hZ (xb_I ho0) (xe_I ho0) (xb_I ho1) (xe_I ho1) (E.w kw_542) (E.w kw_544) (E.w kw_543) (E.w kw_17) hl.1 (Nat.le_of_ble_eq_true rfl) (Nat.le_of_ble_eq_true rfl) dX10_copyRow_11 (fun M_2 H locs eM_2 h hZ => ?_)
  exact hret _ _ _ _ _ (Option.some.inj h) hZ dX10_copyRow_14
theorem c_X10_copyRow (l : Launch) (g : zG) (M : zM) (o0 : Nat) (ho0 : xk o0 = 20) (o1 : Nat) (ho1 : xk o1 = 20)  {r : zM} (h : f_X10_copyRow M o0 o1 = some r) : zMv l g xE 125 yX10_copyRow (zWs yX10_copyRow cX10_copyRow 2 none) 3 [.ref (g.2.2 o0), .ref (g.2.2 o1)] M (fun M1 => M1 = r) :=
  zMv_of (by decide) (Nat.le_of_ble_eq_true rfl) (fun p e s m args below meth c Q ls E hret hZ hl => w_X10_copyRow g o0 ho0 o1 ho1 E hret M  _ _ ls h hZ hl)
theorem v_X10_copyRow : zYS yX10_copyRow cX10_copyRow 2 none 2 := ⟨kw_538, kw_1, kw_537, by decide +kernel⟩

def f_X9_copyFrom (M : zM) (k : Nat) (o1 : Nat) : Option (zM) :=
  znm (zu M k 0 (M o1 0)) (fun M_1 => znm (zu M_1 k 1 (M_1 o1 1)) (fun M_2 => znm (zu M_2 k 2 (M_2 o1 2)) (fun M_3 => znm (zu M_3 k 3 (M_3 o1 3)) (fun M_4 => znm (zu M_4 k 4 (M_4 o1 4)) (fun M_5 => znm (zu M_5 k 5 (M_5 o1 5)) (fun M_6 => znm (zu M_6 k 6 (M_6 o1 6)) (fun M_7 => znm (zu M_7 k 7 (M_7 o1 7)) (fun M_8 => znm (zu M_8 k 8 (M_8 o1 8)) (fun M_9 => znm (zu M_9 k 9 (M_9 o1 9)) (fun M_10 => znm (zu M_10 k 10 (M_10 o1 10)) (fun M_11 => znm (zu M_11 k 11 (M_11 o1 11)) (fun M_12 => znm (zu M_12 k 12 (M_12 o1 12)) (fun M_13 => znm (zu M_13 k 13 (M_13 o1 13)) (fun M_14 => znm (zu M_14 k 14 (M_14 o1 14)) (fun M_15 => zbn (f_X10_copyRow M_15 (o1 + 1) (k + 1)) (fun u_16 => zbn (f_X10_copyRow u_16 (o1 + 2) (k + 2)) (fun u_17 => zbn (f_X10_copyRow u_17 (o1 + 3) (k + 3)) (fun u_18 => zbn (f_X10_copyRow u_18 (o1 + 4) (k + 4)) (fun u_19 => zbn (f_X10_copyRow u_19 (o1 + 5) (k + 5)) (fun u_20 => some u_20))))))))))))))))))))
set_option maxRecDepth 100000 in
set_option maxHeartbeats 4000000 in
theorem w_X9_copyFrom (g : zG) (k : Nat) (hk : xk k = 8) (o1 : Nat) (ho1 : xk o1 = 8) {r : zM} (E : zX g p m c cX9_copyFrom 2 s args (zWs yX9_copyFrom cX9_copyFrom 2 none) RX9) (hret : zRv g xE 125 p l e (zrm 4 0 0) s m args below meth c 0 0 Q cX9_copyFrom (fun M1 => M1 = r)) (M : zM)  (H : Heap) (locs : List Loc) (ls : Array Slot) (h : f_X9_copyFrom M k o1 = some r) (hZ : zS g xE 125 s H locs M) (hl : lv_has ls 2 [(0, .ref (g.2.2 k)), (1, .ref (g.2.2 o1))]) : W p l e (zrm 4 0 0) s m args below meth c H locs 0 0 Q (F0 m 0 ls []) := by
  have hx := E.1.1
  have hb := E.1.2.1
  unfold f_X9_copyFrom at h
  refine lv_aload_n hx hb dX9_copyFrom_0 rfl (lv_at hl 0 rfl) ?_
  refine lv_aload_n hx hb dX9_copyFrom_1 rfl (lv_at hl 1 rfl) ?_
  refine zg (v := .int (M o1 0)) E hZ (xb_X9 ho1) ((xe_X9 ho1) _) kc_X9 0 (by decide) kw_60 rfl rfl dX9_copyFrom_2 ?_
  refine zp h E hZ (xb_X9 hk) ((xe_X9 hk) _) (((xe_X9 hk) _).trans (congrArg (fun z => Sum.inr (8, z)) (fs_X9_0 g _ _ _))) kc_X9 (by decide) kw_60 rfl rfl rfl (Nat.le_of_ble_eq_true rfl) dX9_copyFrom_5 (fun M_1 H locs eM_1 h hZ => ?_)
  refine lv_aload_n hx hb dX9_copyFrom_8 rfl (lv_at hl 0 rfl) ?_
  refine lv_aload_n hx hb dX9_copyFrom_9 rfl (lv_at hl 1 rfl) ?_
  refine zg (v := .int (M_1 o1 1)) E hZ (xb_X9 ho1) ((xe_X9 ho1) _) kc_X9 1 (by decide) kw_66 rfl rfl dX9_copyFrom_10 ?_
  refine zp h E hZ (xb_X9 hk) ((xe_X9 hk) _) (((xe_X9 hk) _).trans (congrArg (fun z => Sum.inr (8, z)) (fs_X9_1 g _ _ _))) kc_X9 (by decide) kw_66 rfl rfl rfl (Nat.le_of_ble_eq_true rfl) dX9_copyFrom_13 (fun M_2 H locs eM_2 h hZ => ?_)
  refine lv_aload_n hx hb dX9_copyFrom_16 rfl (lv_at hl 0 rfl) ?_
  refine lv_aload_n hx hb dX9_copyFrom_17 rfl (lv_at hl 1 rfl) ?_
  refine zg (v := .int (M_2 o1 2)) E hZ (xb_X9 ho1) ((xe_X9 ho1) _) kc_X9 2 (by decide) kw_69 rfl rfl dX9_copyFrom_18 ?_
  refine zp h E hZ (xb_X9 hk) ((xe_X9 hk) _) (((xe_X9 hk) _).trans (congrArg (fun z => Sum.inr (8, z)) (fs_X9_2 g _ _ _))) kc_X9 (by decide) kw_69 rfl rfl rfl (Nat.le_of_ble_eq_true rfl) dX9_copyFrom_21 (fun M_3 H locs eM_3 h hZ => ?_)
  refine lv_aload_n hx hb dX9_copyFrom_24 rfl (lv_at hl 0 rfl) ?_
  refine lv_aload_n hx hb dX9_copyFrom_25 rfl (lv_at hl 1 rfl) ?_
  refine zg (v := .int (M_3 o1 3)) E hZ (xb_X9 ho1) ((xe_X9 ho1) _) kc_X9 3 (by decide) kw_71 rfl rfl dX9_copyFrom_26 ?_
  refine zp h E hZ (xb_X9 hk) ((xe_X9 hk) _) (((xe_X9 hk) _).trans (congrArg (fun z => Sum.inr (8, z)) (fs_X9_3 g _ _ _))) kc_X9 (by decide) kw_71 rfl rfl rfl (Nat.le_of_ble_eq_true rfl) dX9_copyFrom_29 (fun M_4 H locs eM_4 h hZ => ?_)
  refine lv_aload_n hx hb dX9_copyFrom_32 rfl (lv_at hl 0 rfl) ?_
  refine lv_aload_n hx hb dX9_copyFrom_33 rfl (lv_at hl 1 rfl) ?_
  refine zg (v := .int (M_4 o1 4)) E hZ (xb_X9 ho1) ((xe_X9 ho1) _) kc_X9 4 (by decide) kw_74 rfl rfl dX9_copyFrom_34 ?_
  refine zp h E hZ (xb_X9 hk) ((xe_X9 hk) _) (((xe_X9 hk) _).trans (congrArg (fun z => Sum.inr (8, z)) (fs_X9_4 g _ _ _))) kc_X9 (by decide) kw_74 rfl rfl rfl (Nat.le_of_ble_eq_true rfl) dX9_copyFrom_37 (fun M_5 H locs eM_5 h hZ => ?_)
  refine lv_aload_n hx hb dX9_copyFrom_40 rfl (lv_at hl 0 rfl) ?_
  refine lv_aload_n hx hb dX9_copyFrom_41 rfl (lv_at hl 1 rfl) ?_
  refine zg (v := .int (M_5 o1 5)) E hZ (xb_X9 ho1) ((xe_X9 ho1) _) kc_X9 5 (by decide) kw_77 rfl rfl dX9_copyFrom_42 ?_
  refine zp h E hZ (xb_X9 hk) ((xe_X9 hk) _) (((xe_X9 hk) _).trans (congrArg (fun z => Sum.inr (8, z)) (fs_X9_5 g _ _ _))) kc_X9 (by decide) kw_77 rfl rfl rfl (Nat.le_of_ble_eq_true rfl) dX9_copyFrom_45 (fun M_6 H locs eM_6 h hZ => ?_)
  refine lv_aload_n hx hb dX9_copyFrom_48 rfl (lv_at hl 0 rfl) ?_
  refine lv_aload_n hx hb dX9_copyFrom_49 rfl (lv_at hl 1 rfl) ?_
  refine zg (v := .int (M_6 o1 6)) E hZ (xb_X9 ho1) ((xe_X9 ho1) _) kc_X9 6 (by decide) kw_81 rfl rfl dX9_copyFrom_50 ?_
  refine zp h E hZ (xb_X9 hk) ((xe_X9 hk) _) (((xe_X9 hk) _).trans (congrArg (fun z => Sum.inr (8, z)) (fs_X9_6 g _ _ _))) kc_X9 (by decide) kw_81 rfl rfl rfl (Nat.le_of_ble_eq_true rfl) dX9_copyFrom_53 (fun M_7 H locs eM_7 h hZ => ?_)
  refine lv_aload_n hx hb dX9_copyFrom_56 rfl (lv_at hl 0 rfl) ?_
  refine lv_aload_n hx hb dX9_copyFrom_57 rfl (lv_at hl 1 rfl) ?_
  refine zg (v := .int (M_7 o1 7)) E hZ (xb_X9 ho1) ((xe_X9 ho1) _) kc_X9 7 (by decide) kw_84 rfl rfl dX9_copyFrom_58 ?_
  refine zp h E hZ (xb_X9 hk) ((xe_X9 hk) _) (((xe_X9 hk) _).trans (congrArg (fun z => Sum.inr (8, z)) (fs_X9_7 g _ _ _))) kc_X9 (by decide) kw_84 rfl rfl rfl (Nat.le_of_ble_eq_true rfl) dX9_copyFrom_61 (fun M_8 H locs eM_8 h hZ => ?_)
  refine lv_aload_n hx hb dX9_copyFrom_64 rfl (lv_at hl 0 rfl) ?_
  refine lv_aload_n hx hb dX9_copyFrom_65 rfl (lv_at hl 1 rfl) ?_
  refine zg (v := .int (M_8 o1 8)) E hZ (xb_X9 ho1) ((xe_X9 ho1) _) kc_X9 8 (by decide) kw_87 rfl rfl dX9_copyFrom_66 ?_
  refine zp h E hZ (xb_X9 hk) ((xe_X9 hk) _) (((xe_X9 hk) _).trans (congrArg (fun z => Sum.inr (8, z)) (fs_X9_8 g _ _ _))) kc_X9 (by decide) kw_87 rfl rfl rfl (Nat.le_of_ble_eq_true rfl) dX9_copyFrom_69 (fun M_9 H locs eM_9 h hZ => ?_)
  refine lv_aload_n hx hb dX9_copyFrom_72 rfl (lv_at hl 0 rfl) ?_
  refine lv_aload_n hx hb dX9_copyFrom_73 rfl (lv_at hl 1 rfl) ?_
  refine zg (v := .int (M_9 o1 9)) E hZ (xb_X9 ho1) ((xe_X9 ho1) _) kc_X9 9 (by decide) kw_90 rfl rfl dX9_copyFrom_74 ?_
  refine zp h E hZ (xb_X9 hk) ((xe_X9 hk) _) (((xe_X9 hk) _).trans (congrArg (fun z => Sum.inr (8, z)) (fs_X9_9 g _ _ _))) kc_X9 (by decide) kw_90 rfl rfl rfl (Nat.le_of_ble_eq_true rfl) dX9_copyFrom_77 (fun M_10 H locs eM_10 h hZ => ?_)
  refine lv_aload_n hx hb dX9_copyFrom_80 rfl (lv_at hl 0 rfl) ?_
  refine lv_aload_n hx hb dX9_copyFrom_81 rfl (lv_at hl 1 rfl) ?_
  refine zg (v := .int (M_10 o1 10)) E hZ (xb_X9 ho1) ((xe_X9 ho1) _) kc_X9 10 (by decide) kw_92 rfl rfl dX9_copyFrom_82 ?_
  refine zp h E hZ (xb_X9 hk) ((xe_X9 hk) _) (((xe_X9 hk) _).trans (congrArg (fun z => Sum.inr (8, z)) (fs_X9_10 g _ _ _))) kc_X9 (by decide) kw_92 rfl rfl rfl (Nat.le_of_ble_eq_true rfl) dX9_copyFrom_85 (fun M_11 H locs eM_11 h hZ => ?_)
  refine lv_aload_n hx hb dX9_copyFrom_88 rfl (lv_at hl 0 rfl) ?_
  refine lv_aload_n hx hb dX9_copyFrom_89 rfl (lv_at hl 1 rfl) ?_
  refine zg (v := .int (M_11 o1 11)) E hZ (xb_X9 ho1) ((xe_X9 ho1) _) kc_X9 11 (by decide) kw_97 rfl rfl dX9_copyFrom_90 ?_
  refine zp h E hZ (xb_X9 hk) ((xe_X9 hk) _) (((xe_X9 hk) _).trans (congrArg (fun z => Sum.inr (8, z)) (fs_X9_11 g _ _ _))) kc_X9 (by decide) kw_97 rfl rfl rfl (Nat.le_of_ble_eq_true rfl) dX9_copyFrom_93 (fun M_12 H locs eM_12 h hZ => ?_)
  refine lv_aload_n hx hb dX9_copyFrom_96 rfl (lv_at hl 0 rfl) ?_
  refine lv_aload_n hx hb dX9_copyFrom_97 rfl (lv_at hl 1 rfl) ?_
  refine zg (v := .int (M_12 o1 12)) E hZ (xb_X9 ho1) ((xe_X9 ho1) _) kc_X9 12 (by decide) kw_102 rfl rfl dX9_copyFrom_98 ?_
  refine zp h E hZ (xb_X9 hk) ((xe_X9 hk) _) (((xe_X9 hk) _).trans (congrArg (fun z => Sum.inr (8, z)) (fs_X9_12 g _ _ _))) kc_X9 (by decide) kw_102 rfl rfl rfl (Nat.le_of_ble_eq_true rfl) dX9_copyFrom_101 (fun M_13 H locs eM_13 h hZ => ?_)
  refine lv_aload_n hx hb dX9_copyFrom_104 rfl (lv_at hl 0 rfl) ?_
  refine lv_aload_n hx hb dX9_copyFrom_105 rfl (lv_at hl 1 rfl) ?_
  refine zg (v := .int (M_13 o1 13)) E hZ (xb_X9 ho1) ((xe_X9 ho1) _) kc_X9 13 (by decide) kw_105 rfl rfl dX9_copyFrom_106 ?_
  refine zp h E hZ (xb_X9 hk) ((xe_X9 hk) _) (((xe_X9 hk) _).trans (congrArg (fun z => Sum.inr (8, z)) (fs_X9_13 g _ _ _))) kc_X9 (by decide) kw_105 rfl rfl rfl (Nat.le_of_ble_eq_true rfl) dX9_copyFrom_109 (fun M_14 H locs eM_14 h hZ => ?_)
  refine lv_aload_n hx hb dX9_copyFrom_112 rfl (lv_at hl 0 rfl) ?_
  refine lv_aload_n hx hb dX9_copyFrom_113 rfl (lv_at hl 1 rfl) ?_
  refine zg (v := .int (M_14 o1 14)) E hZ (xb_X9 ho1) ((xe_X9 ho1) _) kc_X9 14 (by decide) kw_109 rfl rfl dX9_copyFrom_114 ?_
  refine zp h E hZ (xb_X9 hk) ((xe_X9 hk) _) (((xe_X9 hk) _).trans (congrArg (fun z => Sum.inr (8, z)) (fs_X9_14 g _ _ _))) kc_X9 (by decide) kw_109 rfl rfl rfl (Nat.le_of_ble_eq_true rfl) dX9_copyFrom_117 (fun M_15 H locs eM_15 h hZ => ?_)
  refine lv_aload_n hx hb dX9_copyFrom_120 rfl (lv_at hl 1 rfl) ?_
  refine zg (v := .ref (g.2.2 (o1 + 1))) E hZ (xb_X9 ho1) ((xe_X9 ho1) _) kc_X9 15 (by decide) kw_110 rfl rfl dX9_copyFrom_121 ?_
  refine lv_aload_n hx hb dX9_copyFrom_124 rfl (lv_at hl 0 rfl) ?_
  refine zg (v := .ref (g.2.2 (k + 1))) E hZ (xb_X9 hk) ((xe_X9 hk) _) kc_X9 15 (by decide) kw_110 rfl rfl dX9_copyFrom_125 ?_
  obtain ⟨u_16, qu_16, h⟩ := zbn_some h
  refine zcvS (zrunSN E hZ v_X10_copyRow kw_536 (c_X10_copyRow l g M_15 (o1 + 1) (xc_X9_ground ho1).1 (k + 1) (xc_X9_ground hk).1  qu_16 _) rfl hl.1 rfl (Nat.le_of_ble_eq_true rfl) ⟨by decide, by decide⟩ ⟨Nat.le_refl _, Nat.le_refl _⟩ dX9_copyFrom_128) hZ (fun H locs hZ => ?_)
  refine lv_aload_n hx hb dX9_copyFrom_131 rfl (lv_at hl 1 rfl) ?_
  refine zg (v := .ref (g.2.2 (o1 + 2))) E hZ (xb_X9 ho1) ((xe_X9 ho1) _) kc_X9 16 (by decide) kw_114 rfl rfl dX9_copyFrom_132 ?_
  refine lv_aload_n hx hb dX9_copyFrom_135 rfl (lv_at hl 0 rfl) ?_
  refine zg (v := .ref (g.2.2 (k + 2))) E hZ (xb_X9 hk) ((xe_X9 hk) _) kc_X9 16 (by decide) kw_114 rfl rfl dX9_copyFrom_136 ?_
  obtain ⟨u_17, qu_17, h⟩ := zbn_some h
  refine zcvS (zrunSN E hZ v_X10_copyRow kw_536 (c_X10_copyRow l g u_16 (o1 + 2) (xc_X9_errors ho1).1 (k + 2) (xc_X9_errors hk).1  qu_17 _) rfl hl.1 rfl (Nat.le_of_ble_eq_true rfl) ⟨by decide, by decide⟩ ⟨Nat.le_refl _, Nat.le_refl _⟩ dX9_copyFrom_139) hZ (fun H locs hZ => ?_)
  refine lv_aload_n hx hb dX9_copyFrom_142 rfl (lv_at hl 1 rfl) ?_
  refine zg (v := .ref (g.2.2 (o1 + 3))) E hZ (xb_X9 ho1) ((xe_X9 ho1) _) kc_X9 17 (by decide) kw_117 rfl rfl dX9_copyFrom_143 ?_
  refine lv_aload_n hx hb dX9_copyFrom_146 rfl (lv_at hl 0 rfl) ?_
  refine zg (v := .ref (g.2.2 (k + 3))) E hZ (xb_X9 hk) ((xe_X9 hk) _) kc_X9 17 (by decide) kw_117 rfl rfl dX9_copyFrom_147 ?_
  obtain ⟨u_18, qu_18, h⟩ := zbn_some h
  refine zcvS (zrunSN E hZ v_X10_copyRow kw_536 (c_X10_copyRow l g u_17 (o1 + 3) (xc_X9_monkCells ho1).1 (k + 3) (xc_X9_monkCells hk).1  qu_18 _) rfl hl.1 rfl (Nat.le_of_ble_eq_true rfl) ⟨by decide, by decide⟩ ⟨Nat.le_refl _, Nat.le_refl _⟩ dX9_copyFrom_150) hZ (fun H locs hZ => ?_)
  refine lv_aload_n hx hb dX9_copyFrom_153 rfl (lv_at hl 1 rfl) ?_
  refine zg (v := .ref (g.2.2 (o1 + 4))) E hZ (xb_X9 ho1) ((xe_X9 ho1) _) kc_X9 18 (by decide) kw_118 rfl rfl dX9_copyFrom_154 ?_
  refine lv_aload_n hx hb dX9_copyFrom_157 rfl (lv_at hl 0 rfl) ?_
  refine zg (v := .ref (g.2.2 (k + 4))) E hZ (xb_X9 hk) ((xe_X9 hk) _) kc_X9 18 (by decide) kw_118 rfl rfl dX9_copyFrom_158 ?_
  obtain ⟨u_19, qu_19, h⟩ := zbn_some h
  refine zcvS (zrunSN E hZ v_X10_copyRow kw_536 (c_X10_copyRow l g u_18 (o1 + 4) (xc_X9_dutyCells ho1).1 (k + 4) (xc_X9_dutyCells hk).1  qu_19 _) rfl hl.1 rfl (Nat.le_of_ble_eq_true rfl) ⟨by decide, by decide⟩ ⟨Nat.le_refl _, Nat.le_refl _⟩ dX9_copyFrom_161) hZ (fun H locs hZ => ?_)
  refine lv_aload_n hx hb dX9_copyFrom_164 rfl (lv_at hl 1 rfl) ?_
  refine zg (v := .ref (g.2.2 (o1 + 5))) E hZ (xb_X9 ho1) ((xe_X9 ho1) _) kc_X9 19 (by decide) kw_119 rfl rfl dX9_copyFrom_165 ?_
  refine lv_aload_n hx hb dX9_copyFrom_168 rfl (lv_at hl 0 rfl) ?_
  refine zg (v := .ref (g.2.2 (k + 5))) E hZ (xb_X9 hk) ((xe_X9 hk) _) kc_X9 19 (by decide) kw_119 rfl rfl dX9_copyFrom_169 ?_
  obtain ⟨u_20, qu_20, h⟩ := zbn_some h
  refine zcvS (zrunSN E hZ v_X10_copyRow kw_536 (c_X10_copyRow l g u_19 (o1 + 5) (xc_X9_logRows ho1).1 (k + 5) (xc_X9_logRows hk).1  qu_20 _) rfl hl.1 rfl (Nat.le_of_ble_eq_true rfl) ⟨by decide, by decide⟩ ⟨Nat.le_refl _, Nat.le_refl _⟩ dX9_copyFrom_172) hZ (fun H locs hZ => ?_)
  exact hret _ _ _ _ _ (Option.some.inj h) hZ dX9_copyFrom_175
theorem c_X9_copyFrom (l : Launch) (g : zG) (M : zM) (k : Nat) (hk : xk k = 8) (o1 : Nat) (ho1 : xk o1 = 8)  {r : zM} (h : f_X9_copyFrom M k o1 = some r) : zMv l g xE 125 yX9_copyFrom (zWs yX9_copyFrom cX9_copyFrom 2 none) 4 [.ref (g.2.2 k), .ref (g.2.2 o1)] M (fun M1 => M1 = r) :=
  zMv_of (by decide) (Nat.le_of_ble_eq_true rfl) (fun p e s m args below meth c Q ls E hret hZ hl => w_X9_copyFrom g k hk o1 ho1 E hret M  _ _ ls h hZ hl)
theorem v_X9_copyFrom : zYV yX9_copyFrom cX9_copyFrom 2 none 1 := ⟨kw_535, kw_3, kw_533, kw_534, by decide +kernel⟩

def f_X9_monkCell (M : zM) (k : Nat) (x1 : Int32) (x2 : Int32) : Option (Int32) :=
  znm ((x1 * 4) + x2) (fun x3_1 => if x3_1 < 0 then (some 0) else (if 24 ≤ x3_1 then (some 0) else (zck (zin x3_1 24) (some (M (k + 3) (x3_1 : Int32).toNatClampNeg)))))
set_option maxRecDepth 100000 in
set_option maxHeartbeats 4000000 in
theorem w_X9_monkCell (g : zG) (k : Nat) (hk : xk k = 8) {r : Int32} {M0 : zM} (E : zX g p m c cX9_monkCell 4 s args (zWs yX9_monkCell cX9_monkCell 4 (some .int)) RX9) (hret : zRi g xE 125 p l e (zrm 2 0 0) s m args below meth c 0 0 Q cX9_monkCell .int (fun v M1 => v = r ∧ M1 = M0)) (M : zM) (hM : M = M0) (x1 : Int32) (x2 : Int32) (H : Heap) (locs : List Loc) (ls : Array Slot) (h : f_X9_monkCell M k x1 x2 = some r) (hZ : zS g xE 125 s H locs M) (hl : lv_has ls 4 [(0, .ref (g.2.2 k)), (1, .int x1), (2, .int x2)]) : W p l e (zrm 2 0 0) s m args below meth c H locs 0 0 Q (F0 m 0 ls []) := by
  have hx := E.1.1
  have hb := E.1.2.1
  unfold f_X9_monkCell at h
  refine lv_iload_n hx hb dX9_monkCell_0 rfl (lv_at hl 1 rfl) ?_
  refine lv_iconst (v := 4) hx hb dX9_monkCell_1 (by decide) ?_
  refine lv_imul hx hb dX9_monkCell_2 ?_
  refine lv_iload_n hx hb dX9_monkCell_3 rfl (lv_at hl 2 rfl) ?_
  refine lv_iadd hx hb dX9_monkCell_4 ?_
  refine zni h (fun x3_1 ex3_1 h => ?_)
  refine lv_istore_n (lv' := [(3, .int x3_1), (0, .ref (g.2.2 k)), (1, .int x1), (2, .int x2)]) hx hb dX9_monkCell_5 rfl hl (by decide) rfl (fun ls hl => ?_)
  refine lv_iload_n hx hb dX9_monkCell_6 rfl (lv_at hl 0 rfl) ?_
  refine zif_lt (tgt := 28) h E dX9_monkCell_7 (by decide) (fun c_3 h => ?_) (fun c_3 h => ?_)
  · refine lv_iconst (v := 0) hx hb dX9_monkCell_28 (by decide) ?_
    exact hret _ _ _ _ _ _ ⟨Option.some.inj h, hM⟩ rfl hZ dX9_monkCell_29
  · refine lv_iload_n hx hb dX9_monkCell_10 rfl (lv_at hl 0 rfl) ?_
    refine lv_aload_n hx hb dX9_monkCell_11 rfl (lv_at hl 1 rfl) ?_
    refine zg (v := .ref (g.2.2 (k + 3))) E hZ (xb_X9 hk) ((xe_X9 hk) _) kc_X9 17 (by decide) kw_117 rfl rfl dX9_monkCell_12 ?_
    refine zal (v := 24) E hZ 0 rfl (xb_I (xc_X9_monkCells hk).1) (xe_IL (xc_X9_monkCells hk)) (by decide) dX9_monkCell_15 ?_
    refine zic_ge (tgt := 28) h E dX9_monkCell_16 (by decide) (fun c_2 h => ?_) (fun c_2 h => ?_)
    · refine lv_iconst (v := 0) hx hb dX9_monkCell_28 (by decide) ?_
      exact hret _ _ _ _ _ _ ⟨Option.some.inj h, hM⟩ rfl hZ dX9_monkCell_29
    · refine lv_aload_n hx hb dX9_monkCell_19 rfl (lv_at hl 1 rfl) ?_
      refine zg (v := .ref (g.2.2 (k + 3))) E hZ (xb_X9 hk) ((xe_X9 hk) _) kc_X9 17 (by decide) kw_117 rfl rfl dX9_monkCell_20 ?_
      refine lv_iload_n hx hb dX9_monkCell_23 rfl (lv_at hl 0 rfl) ?_
      refine zia h E hZ (xb_I (xc_X9_monkCells hk).1) (xe_IL (xc_X9_monkCells hk)) dX9_monkCell_24 (fun h => ?_)
      refine lv_goto (tgt := 29) hx hb dX9_monkCell_25 (by decide) ?_
      exact hret _ _ _ _ _ _ ⟨Option.some.inj h, hM⟩ rfl hZ dX9_monkCell_29
theorem c_X9_monkCell (l : Launch) (g : zG) (M : zM) (k : Nat) (hk : xk k = 8) (x1 : Int32) (x2 : Int32) {r : Int32} (h : f_X9_monkCell M k x1 x2 = some r) : zMi l g xE 125 yX9_monkCell (zWs yX9_monkCell cX9_monkCell 4 (some .int)) 2 [.ref (g.2.2 k), .int x1, .int x2] M (fun v M1 => v = r ∧ M1 = M) :=
  zMi_of (by decide) (Nat.le_of_ble_eq_true rfl) (fun p e s m args below meth c Q ls E hret hZ hl => w_X9_monkCell g k hk E hret M rfl x1 x2 _ _ ls h hZ hl)
theorem v_X9_monkCell : zYV yX9_monkCell cX9_monkCell 4 (some .int) 2 := ⟨kw_458, kw_3, kw_456, kw_457, by decide +kernel⟩

def f_X10_put (M : zM) (o0 : Nat) (x1 : Int32) (x2 : Int32) : Option (zM) :=
  if x1 < 0 then (some M) else (if (Int32.ofNat (xl o0)) ≤ x1 then (some M) else (zck (zin x1 (xl o0)) (znm (zu M o0 (x1 : Int32).toNatClampNeg x2) (fun M_1 => some M_1))))
set_option maxRecDepth 100000 in
set_option maxHeartbeats 4000000 in
theorem w_X10_put (g : zG) (o0 : Nat) (ho0 : xk o0 = 20) {r : zM} (E : zX g p m c cX10_put 3 s args (zWs yX10_put cX10_put 3 none) RX10) (hret : zRv g xE 125 p l e (zrm 2 0 0) s m args below meth c 0 0 Q cX10_put (fun M1 => M1 = r)) (M : zM) (x1 : Int32) (x2 : Int32) (H : Heap) (locs : List Loc) (ls : Array Slot) (h : f_X10_put M o0 x1 x2 = some r) (hZ : zS g xE 125 s H locs M) (hl : lv_has ls 3 [(0, .ref (g.2.2 o0)), (1, .int x1), (2, .int x2)]) : W p l e (zrm 2 0 0) s m args below meth c H locs 0 0 Q (F0 m 0 ls []) := by
  have hx := E.1.1
  have hb := E.1.2.1
  unfold f_X10_put at h
  refine lv_iload_n hx hb dX10_put_0 rfl (lv_at hl 1 rfl) ?_
  refine zif_lt (tgt := 14) h E dX10_put_1 (by decide) (fun c_3 h => ?_) (fun c_3 h => ?_)
  · exact hret _ _ _ _ _ (Option.some.inj h) hZ dX10_put_14
  · refine lv_iload_n hx hb dX10_put_4 rfl (lv_at hl 1 rfl) ?_
    refine lv_aload_n hx hb dX10_put_5 rfl (lv_at hl 0 rfl) ?_
    refine zal E hZ 0 rfl (xb_I ho0) (xe_I ho0) rfl dX10_put_6 ?_
    refine zic_ge (tgt := 14) h E dX10_put_7 (by decide) (fun c_2 h => ?_) (fun c_2 h => ?_)
    · exact hret _ _ _ _ _ (Option.some.inj h) hZ dX10_put_14
    · refine lv_aload_n hx hb dX10_put_10 rfl (lv_at hl 0 rfl) ?_
      refine lv_iload_n hx hb dX10_put_11 rfl (lv_at hl 1 rfl) ?_
      refine lv_iload_n hx hb dX10_put_12 rfl (lv_at hl 2 rfl) ?_
      refine zis h E hZ (xb_I ho0) (xe_I ho0) dX10_put_13 (fun M_1 H locs eM_1 h hZ => ?_)
      exact hret _ _ _ _ _ (Option.some.inj h) hZ dX10_put_14
theorem c_X10_put (l : Launch) (g : zG) (M : zM) (o0 : Nat) (ho0 : xk o0 = 20) (x1 : Int32) (x2 : Int32) {r : zM} (h : f_X10_put M o0 x1 x2 = some r) : zMv l g xE 125 yX10_put (zWs yX10_put cX10_put 3 none) 2 [.ref (g.2.2 o0), .int x1, .int x2] M (fun M1 => M1 = r) :=
  zMv_of (by decide) (Nat.le_of_ble_eq_true rfl) (fun p e s m args below meth c Q ls E hret hZ hl => w_X10_put g o0 ho0 E hret M x1 x2 _ _ ls h hZ hl)
theorem v_X10_put : zYS yX10_put cX10_put 3 none 3 := ⟨kw_408, kw_1, kw_407, by decide +kernel⟩

def f_X9_setMonkCell (M : zM) (k : Nat) (x1 : Int32) (x2 : Int32) (x3 : Int32) : Option (zM) :=
  zbn (f_X10_put M (k + 3) ((x1 * 4) + x2) x3) (fun u_1 => some u_1)
set_option maxRecDepth 100000 in
set_option maxHeartbeats 4000000 in
theorem w_X9_setMonkCell (g : zG) (k : Nat) (hk : xk k = 8) {r : zM} (E : zX g p m c cX9_setMonkCell 4 s args (zWs yX9_setMonkCell cX9_setMonkCell 4 none) RX9) (hret : zRv g xE 125 p l e (zrm 3 0 0) s m args below meth c 0 0 Q cX9_setMonkCell (fun M1 => M1 = r)) (M : zM) (x1 : Int32) (x2 : Int32) (x3 : Int32) (H : Heap) (locs : List Loc) (ls : Array Slot) (h : f_X9_setMonkCell M k x1 x2 x3 = some r) (hZ : zS g xE 125 s H locs M) (hl : lv_has ls 4 [(0, .ref (g.2.2 k)), (1, .int x1), (2, .int x2), (3, .int x3)]) : W p l e (zrm 3 0 0) s m args below meth c H locs 0 0 Q (F0 m 0 ls []) := by
  have hx := E.1.1
  have hb := E.1.2.1
  unfold f_X9_setMonkCell at h
  refine lv_aload_n hx hb dX9_setMonkCell_0 rfl (lv_at hl 0 rfl) ?_
  refine zg (v := .ref (g.2.2 (k + 3))) E hZ (xb_X9 hk) ((xe_X9 hk) _) kc_X9 17 (by decide) kw_117 rfl rfl dX9_setMonkCell_1 ?_
  refine lv_iload_n hx hb dX9_setMonkCell_4 rfl (lv_at hl 1 rfl) ?_
  refine lv_iconst (v := 4) hx hb dX9_setMonkCell_5 (by decide) ?_
  refine lv_imul hx hb dX9_setMonkCell_6 ?_
  refine lv_iload_n hx hb dX9_setMonkCell_7 rfl (lv_at hl 2 rfl) ?_
  refine lv_iadd hx hb dX9_setMonkCell_8 ?_
  refine lv_iload_n hx hb dX9_setMonkCell_9 rfl (lv_at hl 3 rfl) ?_
  obtain ⟨u_1, qu_1, h⟩ := zbn_some h
  refine zcvS (zrunSN E hZ v_X10_put kw_673 (c_X10_put l g M (k + 3) (xc_X9_monkCells hk).1 ((x1 * 4) + x2) x3 qu_1 _) rfl hl.1 rfl (Nat.le_of_ble_eq_true rfl) ⟨by decide, by decide⟩ ⟨Nat.le_refl _, Nat.le_refl _⟩ dX9_setMonkCell_10) hZ (fun H locs hZ => ?_)
  exact hret _ _ _ _ _ (Option.some.inj h) hZ dX9_setMonkCell_13
theorem c_X9_setMonkCell (l : Launch) (g : zG) (M : zM) (k : Nat) (hk : xk k = 8) (x1 : Int32) (x2 : Int32) (x3 : Int32) {r : zM} (h : f_X9_setMonkCell M k x1 x2 x3 = some r) : zMv l g xE 125 yX9_setMonkCell (zWs yX9_setMonkCell cX9_setMonkCell 4 none) 3 [.ref (g.2.2 k), .int x1, .int x2, .int x3] M (fun M1 => M1 = r) :=
  zMv_of (by decide) (Nat.le_of_ble_eq_true rfl) (fun p e s m args below meth c Q ls E hret hZ hl => w_X9_setMonkCell g k hk E hret M x1 x2 x3 _ _ ls h hZ hl)
theorem v_X9_setMonkCell : zYV yX9_setMonkCell cX9_setMonkCell 4 none 3 := ⟨kw_672, kw_3, kw_670, kw_671, by decide +kernel⟩

def f_X10_at (M : zM) (o0 : Nat) (x1 : Int32) : Option (Int32) :=
  if x1 < 0 then (some 0) else (if (Int32.ofNat (xl o0)) ≤ x1 then (some 0) else (zck (zin x1 (xl o0)) (some (M o0 (x1 : Int32).toNatClampNeg))))
set_option maxRecDepth 100000 in
set_option maxHeartbeats 4000000 in
theorem w_X10_at (g : zG) (o0 : Nat) (ho0 : xk o0 = 20) {r : Int32} {M0 : zM} (E : zX g p m c cX10_at 2 s args (zWs yX10_at cX10_at 2 (some .int)) RX10) (hret : zRi g xE 125 p l e (zrm 2 0 0) s m args below meth c 0 0 Q cX10_at .int (fun v M1 => v = r ∧ M1 = M0)) (M : zM) (hM : M = M0) (x1 : Int32) (H : Heap) (locs : List Loc) (ls : Array Slot) (h : f_X10_at M o0 x1 = some r) (hZ : zS g xE 125 s H locs M) (hl : lv_has ls 2 [(0, .ref (g.2.2 o0)), (1, .int x1)]) : W p l e (zrm 2 0 0) s m args below meth c H locs 0 0 Q (F0 m 0 ls []) := by
  have hx := E.1.1
  have hb := E.1.2.1
  unfold f_X10_at at h
  refine lv_iload_n hx hb dX10_at_0 rfl (lv_at hl 1 rfl) ?_
  refine zif_lt (tgt := 16) h E dX10_at_1 (by decide) (fun c_2 h => ?_) (fun c_2 h => ?_)
  · refine lv_iconst (v := 0) hx hb dX10_at_16 (by decide) ?_
    exact hret _ _ _ _ _ _ ⟨Option.some.inj h, hM⟩ rfl hZ dX10_at_17
  · refine lv_iload_n hx hb dX10_at_4 rfl (lv_at hl 1 rfl) ?_
    refine lv_aload_n hx hb dX10_at_5 rfl (lv_at hl 0 rfl) ?_
    refine zal E hZ 0 rfl (xb_I ho0) (xe_I ho0) rfl dX10_at_6 ?_
    refine zic_ge (tgt := 16) h E dX10_at_7 (by decide) (fun c_1 h => ?_) (fun c_1 h => ?_)
    · refine lv_iconst (v := 0) hx hb dX10_at_16 (by decide) ?_
      exact hret _ _ _ _ _ _ ⟨Option.some.inj h, hM⟩ rfl hZ dX10_at_17
    · refine lv_aload_n hx hb dX10_at_10 rfl (lv_at hl 0 rfl) ?_
      refine lv_iload_n hx hb dX10_at_11 rfl (lv_at hl 1 rfl) ?_
      refine zia h E hZ (xb_I ho0) (xe_I ho0) dX10_at_12 (fun h => ?_)
      refine lv_goto (tgt := 17) hx hb dX10_at_13 (by decide) ?_
      exact hret _ _ _ _ _ _ ⟨Option.some.inj h, hM⟩ rfl hZ dX10_at_17
theorem c_X10_at (l : Launch) (g : zG) (M : zM) (o0 : Nat) (ho0 : xk o0 = 20) (x1 : Int32) {r : Int32} (h : f_X10_at M o0 x1 = some r) : zMi l g xE 125 yX10_at (zWs yX10_at cX10_at 2 (some .int)) 2 [.ref (g.2.2 o0), .int x1] M (fun v M1 => v = r ∧ M1 = M) :=
  zMi_of (by decide) (Nat.le_of_ble_eq_true rfl) (fun p e s m args below meth c Q ls E hret hZ hl => w_X10_at g o0 ho0 E hret M rfl x1 _ _ ls h hZ hl)
theorem v_X10_at : zYS yX10_at cX10_at 2 (some .int) 2 := ⟨kw_427, kw_1, kw_426, by decide +kernel⟩

def f_X9_dutyCell (M : zM) (k : Nat) (x1 : Int32) (x2 : Int32) : Option (Int32) :=
  zbn (f_X10_at M (k + 4) ((x1 * 3) + x2)) (fun u_1 => some u_1)
set_option maxRecDepth 100000 in
set_option maxHeartbeats 4000000 in
theorem w_X9_dutyCell (g : zG) (k : Nat) (hk : xk k = 8) {r : Int32} {M0 : zM} (E : zX g p m c cX9_dutyCell 3 s args (zWs yX9_dutyCell cX9_dutyCell 3 (some .int)) RX9) (hret : zRi g xE 125 p l e (zrm 3 0 0) s m args below meth c 0 0 Q cX9_dutyCell .int (fun v M1 => v = r ∧ M1 = M0)) (M : zM) (hM : M = M0) (x1 : Int32) (x2 : Int32) (H : Heap) (locs : List Loc) (ls : Array Slot) (h : f_X9_dutyCell M k x1 x2 = some r) (hZ : zS g xE 125 s H locs M) (hl : lv_has ls 3 [(0, .ref (g.2.2 k)), (1, .int x1), (2, .int x2)]) : W p l e (zrm 3 0 0) s m args below meth c H locs 0 0 Q (F0 m 0 ls []) := by
  have hx := E.1.1
  have hb := E.1.2.1
  unfold f_X9_dutyCell at h
  refine lv_aload_n hx hb dX9_dutyCell_0 rfl (lv_at hl 0 rfl) ?_
  refine zg (v := .ref (g.2.2 (k + 4))) E hZ (xb_X9 hk) ((xe_X9 hk) _) kc_X9 18 (by decide) kw_118 rfl rfl dX9_dutyCell_1 ?_
  refine lv_iload_n hx hb dX9_dutyCell_4 rfl (lv_at hl 1 rfl) ?_
  refine lv_iconst (v := 3) hx hb dX9_dutyCell_5 (by decide) ?_
  refine lv_imul hx hb dX9_dutyCell_6 ?_
  refine lv_iload_n hx hb dX9_dutyCell_7 rfl (lv_at hl 2 rfl) ?_
  refine lv_iadd hx hb dX9_dutyCell_8 ?_
  obtain ⟨u_1, qu_1, h⟩ := zbn_some h
  refine zciR (zrunSN E hZ v_X10_at kw_425 (c_X10_at l g M (k + 4) (xc_X9_dutyCells hk).1 ((x1 * 3) + x2) qu_1 _) rfl hl.1 rfl (Nat.le_of_ble_eq_true rfl) ⟨by decide, by decide⟩ ⟨Nat.le_refl _, Nat.le_refl _⟩ dX9_dutyCell_9) hZ (fun H locs hZ => ?_)
  exact hret _ _ _ _ _ _ ⟨Option.some.inj h, hM⟩ rfl hZ dX9_dutyCell_12
theorem c_X9_dutyCell (l : Launch) (g : zG) (M : zM) (k : Nat) (hk : xk k = 8) (x1 : Int32) (x2 : Int32) {r : Int32} (h : f_X9_dutyCell M k x1 x2 = some r) : zMi l g xE 125 yX9_dutyCell (zWs yX9_dutyCell cX9_dutyCell 3 (some .int)) 3 [.ref (g.2.2 k), .int x1, .int x2] M (fun v M1 => v = r ∧ M1 = M) :=
  zMi_of (by decide) (Nat.le_of_ble_eq_true rfl) (fun p e s m args below meth c Q ls E hret hZ hl => w_X9_dutyCell g k hk E hret M rfl x1 x2 _ _ ls h hZ hl)
theorem v_X9_dutyCell : zYV yX9_dutyCell cX9_dutyCell 3 (some .int) 2 := ⟨kw_515, kw_3, kw_513, kw_514, by decide +kernel⟩

def f_X9_addMonk (M : zM) (k : Nat) (x1 : Int32) (x2 : Int32) (x3 : Int32) : Option (zM) :=
  zbn (f_X9_setMonkCell M k (M k 10) 0 x1) (fun u_1 => zbn (f_X9_setMonkCell u_1 k (u_1 k 10) 1 x3) (fun u_2 => zbn (f_X9_setMonkCell u_2 k (u_2 k 10) 2 x2) (fun u_3 => zbn (f_X9_setMonkCell u_3 k (u_3 k 10) 3 0) (fun u_4 => znm (zu u_4 k 10 ((u_4 k 10) + 1)) (fun M_5 => some M_5)))))
set_option maxRecDepth 100000 in
set_option maxHeartbeats 4000000 in
theorem w_X9_addMonk (g : zG) (k : Nat) (hk : xk k = 8) {r : zM} (E : zX g p m c cX9_addMonk 4 s args (zWs yX9_addMonk cX9_addMonk 4 none) RX9) (hret : zRv g xE 125 p l e (zrm 4 0 0) s m args below meth c 0 0 Q cX9_addMonk (fun M1 => M1 = r)) (M : zM) (x1 : Int32) (x2 : Int32) (x3 : Int32) (H : Heap) (locs : List Loc) (ls : Array Slot) (h : f_X9_addMonk M k x1 x2 x3 = some r) (hZ : zS g xE 125 s H locs M) (hl : lv_has ls 4 [(0, .ref (g.2.2 k)), (1, .int x1), (2, .int x2), (3, .int x3)]) : W p l e (zrm 4 0 0) s m args below meth c H locs 0 0 Q (F0 m 0 ls []) := by
  have hx := E.1.1
  have hb := E.1.2.1
  unfold f_X9_addMonk at h
  refine lv_aload_n hx hb dX9_addMonk_0 rfl (lv_at hl 0 rfl) ?_
  refine lv_aload_n hx hb dX9_addMonk_1 rfl (lv_at hl 0 rfl) ?_
  refine zg (v := .int (M k 10)) E hZ (xb_X9 hk) ((xe_X9 hk) _) kc_X9 10 (by decide) kw_92 rfl rfl dX9_addMonk_2 ?_
  refine lv_iconst (v := 0) hx hb dX9_addMonk_5 (by decide) ?_
  refine lv_iload_n hx hb dX9_addMonk_6 rfl (lv_at hl 1 rfl) ?_
  obtain ⟨u_1, qu_1, h⟩ := zbn_some h
  refine zcvS (zrunV E hZ (xb_X9 hk) ((xe_X9 hk) _) rfl rfl v_X9_setMonkCell kw_669 (c_X9_setMonkCell l g M k hk (M k 10) 0 x1 qu_1 _) rfl hl.1 rfl (Nat.le_of_ble_eq_true rfl) ⟨by decide, by decide⟩ ⟨Nat.le_refl _, Nat.le_refl _⟩ dX9_addMonk_7) hZ (fun H locs hZ => ?_)
  refine lv_aload_n hx hb dX9_addMonk_10 rfl (lv_at hl 0 rfl) ?_
  refine lv_aload_n hx hb dX9_addMonk_11 rfl (lv_at hl 0 rfl) ?_
  refine zg (v := .int (u_1 k 10)) E hZ (xb_X9 hk) ((xe_X9 hk) _) kc_X9 10 (by decide) kw_92 rfl rfl dX9_addMonk_12 ?_
  refine lv_iconst (v := 1) hx hb dX9_addMonk_15 (by decide) ?_
  refine lv_iload_n hx hb dX9_addMonk_16 rfl (lv_at hl 3 rfl) ?_
  obtain ⟨u_2, qu_2, h⟩ := zbn_some h
  refine zcvS (zrunV E hZ (xb_X9 hk) ((xe_X9 hk) _) rfl rfl v_X9_setMonkCell kw_669 (c_X9_setMonkCell l g u_1 k hk (u_1 k 10) 1 x3 qu_2 _) rfl hl.1 rfl (Nat.le_of_ble_eq_true rfl) ⟨by decide, by decide⟩ ⟨Nat.le_refl _, Nat.le_refl _⟩ dX9_addMonk_17) hZ (fun H locs hZ => ?_)
  refine lv_aload_n hx hb dX9_addMonk_20 rfl (lv_at hl 0 rfl) ?_
  refine lv_aload_n hx hb dX9_addMonk_21 rfl (lv_at hl 0 rfl) ?_
  refine zg (v := .int (u_2 k 10)) E hZ (xb_X9 hk) ((xe_X9 hk) _) kc_X9 10 (by decide) kw_92 rfl rfl dX9_addMonk_22 ?_
  refine lv_iconst (v := 2) hx hb dX9_addMonk_25 (by decide) ?_
  refine lv_iload_n hx hb dX9_addMonk_26 rfl (lv_at hl 2 rfl) ?_
  obtain ⟨u_3, qu_3, h⟩ := zbn_some h
  refine zcvS (zrunV E hZ (xb_X9 hk) ((xe_X9 hk) _) rfl rfl v_X9_setMonkCell kw_669 (c_X9_setMonkCell l g u_2 k hk (u_2 k 10) 2 x2 qu_3 _) rfl hl.1 rfl (Nat.le_of_ble_eq_true rfl) ⟨by decide, by decide⟩ ⟨Nat.le_refl _, Nat.le_refl _⟩ dX9_addMonk_27) hZ (fun H locs hZ => ?_)
  refine lv_aload_n hx hb dX9_addMonk_30 rfl (lv_at hl 0 rfl) ?_
  refine lv_aload_n hx hb dX9_addMonk_31 rfl (lv_at hl 0 rfl) ?_
  refine zg (v := .int (u_3 k 10)) E hZ (xb_X9 hk) ((xe_X9 hk) _) kc_X9 10 (by decide) kw_92 rfl rfl dX9_addMonk_32 ?_
  refine lv_iconst (v := 3) hx hb dX9_addMonk_35 (by decide) ?_
  refine lv_iconst (v := 0) hx hb dX9_addMonk_36 (by decide) ?_
  obtain ⟨u_4, qu_4, h⟩ := zbn_some h
  refine zcvS (zrunV E hZ (xb_X9 hk) ((xe_X9 hk) _) rfl rfl v_X9_setMonkCell kw_669 (c_X9_setMonkCell l g u_3 k hk (u_3 k 10) 3 0 qu_4 _) rfl hl.1 rfl (Nat.le_of_ble_eq_true rfl) ⟨by decide, by decide⟩ ⟨Nat.le_refl _, Nat.le_refl _⟩ dX9_addMonk_37) hZ (fun H locs hZ => ?_)
  refine lv_aload_n hx hb dX9_addMonk_40 rfl (lv_at hl 0 rfl) ?_
  refine lv_dup hx hb dX9_addMonk_41 rfl ?_
  refine zg (v := .int (u_4 k 10)) E hZ (xb_X9 hk) ((xe_X9 hk) _) kc_X9 10 (by decide) kw_92 rfl rfl dX9_addMonk_42 ?_
  refine lv_iconst (v := 1) hx hb dX9_addMonk_45 (by decide) ?_
  refine lv_iadd hx hb dX9_addMonk_46 ?_
  refine zp h E hZ (xb_X9 hk) ((xe_X9 hk) _) (((xe_X9 hk) _).trans (congrArg (fun z => Sum.inr (8, z)) (fs_X9_10 g _ _ _))) kc_X9 (by decide) kw_92 rfl rfl rfl (Nat.le_of_ble_eq_true rfl) dX9_addMonk_47 (fun M_5 H locs eM_5 h hZ => ?_)
  exact hret _ _ _ _ _ (Option.some.inj h) hZ dX9_addMonk_50
theorem c_X9_addMonk (l : Launch) (g : zG) (M : zM) (k : Nat) (hk : xk k = 8) (x1 : Int32) (x2 : Int32) (x3 : Int32) {r : zM} (h : f_X9_addMonk M k x1 x2 x3 = some r) : zMv l g xE 125 yX9_addMonk (zWs yX9_addMonk cX9_addMonk 4 none) 4 [.ref (g.2.2 k), .int x1, .int x2, .int x3] M (fun M1 => M1 = r) :=
  zMv_of (by decide) (Nat.le_of_ble_eq_true rfl) (fun p e s m args below meth c Q ls E hret hZ hl => w_X9_addMonk g k hk E hret M x1 x2 x3 _ _ ls h hZ hl)
theorem v_X9_addMonk : zYV yX9_addMonk cX9_addMonk 4 none 3 := ⟨kw_668, kw_3, kw_666, kw_667, by decide +kernel⟩

def f_X9_addDuty (M : zM) (k : Nat) (x1 : Int32) (x2 : Int32) (x3 : Int32) : Option (zM) :=
  zbn (f_X10_put M (k + 4) (((M k 11) * 3) + 0) x1) (fun u_1 => zbn (f_X10_put u_1 (k + 4) (((u_1 k 11) * 3) + 1) x2) (fun u_2 => zbn (f_X10_put u_2 (k + 4) (((u_2 k 11) * 3) + 2) x3) (fun u_3 => znm (zu u_3 k 11 ((u_3 k 11) + 1)) (fun M_4 => some M_4))))
set_option maxRecDepth 100000 in
set_option maxHeartbeats 4000000 in
theorem w_X9_addDuty (g : zG) (k : Nat) (hk : xk k = 8) {r : zM} (E : zX g p m c cX9_addDuty 4 s args (zWs yX9_addDuty cX9_addDuty 4 none) RX9) (hret : zRv g xE 125 p l e (zrm 3 0 0) s m args below meth c 0 0 Q cX9_addDuty (fun M1 => M1 = r)) (M : zM) (x1 : Int32) (x2 : Int32) (x3 : Int32) (H : Heap) (locs : List Loc) (ls : Array Slot) (h : f_X9_addDuty M k x1 x2 x3 = some r) (hZ : zS g xE 125 s H locs M) (hl : lv_has ls 4 [(0, .ref (g.2.2 k)), (1, .int x1), (2, .int x2), (3, .int x3)]) : W p l e (zrm 3 0 0) s m args below meth c H locs 0 0 Q (F0 m 0 ls []) := by
  have hx := E.1.1
  have hb := E.1.2.1
  unfold f_X9_addDuty at h
  refine lv_aload_n hx hb dX9_addDuty_0 rfl (lv_at hl 0 rfl) ?_
  refine zg (v := .ref (g.2.2 (k + 4))) E hZ (xb_X9 hk) ((xe_X9 hk) _) kc_X9 18 (by decide) kw_118 rfl rfl dX9_addDuty_1 ?_
  refine lv_aload_n hx hb dX9_addDuty_4 rfl (lv_at hl 0 rfl) ?_
  refine zg (v := .int (M k 11)) E hZ (xb_X9 hk) ((xe_X9 hk) _) kc_X9 11 (by decide) kw_97 rfl rfl dX9_addDuty_5 ?_
  refine lv_iconst (v := 3) hx hb dX9_addDuty_8 (by decide) ?_
  refine lv_imul hx hb dX9_addDuty_9 ?_
  refine lv_iconst (v := 0) hx hb dX9_addDuty_10 (by decide) ?_
  refine lv_iadd hx hb dX9_addDuty_11 ?_
  refine lv_iload_n hx hb dX9_addDuty_12 rfl (lv_at hl 1 rfl) ?_
  obtain ⟨u_1, qu_1, h⟩ := zbn_some h
  refine zcvS (zrunSN E hZ v_X10_put kw_673 (c_X10_put l g M (k + 4) (xc_X9_dutyCells hk).1 (((M k 11) * 3) + 0) x1 qu_1 _) rfl hl.1 rfl (Nat.le_of_ble_eq_true rfl) ⟨by decide, by decide⟩ ⟨Nat.le_refl _, Nat.le_refl _⟩ dX9_addDuty_13) hZ (fun H locs hZ => ?_)
  refine lv_aload_n hx hb dX9_addDuty_16 rfl (lv_at hl 0 rfl) ?_
  refine zg (v := .ref (g.2.2 (k + 4))) E hZ (xb_X9 hk) ((xe_X9 hk) _) kc_X9 18 (by decide) kw_118 rfl rfl dX9_addDuty_17 ?_
  refine lv_aload_n hx hb dX9_addDuty_20 rfl (lv_at hl 0 rfl) ?_
  refine zg (v := .int (u_1 k 11)) E hZ (xb_X9 hk) ((xe_X9 hk) _) kc_X9 11 (by decide) kw_97 rfl rfl dX9_addDuty_21 ?_
  refine lv_iconst (v := 3) hx hb dX9_addDuty_24 (by decide) ?_
  refine lv_imul hx hb dX9_addDuty_25 ?_
  refine lv_iconst (v := 1) hx hb dX9_addDuty_26 (by decide) ?_
  refine lv_iadd hx hb dX9_addDuty_27 ?_
  refine lv_iload_n hx hb dX9_addDuty_28 rfl (lv_at hl 2 rfl) ?_
  obtain ⟨u_2, qu_2, h⟩ := zbn_some h
  refine zcvS (zrunSN E hZ v_X10_put kw_673 (c_X10_put l g u_1 (k + 4) (xc_X9_dutyCells hk).1 (((u_1 k 11) * 3) + 1) x2 qu_2 _) rfl hl.1 rfl (Nat.le_of_ble_eq_true rfl) ⟨by decide, by decide⟩ ⟨Nat.le_refl _, Nat.le_refl _⟩ dX9_addDuty_29) hZ (fun H locs hZ => ?_)
  refine lv_aload_n hx hb dX9_addDuty_32 rfl (lv_at hl 0 rfl) ?_
  refine zg (v := .ref (g.2.2 (k + 4))) E hZ (xb_X9 hk) ((xe_X9 hk) _) kc_X9 18 (by decide) kw_118 rfl rfl dX9_addDuty_33 ?_
  refine lv_aload_n hx hb dX9_addDuty_36 rfl (lv_at hl 0 rfl) ?_
  refine zg (v := .int (u_2 k 11)) E hZ (xb_X9 hk) ((xe_X9 hk) _) kc_X9 11 (by decide) kw_97 rfl rfl dX9_addDuty_37 ?_
  refine lv_iconst (v := 3) hx hb dX9_addDuty_40 (by decide) ?_
  refine lv_imul hx hb dX9_addDuty_41 ?_
  refine lv_iconst (v := 2) hx hb dX9_addDuty_42 (by decide) ?_
  refine lv_iadd hx hb dX9_addDuty_43 ?_
  refine lv_iload_n hx hb dX9_addDuty_44 rfl (lv_at hl 3 rfl) ?_
  obtain ⟨u_3, qu_3, h⟩ := zbn_some h
  refine zcvS (zrunSN E hZ v_X10_put kw_673 (c_X10_put l g u_2 (k + 4) (xc_X9_dutyCells hk).1 (((u_2 k 11) * 3) + 2) x3 qu_3 _) rfl hl.1 rfl (Nat.le_of_ble_eq_true rfl) ⟨by decide, by decide⟩ ⟨Nat.le_refl _, Nat.le_refl _⟩ dX9_addDuty_45) hZ (fun H locs hZ => ?_)
  refine lv_aload_n hx hb dX9_addDuty_48 rfl (lv_at hl 0 rfl) ?_
  refine lv_dup hx hb dX9_addDuty_49 rfl ?_
  refine zg (v := .int (u_3 k 11)) E hZ (xb_X9 hk) ((xe_X9 hk) _) kc_X9 11 (by decide) kw_97 rfl rfl dX9_addDuty_50 ?_
  refine lv_iconst (v := 1) hx hb dX9_addDuty_53 (by decide) ?_
  refine lv_iadd hx hb dX9_addDuty_54 ?_
  refine zp h E hZ (xb_X9 hk) ((xe_X9 hk) _) (((xe_X9 hk) _).trans (congrArg (fun z => Sum.inr (8, z)) (fs_X9_11 g _ _ _))) kc_X9 (by decide) kw_97 rfl rfl rfl (Nat.le_of_ble_eq_true rfl) dX9_addDuty_55 (fun M_4 H locs eM_4 h hZ => ?_)
  exact hret _ _ _ _ _ (Option.some.inj h) hZ dX9_addDuty_58
theorem c_X9_addDuty (l : Launch) (g : zG) (M : zM) (k : Nat) (hk : xk k = 8) (x1 : Int32) (x2 : Int32) (x3 : Int32) {r : zM} (h : f_X9_addDuty M k x1 x2 x3 = some r) : zMv l g xE 125 yX9_addDuty (zWs yX9_addDuty cX9_addDuty 4 none) 3 [.ref (g.2.2 k), .int x1, .int x2, .int x3] M (fun M1 => M1 = r) :=
  zMv_of (by decide) (Nat.le_of_ble_eq_true rfl) (fun p e s m args below meth c Q ls E hret hZ hl => w_X9_addDuty g k hk E hret M x1 x2 x3 _ _ ls h hZ hl)
theorem v_X9_addDuty : zYV yX9_addDuty cX9_addDuty 4 none 3 := ⟨kw_681, kw_3, kw_679, kw_680, by decide +kernel⟩

def f_X10_has (M : zM) (x0 : Int32) (x1 : Int32) : Option (Int32) :=
  if x1 < 0 then (some 0) else (if 32 ≤ x1 then (some 0) else (if ((x0 >>> (x1 &&& 31)) &&& 1) = 1 then (some 1) else (some 0)))
set_option maxRecDepth 100000 in
set_option maxHeartbeats 4000000 in
theorem w_X10_has (g : zG) {r : Int32} {M0 : zM} (E : zX g p m c cX10_has 2 s args (zWs yX10_has cX10_has 2 (some .boolean)) RX10) (hret : zRi g xE 125 p l e (zrm 2 0 0) s m args below meth c 0 0 Q cX10_has .boolean (fun v M1 => v = r ∧ M1 = M0)) (M : zM) (hM : M = M0) (x0 : Int32) (x1 : Int32) (H : Heap) (locs : List Loc) (ls : Array Slot) (h : f_X10_has M x0 x1 = some r) (hZ : zS g xE 125 s H locs M) (hl : lv_has ls 2 [(0, .int x0), (1, .int x1)]) : W p l e (zrm 2 0 0) s m args below meth c H locs 0 0 Q (F0 m 0 ls []) := by
  have hx := E.1.1
  have hb := E.1.2.1
  unfold f_X10_has at h
  refine lv_iload_n hx hb dX10_has_0 rfl (lv_at hl 1 rfl) ?_
  refine zif_lt (tgt := 23) h E dX10_has_1 (by decide) (fun c_3 h => ?_) (fun c_3 h => ?_)
  · refine lv_iconst (v := 0) hx hb dX10_has_23 (by decide) ?_
    exact hret _ _ _ _ _ _ ⟨Option.some.inj h, hM⟩ rfl hZ dX10_has_24
  · refine lv_iload_n hx hb dX10_has_4 rfl (lv_at hl 1 rfl) ?_
    refine lv_bipush (v := 32) hx hb dX10_has_5 (by decide) ?_
    refine zic_ge (tgt := 23) h E dX10_has_7 (by decide) (fun c_2 h => ?_) (fun c_2 h => ?_)
    · refine lv_iconst (v := 0) hx hb dX10_has_23 (by decide) ?_
      exact hret _ _ _ _ _ _ ⟨Option.some.inj h, hM⟩ rfl hZ dX10_has_24
    · refine lv_iload_n hx hb dX10_has_10 rfl (lv_at hl 0 rfl) ?_
      refine lv_iload_n hx hb dX10_has_11 rfl (lv_at hl 1 rfl) ?_
      refine lv_ishr hx hb dX10_has_12 ?_
      refine lv_iconst (v := 1) hx hb dX10_has_13 (by decide) ?_
      refine lv_iand hx hb dX10_has_14 ?_
      refine lv_iconst (v := 1) hx hb dX10_has_15 (by decide) ?_
      refine zic_ne (tgt := 23) h E dX10_has_16 (by decide) (fun c_1 h => ?_) (fun c_1 h => ?_)
      · refine lv_iconst (v := 0) hx hb dX10_has_23 (by decide) ?_
        exact hret _ _ _ _ _ _ ⟨Option.some.inj h, hM⟩ rfl hZ dX10_has_24
      · refine lv_iconst (v := 1) hx hb dX10_has_19 (by decide) ?_
        refine lv_goto (tgt := 24) hx hb dX10_has_20 (by decide) ?_
        exact hret _ _ _ _ _ _ ⟨Option.some.inj h, hM⟩ rfl hZ dX10_has_24
theorem c_X10_has (l : Launch) (g : zG) (M : zM)  (x0 : Int32) (x1 : Int32) {r : Int32} (h : f_X10_has M x0 x1 = some r) : zMi l g xE 125 yX10_has (zWs yX10_has cX10_has 2 (some .boolean)) 2 [.int x0, .int x1] M (fun v M1 => v = r ∧ M1 = M) :=
  zMi_of (by decide) (Nat.le_of_ble_eq_true rfl) (fun p e s m args below meth c Q ls E hret hZ hl => w_X10_has g  E hret M rfl x0 x1 _ _ ls h hZ hl)
theorem v_X10_has : zYS yX10_has cX10_has 2 (some .boolean) 2 := ⟨kw_465, kw_1, kw_464, by decide +kernel⟩

def f_X9_isDrowned (M : zM) (k : Nat) (x1 : Int32) : Option (Int32) :=
  zbn (f_X10_has M (M k 12) x1) (fun u_1 => zck (zbl u_1) (some u_1))
set_option maxRecDepth 100000 in
set_option maxHeartbeats 4000000 in
theorem w_X9_isDrowned (g : zG) (k : Nat) (hk : xk k = 8) {r : Int32} {M0 : zM} (E : zX g p m c cX9_isDrowned 2 s args (zWs yX9_isDrowned cX9_isDrowned 2 (some .boolean)) RX9) (hret : zRi g xE 125 p l e (zrm 3 0 0) s m args below meth c 0 0 Q cX9_isDrowned .boolean (fun v M1 => v = r ∧ M1 = M0)) (M : zM) (hM : M = M0) (x1 : Int32) (H : Heap) (locs : List Loc) (ls : Array Slot) (h : f_X9_isDrowned M k x1 = some r) (hZ : zS g xE 125 s H locs M) (hl : lv_has ls 2 [(0, .ref (g.2.2 k)), (1, .int x1)]) : W p l e (zrm 3 0 0) s m args below meth c H locs 0 0 Q (F0 m 0 ls []) := by
  have hx := E.1.1
  have hb := E.1.2.1
  unfold f_X9_isDrowned at h
  refine lv_aload_n hx hb dX9_isDrowned_0 rfl (lv_at hl 0 rfl) ?_
  refine zg (v := .int (M k 12)) E hZ (xb_X9 hk) ((xe_X9 hk) _) kc_X9 12 (by decide) kw_102 rfl rfl dX9_isDrowned_1 ?_
  refine lv_iload_n hx hb dX9_isDrowned_4 rfl (lv_at hl 1 rfl) ?_
  obtain ⟨u_1, qu_1, h⟩ := zbn_some h
  refine zciR (zrunSN E hZ v_X10_has kw_463 (c_X10_has l g M  (M k 12) x1 qu_1 _) rfl hl.1 rfl (Nat.le_of_ble_eq_true rfl) ⟨by decide, by decide⟩ ⟨Nat.le_refl _, Nat.le_refl _⟩ dX9_isDrowned_5) hZ (fun H locs hZ => ?_)
  obtain ⟨hbl, h⟩ := zck_some h
  exact hret _ _ _ _ _ _ ⟨Option.some.inj h, hM⟩ (zbl_n hbl) hZ dX9_isDrowned_8
theorem c_X9_isDrowned (l : Launch) (g : zG) (M : zM) (k : Nat) (hk : xk k = 8) (x1 : Int32) {r : Int32} (h : f_X9_isDrowned M k x1 = some r) : zMi l g xE 125 yX9_isDrowned (zWs yX9_isDrowned cX9_isDrowned 2 (some .boolean)) 3 [.ref (g.2.2 k), .int x1] M (fun v M1 => v = r ∧ M1 = M) :=
  zMi_of (by decide) (Nat.le_of_ble_eq_true rfl) (fun p e s m args below meth c Q ls E hret hZ hl => w_X9_isDrowned g k hk E hret M rfl x1 _ _ ls h hZ hl)
theorem v_X9_isDrowned : zYV yX9_isDrowned cX9_isDrowned 2 (some .boolean) 1 := ⟨kw_462, kw_3, kw_460, kw_461, by decide +kernel⟩

def f_X9_isKept (M : zM) (k : Nat) (x1 : Int32) : Option (Int32) :=
  zbn (f_X10_has M (M k 13) x1) (fun u_1 => zck (zbl u_1) (some u_1))
set_option maxRecDepth 100000 in
set_option maxHeartbeats 4000000 in
theorem w_X9_isKept (g : zG) (k : Nat) (hk : xk k = 8) {r : Int32} {M0 : zM} (E : zX g p m c cX9_isKept 2 s args (zWs yX9_isKept cX9_isKept 2 (some .boolean)) RX9) (hret : zRi g xE 125 p l e (zrm 3 0 0) s m args below meth c 0 0 Q cX9_isKept .boolean (fun v M1 => v = r ∧ M1 = M0)) (M : zM) (hM : M = M0) (x1 : Int32) (H : Heap) (locs : List Loc) (ls : Array Slot) (h : f_X9_isKept M k x1 = some r) (hZ : zS g xE 125 s H locs M) (hl : lv_has ls 2 [(0, .ref (g.2.2 k)), (1, .int x1)]) : W p l e (zrm 3 0 0) s m args below meth c H locs 0 0 Q (F0 m 0 ls []) := by
  have hx := E.1.1
  have hb := E.1.2.1
  unfold f_X9_isKept at h
  refine lv_aload_n hx hb dX9_isKept_0 rfl (lv_at hl 0 rfl) ?_
  refine zg (v := .int (M k 13)) E hZ (xb_X9 hk) ((xe_X9 hk) _) kc_X9 13 (by decide) kw_105 rfl rfl dX9_isKept_1 ?_
  refine lv_iload_n hx hb dX9_isKept_4 rfl (lv_at hl 1 rfl) ?_
  obtain ⟨u_1, qu_1, h⟩ := zbn_some h
  refine zciR (zrunSN E hZ v_X10_has kw_463 (c_X10_has l g M  (M k 13) x1 qu_1 _) rfl hl.1 rfl (Nat.le_of_ble_eq_true rfl) ⟨by decide, by decide⟩ ⟨Nat.le_refl _, Nat.le_refl _⟩ dX9_isKept_5) hZ (fun H locs hZ => ?_)
  obtain ⟨hbl, h⟩ := zck_some h
  exact hret _ _ _ _ _ _ ⟨Option.some.inj h, hM⟩ (zbl_n hbl) hZ dX9_isKept_8
theorem c_X9_isKept (l : Launch) (g : zG) (M : zM) (k : Nat) (hk : xk k = 8) (x1 : Int32) {r : Int32} (h : f_X9_isKept M k x1 = some r) : zMi l g xE 125 yX9_isKept (zWs yX9_isKept cX9_isKept 2 (some .boolean)) 3 [.ref (g.2.2 k), .int x1] M (fun v M1 => v = r ∧ M1 = M) :=
  zMi_of (by decide) (Nat.le_of_ble_eq_true rfl) (fun p e s m args below meth c Q ls E hret hZ hl => w_X9_isKept g k hk E hret M rfl x1 _ _ ls h hZ hl)
theorem v_X9_isKept : zYV yX9_isKept cX9_isKept 2 (some .boolean) 1 := ⟨kw_511, kw_3, kw_509, kw_510, by decide +kernel⟩

def f_X9_stepOf (M : zM) (k : Nat) (x1 : Int32) : Option (Int32) :=
  if (M k 5) ≤ 0 then (some 0) else (zck (decide (¬ (M k 5 : Int32) = 0)) (some (x1 - x1 / (M k 5) * (M k 5))))
set_option maxRecDepth 100000 in
set_option maxHeartbeats 4000000 in
theorem w_X9_stepOf (g : zG) (k : Nat) (hk : xk k = 8) {r : Int32} {M0 : zM} (E : zX g p m c cX9_stepOf 2 s args (zWs yX9_stepOf cX9_stepOf 2 (some .int)) RX9) (hret : zRi g xE 125 p l e (zrm 2 0 0) s m args below meth c 0 0 Q cX9_stepOf .int (fun v M1 => v = r ∧ M1 = M0)) (M : zM) (hM : M = M0) (x1 : Int32) (H : Heap) (locs : List Loc) (ls : Array Slot) (h : f_X9_stepOf M k x1 = some r) (hZ : zS g xE 125 s H locs M) (hl : lv_has ls 2 [(0, .ref (g.2.2 k)), (1, .int x1)]) : W p l e (zrm 2 0 0) s m args below meth c H locs 0 0 Q (F0 m 0 ls []) := by
  have hx := E.1.1
  have hb := E.1.2.1
  unfold f_X9_stepOf at h
  refine lv_aload_n hx hb dX9_stepOf_0 rfl (lv_at hl 0 rfl) ?_
  refine zg (v := .int (M k 5)) E hZ (xb_X9 hk) ((xe_X9 hk) _) kc_X9 5 (by decide) kw_77 rfl rfl dX9_stepOf_1 ?_
  refine zif_le (tgt := 16) h E dX9_stepOf_4 (by decide) (fun c_1 h => ?_) (fun c_1 h => ?_)
  · refine lv_iconst (v := 0) hx hb dX9_stepOf_16 (by decide) ?_
    exact hret _ _ _ _ _ _ ⟨Option.some.inj h, hM⟩ rfl hZ dX9_stepOf_17
  · refine lv_iload_n hx hb dX9_stepOf_7 rfl (lv_at hl 1 rfl) ?_
    refine lv_aload_n hx hb dX9_stepOf_8 rfl (lv_at hl 0 rfl) ?_
    refine zg (v := .int (M k 5)) E hZ (xb_X9 hk) ((xe_X9 hk) _) kc_X9 5 (by decide) kw_77 rfl rfl dX9_stepOf_9 ?_
    refine zrem h E dX9_stepOf_12 (fun h => ?_)
    refine lv_goto (tgt := 17) hx hb dX9_stepOf_13 (by decide) ?_
    exact hret _ _ _ _ _ _ ⟨Option.some.inj h, hM⟩ rfl hZ dX9_stepOf_17
theorem c_X9_stepOf (l : Launch) (g : zG) (M : zM) (k : Nat) (hk : xk k = 8) (x1 : Int32) {r : Int32} (h : f_X9_stepOf M k x1 = some r) : zMi l g xE 125 yX9_stepOf (zWs yX9_stepOf cX9_stepOf 2 (some .int)) 2 [.ref (g.2.2 k), .int x1] M (fun v M1 => v = r ∧ M1 = M) :=
  zMi_of (by decide) (Nat.le_of_ble_eq_true rfl) (fun p e s m args below meth c Q ls E hret hZ hl => w_X9_stepOf g k hk E hret M rfl x1 _ _ ls h hZ hl)
theorem v_X9_stepOf : zYV yX9_stepOf cX9_stepOf 2 (some .int) 1 := ⟨kw_494, kw_3, kw_492, kw_493, by decide +kernel⟩

def b_X9_rangeOf_48  (k : Nat) (M : zM) (t0 : Int32) : Option (Int32) :=
  zck (decide (¬ (M k 6 : Int32) = 0)) (some ((M k 7) + ((((M k 8) - (M k 7)) * t0) / (M k 6))))
set_option maxRecDepth 100000 in
set_option maxHeartbeats 4000000 in
theorem lb_X9_rangeOf_48 (g : zG) (k : Nat) (hk : xk k = 8) {r : Int32} {M0 : zM} (E : zX g p m c cX9_rangeOf 4 s args (zWs yX9_rangeOf cX9_rangeOf 4 (some .int)) RX9) (hret : zRi g xE 125 p l e (zrm 2 0 0) s m args below meth c 0 0 Q cX9_rangeOf .int (fun v M1 => v = r ∧ M1 = M0)) (M : zM) (t0 : Int32) (hM : M = M0)  (H : Heap) (locs : List Loc) (ls : Array Slot) (h : b_X9_rangeOf_48  k M t0 = some r) (hZ : zS g xE 125 s H locs M) (hl : lv_has ls 4 [(0, .ref (g.2.2 k))]) : W p l e (zrm 2 0 0) s m args below meth c H locs 0 0 Q (F0 m 48 ls [.int t0]) := by
  have hx := E.1.1
  have hb := E.1.2.1
  unfold b_X9_rangeOf_48 at h
  refine lv_istore_n (lv' := [(3, .int t0), (0, .ref (g.2.2 k))]) hx hb dX9_rangeOf_48 rfl hl (by decide) rfl (fun ls hl => ?_)
  refine lv_aload_n hx hb dX9_rangeOf_49 rfl (lv_at hl 1 rfl) ?_
  refine zg (v := .int (M k 7)) E hZ (xb_X9 hk) ((xe_X9 hk) _) kc_X9 7 (by decide) kw_84 rfl rfl dX9_rangeOf_50 ?_
  refine lv_aload_n hx hb dX9_rangeOf_53 rfl (lv_at hl 1 rfl) ?_
  refine zg (v := .int (M k 8)) E hZ (xb_X9 hk) ((xe_X9 hk) _) kc_X9 8 (by decide) kw_87 rfl rfl dX9_rangeOf_54 ?_
  refine lv_aload_n hx hb dX9_rangeOf_57 rfl (lv_at hl 1 rfl) ?_
  refine zg (v := .int (M k 7)) E hZ (xb_X9 hk) ((xe_X9 hk) _) kc_X9 7 (by decide) kw_84 rfl rfl dX9_rangeOf_58 ?_
  refine lv_isub hx hb dX9_rangeOf_61 ?_
  refine lv_iload_n hx hb dX9_rangeOf_62 rfl (lv_at hl 0 rfl) ?_
  refine lv_imul hx hb dX9_rangeOf_63 ?_
  refine lv_aload_n hx hb dX9_rangeOf_64 rfl (lv_at hl 1 rfl) ?_
  refine zg (v := .int (M k 6)) E hZ (xb_X9 hk) ((xe_X9 hk) _) kc_X9 6 (by decide) kw_81 rfl rfl dX9_rangeOf_65 ?_
  refine zdv h E dX9_rangeOf_68 (fun h => ?_)
  refine lv_iadd hx hb dX9_rangeOf_69 ?_
  exact hret _ _ _ _ _ _ ⟨Option.some.inj h, hM⟩ rfl hZ dX9_rangeOf_70
def f_X9_rangeOf (M : zM) (k : Nat) (x1 : Int32) : Option (Int32) :=
  if 0 < (M k 6) then (zck (decide (¬ (M k 6 : Int32) = 0)) (znm (x1 - x1 / (M k 6) * (M k 6)) (fun x2_1 => if (2 * x2_1) ≤ (M k 6) then (b_X9_rangeOf_48  k M ((M k 6) - (2 * x2_1))) else (b_X9_rangeOf_48  k M ((2 * x2_1) - (M k 6)))))) else (some (M k 7))
set_option maxRecDepth 100000 in
set_option maxHeartbeats 4000000 in
theorem w_X9_rangeOf (g : zG) (k : Nat) (hk : xk k = 8) {r : Int32} {M0 : zM} (E : zX g p m c cX9_rangeOf 4 s args (zWs yX9_rangeOf cX9_rangeOf 4 (some .int)) RX9) (hret : zRi g xE 125 p l e (zrm 2 0 0) s m args below meth c 0 0 Q cX9_rangeOf .int (fun v M1 => v = r ∧ M1 = M0)) (M : zM) (hM : M = M0) (x1 : Int32) (H : Heap) (locs : List Loc) (ls : Array Slot) (h : f_X9_rangeOf M k x1 = some r) (hZ : zS g xE 125 s H locs M) (hl : lv_has ls 4 [(0, .ref (g.2.2 k)), (1, .int x1)]) : W p l e (zrm 2 0 0) s m args below meth c H locs 0 0 Q (F0 m 0 ls []) := by
  have hx := E.1.1
  have hb := E.1.2.1
  unfold f_X9_rangeOf at h
  refine lv_aload_n hx hb dX9_rangeOf_0 rfl (lv_at hl 0 rfl) ?_
  refine zg (v := .int (M k 6)) E hZ (xb_X9 hk) ((xe_X9 hk) _) kc_X9 6 (by decide) kw_81 rfl rfl dX9_rangeOf_1 ?_
  refine zif_gt (tgt := 12) h E dX9_rangeOf_4 (by decide) (fun c_3 h => ?_) (fun c_3 h => ?_)
  · refine lv_iload_n hx hb dX9_rangeOf_12 rfl (lv_at hl 1 rfl) ?_
    refine lv_aload_n hx hb dX9_rangeOf_13 rfl (lv_at hl 0 rfl) ?_
    refine zg (v := .int (M k 6)) E hZ (xb_X9 hk) ((xe_X9 hk) _) kc_X9 6 (by decide) kw_81 rfl rfl dX9_rangeOf_14 ?_
    refine zrem h E dX9_rangeOf_17 (fun h => ?_)
    refine zni h (fun x2_1 ex2_1 h => ?_)
    refine lv_istore_n (lv' := [(2, .int x2_1), (0, .ref (g.2.2 k)), (1, .int x1)]) hx hb dX9_rangeOf_18 rfl hl (by decide) rfl (fun ls hl => ?_)
    refine lv_iconst (v := 2) hx hb dX9_rangeOf_19 (by decide) ?_
    refine lv_iload_n hx hb dX9_rangeOf_20 rfl (lv_at hl 0 rfl) ?_
    refine lv_imul hx hb dX9_rangeOf_21 ?_
    refine lv_aload_n hx hb dX9_rangeOf_22 rfl (lv_at hl 1 rfl) ?_
    refine zg (v := .int (M k 6)) E hZ (xb_X9 hk) ((xe_X9 hk) _) kc_X9 6 (by decide) kw_81 rfl rfl dX9_rangeOf_23 ?_
    refine zic_le (tgt := 40) h E dX9_rangeOf_26 (by decide) (fun c_2 h => ?_) (fun c_2 h => ?_)
    · refine lv_aload_n hx hb dX9_rangeOf_40 rfl (lv_at hl 1 rfl) ?_
      refine zg (v := .int (M k 6)) E hZ (xb_X9 hk) ((xe_X9 hk) _) kc_X9 6 (by decide) kw_81 rfl rfl dX9_rangeOf_41 ?_
      refine lv_iconst (v := 2) hx hb dX9_rangeOf_44 (by decide) ?_
      refine lv_iload_n hx hb dX9_rangeOf_45 rfl (lv_at hl 0 rfl) ?_
      refine lv_imul hx hb dX9_rangeOf_46 ?_
      refine lv_isub hx hb dX9_rangeOf_47 ?_
      exact lb_X9_rangeOf_48 g k hk E hret M ((M k 6) - (2 * x2_1)) hM  H locs ls h hZ (lv_sub hl [1] rfl)
    · refine lv_iconst (v := 2) hx hb dX9_rangeOf_29 (by decide) ?_
      refine lv_iload_n hx hb dX9_rangeOf_30 rfl (lv_at hl 0 rfl) ?_
      refine lv_imul hx hb dX9_rangeOf_31 ?_
      refine lv_aload_n hx hb dX9_rangeOf_32 rfl (lv_at hl 1 rfl) ?_
      refine zg (v := .int (M k 6)) E hZ (xb_X9 hk) ((xe_X9 hk) _) kc_X9 6 (by decide) kw_81 rfl rfl dX9_rangeOf_33 ?_
      refine lv_isub hx hb dX9_rangeOf_36 ?_
      refine lv_goto (tgt := 48) hx hb dX9_rangeOf_37 (by decide) ?_
      exact lb_X9_rangeOf_48 g k hk E hret M ((2 * x2_1) - (M k 6)) hM  H locs ls h hZ (lv_sub hl [1] rfl)
  · refine lv_aload_n hx hb dX9_rangeOf_7 rfl (lv_at hl 0 rfl) ?_
    refine zg (v := .int (M k 7)) E hZ (xb_X9 hk) ((xe_X9 hk) _) kc_X9 7 (by decide) kw_84 rfl rfl dX9_rangeOf_8 ?_
    exact hret _ _ _ _ _ _ ⟨Option.some.inj h, hM⟩ rfl hZ dX9_rangeOf_11
theorem c_X9_rangeOf (l : Launch) (g : zG) (M : zM) (k : Nat) (hk : xk k = 8) (x1 : Int32) {r : Int32} (h : f_X9_rangeOf M k x1 = some r) : zMi l g xE 125 yX9_rangeOf (zWs yX9_rangeOf cX9_rangeOf 4 (some .int)) 2 [.ref (g.2.2 k), .int x1] M (fun v M1 => v = r ∧ M1 = M) :=
  zMi_of (by decide) (Nat.le_of_ble_eq_true rfl) (fun p e s m args below meth c Q ls E hret hZ hl => w_X9_rangeOf g k hk E hret M rfl x1 _ _ ls h hZ hl)
theorem v_X9_rangeOf : zYV yX9_rangeOf cX9_rangeOf 4 (some .int) 1 := ⟨kw_435, kw_3, kw_433, kw_434, by decide +kernel⟩

def f_X9_waterWith (M : zM) (k : Nat) (x1 : Int32) (x2 : Int32) : Option (Int32) :=
  if 0 < (M k 5) then (zck (decide (¬ (M k 5 : Int32) = 0)) (znm (x1 - x1 / (M k 5) * (M k 5)) (fun x3_1 => zck (decide (¬ (M k 5 : Int32) = 0)) (zbn (f_X9_rangeOf M k (x1 / (M k 5))) (fun u_2 => znm (if 0 ≤ ((2 * x3_1) - (M k 5)) then ((2 * x3_1) - (M k 5)) else 0 - ((2 * x3_1) - (M k 5))) (fun v_3 => zck (decide (¬ (M k 5 : Int32) = 0)) (znm ((u_2 * v_3) / (M k 5)) (fun x4_4 => znm (if 0 < (x4_4 + x2) then (x4_4 + x2) else 0) (fun v_5 => some v_5))))))))) else (some 0)
set_option maxRecDepth 100000 in
set_option maxHeartbeats 4000000 in
theorem w_X9_waterWith (g : zG) (k : Nat) (hk : xk k = 8) {r : Int32} {M0 : zM} (E : zX g p m c cX9_waterWith 5 s args (zWs yX9_waterWith cX9_waterWith 5 (some .int)) RX9) (hret : zRi g xE 125 p l e (zrm 3 0 0) s m args below meth c 0 0 Q cX9_waterWith .int (fun v M1 => v = r ∧ M1 = M0)) (M : zM) (hM : M = M0) (x1 : Int32) (x2 : Int32) (H : Heap) (locs : List Loc) (ls : Array Slot) (h : f_X9_waterWith M k x1 x2 = some r) (hZ : zS g xE 125 s H locs M) (hl : lv_has ls 5 [(0, .ref (g.2.2 k)), (1, .int x1), (2, .int x2)]) : W p l e (zrm 3 0 0) s m args below meth c H locs 0 0 Q (F0 m 0 ls []) := by
  have hx := E.1.1
  have hb := E.1.2.1
  unfold f_X9_waterWith at h
  refine lv_aload_n hx hb dX9_waterWith_0 rfl (lv_at hl 0 rfl) ?_
  refine zg (v := .int (M k 5)) E hZ (xb_X9 hk) ((xe_X9 hk) _) kc_X9 5 (by decide) kw_77 rfl rfl dX9_waterWith_1 ?_
  refine zif_gt (tgt := 9) h E dX9_waterWith_4 (by decide) (fun c_6 h => ?_) (fun c_6 h => ?_)
  · refine lv_iload_n hx hb dX9_waterWith_9 rfl (lv_at hl 1 rfl) ?_
    refine lv_aload_n hx hb dX9_waterWith_10 rfl (lv_at hl 0 rfl) ?_
    refine zg (v := .int (M k 5)) E hZ (xb_X9 hk) ((xe_X9 hk) _) kc_X9 5 (by decide) kw_77 rfl rfl dX9_waterWith_11 ?_
    refine zrem h E dX9_waterWith_14 (fun h => ?_)
    refine zni h (fun x3_1 ex3_1 h => ?_)
    refine lv_istore_n (lv' := [(3, .int x3_1), (0, .ref (g.2.2 k)), (1, .int x1), (2, .int x2)]) hx hb dX9_waterWith_15 rfl hl (by decide) rfl (fun ls hl => ?_)
    refine lv_aload_n hx hb dX9_waterWith_16 rfl (lv_at hl 1 rfl) ?_
    refine lv_iload_n hx hb dX9_waterWith_17 rfl (lv_at hl 2 rfl) ?_
    refine lv_aload_n hx hb dX9_waterWith_18 rfl (lv_at hl 1 rfl) ?_
    refine zg (v := .int (M k 5)) E hZ (xb_X9 hk) ((xe_X9 hk) _) kc_X9 5 (by decide) kw_77 rfl rfl dX9_waterWith_19 ?_
    refine zdv h E dX9_waterWith_22 (fun h => ?_)
    obtain ⟨u_2, qu_2, h⟩ := zbn_some h
    refine zciR (zrunV E hZ (xb_X9 hk) ((xe_X9 hk) _) rfl rfl v_X9_rangeOf kw_448 (c_X9_rangeOf l g M k hk (x1 / (M k 5)) qu_2 _) rfl hl.1 rfl (Nat.le_of_ble_eq_true rfl) ⟨by decide, by decide⟩ ⟨Nat.le_refl _, Nat.le_refl _⟩ dX9_waterWith_23) hZ (fun H locs hZ => ?_)
    refine lv_iconst (v := 2) hx hb dX9_waterWith_26 (by decide) ?_
    refine lv_iload_n hx hb dX9_waterWith_27 rfl (lv_at hl 0 rfl) ?_
    refine lv_imul hx hb dX9_waterWith_28 ?_
    refine lv_aload_n hx hb dX9_waterWith_29 rfl (lv_at hl 1 rfl) ?_
    refine zg (v := .int (M k 5)) E hZ (xb_X9 hk) ((xe_X9 hk) _) kc_X9 5 (by decide) kw_77 rfl rfl dX9_waterWith_30 ?_
    refine lv_isub hx hb dX9_waterWith_33 ?_
    refine va_mabs hx hb (E.1.2.2.1.trans hl.1.symm) E.1.2.2.2.1 (E.w kw_449) (E.w kw_450) (E.w kw_16) (E.w kw_451) (Nat.le_of_ble_eq_true rfl) (Nat.le_of_ble_eq_true rfl) (Nat.le_of_ble_eq_true rfl) (Nat.le_of_ble_eq_true rfl) dX9_waterWith_34 ?_
    refine zni h (fun v_3 ev_3 h => ?_)
    refine lv_imul hx hb dX9_waterWith_37 ?_
    refine lv_aload_n hx hb dX9_waterWith_38 rfl (lv_at hl 1 rfl) ?_
    refine zg (v := .int (M k 5)) E hZ (xb_X9 hk) ((xe_X9 hk) _) kc_X9 5 (by decide) kw_77 rfl rfl dX9_waterWith_39 ?_
    refine zdv h E dX9_waterWith_42 (fun h => ?_)
    refine zni h (fun x4_4 ex4_4 h => ?_)
    refine lv_istore (lv' := [(4, .int x4_4), (3, .int x3_1), (0, .ref (g.2.2 k)), (1, .int x1), (2, .int x2)]) hx hb dX9_waterWith_43 hl (by decide) rfl (fun ls hl => ?_)
    refine lv_iconst (v := 0) hx hb dX9_waterWith_45 (by decide) ?_
    refine lv_iload hx hb dX9_waterWith_46 (lv_at hl 0 rfl) ?_
    refine lv_iload_n hx hb dX9_waterWith_48 rfl (lv_at hl 4 rfl) ?_
    refine lv_iadd hx hb dX9_waterWith_49 ?_
    refine va_mmax hx hb (E.1.2.2.1.trans hl.1.symm) E.1.2.2.2.1 (E.w kw_452) (E.w kw_453) (E.w kw_16) (E.w kw_454) (Nat.le_of_ble_eq_true rfl) (Nat.le_of_ble_eq_true rfl) (Nat.le_of_ble_eq_true rfl) (Nat.le_of_ble_eq_true rfl) dX9_waterWith_50 ?_
    refine zni h (fun v_5 ev_5 h => ?_)
    exact hret _ _ _ _ _ _ ⟨Option.some.inj h, hM⟩ rfl hZ dX9_waterWith_53
  · refine lv_iconst (v := 0) hx hb dX9_waterWith_7 (by decide) ?_
    exact hret _ _ _ _ _ _ ⟨Option.some.inj h, hM⟩ rfl hZ dX9_waterWith_8
theorem c_X9_waterWith (l : Launch) (g : zG) (M : zM) (k : Nat) (hk : xk k = 8) (x1 : Int32) (x2 : Int32) {r : Int32} (h : f_X9_waterWith M k x1 x2 = some r) : zMi l g xE 125 yX9_waterWith (zWs yX9_waterWith cX9_waterWith 5 (some .int)) 3 [.ref (g.2.2 k), .int x1, .int x2] M (fun v M1 => v = r ∧ M1 = M) :=
  zMi_of (by decide) (Nat.le_of_ble_eq_true rfl) (fun p e s m args below meth c Q ls E hret hZ hl => w_X9_waterWith g k hk E hret M rfl x1 x2 _ _ ls h hZ hl)
theorem v_X9_waterWith : zYV yX9_waterWith cX9_waterWith 5 (some .int) 2 := ⟨kw_447, kw_3, kw_445, kw_446, by decide +kernel⟩

def f_X9_waterIn (M : zM) (k : Nat) (x1 : Int32) : Option (Int32) :=
  zbn (f_X9_waterWith M k x1 (M k 1)) (fun u_1 => some u_1)
set_option maxRecDepth 100000 in
set_option maxHeartbeats 4000000 in
theorem w_X9_waterIn (g : zG) (k : Nat) (hk : xk k = 8) {r : Int32} {M0 : zM} (E : zX g p m c cX9_waterIn 2 s args (zWs yX9_waterIn cX9_waterIn 2 (some .int)) RX9) (hret : zRi g xE 125 p l e (zrm 4 0 0) s m args below meth c 0 0 Q cX9_waterIn .int (fun v M1 => v = r ∧ M1 = M0)) (M : zM) (hM : M = M0) (x1 : Int32) (H : Heap) (locs : List Loc) (ls : Array Slot) (h : f_X9_waterIn M k x1 = some r) (hZ : zS g xE 125 s H locs M) (hl : lv_has ls 2 [(0, .ref (g.2.2 k)), (1, .int x1)]) : W p l e (zrm 4 0 0) s m args below meth c H locs 0 0 Q (F0 m 0 ls []) := by
  have hx := E.1.1
  have hb := E.1.2.1
  unfold f_X9_waterIn at h
  refine lv_aload_n hx hb dX9_waterIn_0 rfl (lv_at hl 0 rfl) ?_
  refine lv_iload_n hx hb dX9_waterIn_1 rfl (lv_at hl 1 rfl) ?_
  refine lv_aload_n hx hb dX9_waterIn_2 rfl (lv_at hl 0 rfl) ?_
  refine zg (v := .int (M k 1)) E hZ (xb_X9 hk) ((xe_X9 hk) _) kc_X9 1 (by decide) kw_66 rfl rfl dX9_waterIn_3 ?_
  obtain ⟨u_1, qu_1, h⟩ := zbn_some h
  refine zciR (zrunV E hZ (xb_X9 hk) ((xe_X9 hk) _) rfl rfl v_X9_waterWith kw_444 (c_X9_waterWith l g M k hk x1 (M k 1) qu_1 _) rfl hl.1 rfl (Nat.le_of_ble_eq_true rfl) ⟨by decide, by decide⟩ ⟨Nat.le_refl _, Nat.le_refl _⟩ dX9_waterIn_6) hZ (fun H locs hZ => ?_)
  exact hret _ _ _ _ _ _ ⟨Option.some.inj h, hM⟩ rfl hZ dX9_waterIn_9
theorem c_X9_waterIn (l : Launch) (g : zG) (M : zM) (k : Nat) (hk : xk k = 8) (x1 : Int32) {r : Int32} (h : f_X9_waterIn M k x1 = some r) : zMi l g xE 125 yX9_waterIn (zWs yX9_waterIn cX9_waterIn 2 (some .int)) 4 [.ref (g.2.2 k), .int x1] M (fun v M1 => v = r ∧ M1 = M) :=
  zMi_of (by decide) (Nat.le_of_ble_eq_true rfl) (fun p e s m args below meth c Q ls E hret hZ hl => w_X9_waterIn g k hk E hret M rfl x1 _ _ ls h hZ hl)
theorem v_X9_waterIn : zYV yX9_waterIn cX9_waterIn 2 (some .int) 1 := ⟨kw_443, kw_3, kw_441, kw_442, by decide +kernel⟩

def b_X9_depthBy_23  (k : Nat) (M : zM) (x1 : Int32) (t0 : Int32) : Option (Int32) :=
  if x1 ≤ t0 then (some 0) else (some (x1 - t0))
set_option maxRecDepth 100000 in
set_option maxHeartbeats 4000000 in
theorem lb_X9_depthBy_23 (g : zG) (k : Nat) (hk : xk k = 8) {r : Int32} {M0 : zM} (E : zX g p m c cX9_depthBy 4 s args (zWs yX9_depthBy cX9_depthBy 4 (some .int)) RX9) (hret : zRi g xE 125 p l e (zrm 2 0 0) s m args below meth c 0 0 Q cX9_depthBy .int (fun v M1 => v = r ∧ M1 = M0)) (M : zM) (x1 : Int32) (t0 : Int32) (hM : M = M0)  (H : Heap) (locs : List Loc) (ls : Array Slot) (h : b_X9_depthBy_23  k M x1 t0 = some r) (hZ : zS g xE 125 s H locs M) (hl : lv_has ls 4 [(1, .int x1)]) : W p l e (zrm 2 0 0) s m args below meth c H locs 0 0 Q (F0 m 23 ls [.int t0]) := by
  have hx := E.1.1
  have hb := E.1.2.1
  unfold b_X9_depthBy_23 at h
  refine lv_istore_n (lv' := [(3, .int t0), (1, .int x1)]) hx hb dX9_depthBy_23 rfl hl (by decide) rfl (fun ls hl => ?_)
  refine lv_iload_n hx hb dX9_depthBy_24 rfl (lv_at hl 1 rfl) ?_
  refine lv_iload_n hx hb dX9_depthBy_25 rfl (lv_at hl 0 rfl) ?_
  refine zic_le (tgt := 35) h E dX9_depthBy_26 (by decide) (fun c_1 h => ?_) (fun c_1 h => ?_)
  · refine lv_iconst (v := 0) hx hb dX9_depthBy_35 (by decide) ?_
    exact hret _ _ _ _ _ _ ⟨Option.some.inj h, hM⟩ rfl hZ dX9_depthBy_36
  · refine lv_iload_n hx hb dX9_depthBy_29 rfl (lv_at hl 1 rfl) ?_
    refine lv_iload_n hx hb dX9_depthBy_30 rfl (lv_at hl 0 rfl) ?_
    refine lv_isub hx hb dX9_depthBy_31 ?_
    refine lv_goto (tgt := 36) hx hb dX9_depthBy_32 (by decide) ?_
    exact hret _ _ _ _ _ _ ⟨Option.some.inj h, hM⟩ rfl hZ dX9_depthBy_36
def b_X9_depthBy_22  (k : Nat) (M : zM) (x1 : Int32) : Option (Int32) :=
  b_X9_depthBy_23  k M x1 0
set_option maxRecDepth 100000 in
set_option maxHeartbeats 4000000 in
theorem lb_X9_depthBy_22 (g : zG) (k : Nat) (hk : xk k = 8) {r : Int32} {M0 : zM} (E : zX g p m c cX9_depthBy 4 s args (zWs yX9_depthBy cX9_depthBy 4 (some .int)) RX9) (hret : zRi g xE 125 p l e (zrm 2 0 0) s m args below meth c 0 0 Q cX9_depthBy .int (fun v M1 => v = r ∧ M1 = M0)) (M : zM) (x1 : Int32) (hM : M = M0)  (H : Heap) (locs : List Loc) (ls : Array Slot) (h : b_X9_depthBy_22  k M x1 = some r) (hZ : zS g xE 125 s H locs M) (hl : lv_has ls 4 [(1, .int x1)]) : W p l e (zrm 2 0 0) s m args below meth c H locs 0 0 Q (F0 m 22 ls []) := by
  have hx := E.1.1
  have hb := E.1.2.1
  unfold b_X9_depthBy_22 at h
  refine lv_iconst (v := 0) hx hb dX9_depthBy_22 (by decide) ?_
  exact lb_X9_depthBy_23 g k hk E hret M x1 0 hM  H locs ls h hZ (lv_sub hl [0] rfl)
def f_X9_depthBy (M : zM) (k : Nat) (x1 : Int32) (x2 : Int32) : Option (Int32) :=
  if x2 < 0 then (b_X9_depthBy_22  k M x1) else (if 12 ≤ x2 then (b_X9_depthBy_22  k M x1) else (zck (zin x2 12) (b_X9_depthBy_23  k M x1 (M (k + 1) (x2 : Int32).toNatClampNeg))))
set_option maxRecDepth 100000 in
set_option maxHeartbeats 4000000 in
theorem w_X9_depthBy (g : zG) (k : Nat) (hk : xk k = 8) {r : Int32} {M0 : zM} (E : zX g p m c cX9_depthBy 4 s args (zWs yX9_depthBy cX9_depthBy 4 (some .int)) RX9) (hret : zRi g xE 125 p l e (zrm 2 0 0) s m args below meth c 0 0 Q cX9_depthBy .int (fun v M1 => v = r ∧ M1 = M0)) (M : zM) (hM : M = M0) (x1 : Int32) (x2 : Int32) (H : Heap) (locs : List Loc) (ls : Array Slot) (h : f_X9_depthBy M k x1 x2 = some r) (hZ : zS g xE 125 s H locs M) (hl : lv_has ls 4 [(0, .ref (g.2.2 k)), (1, .int x1), (2, .int x2)]) : W p l e (zrm 2 0 0) s m args below meth c H locs 0 0 Q (F0 m 0 ls []) := by
  have hx := E.1.1
  have hb := E.1.2.1
  unfold f_X9_depthBy at h
  refine lv_iload_n hx hb dX9_depthBy_0 rfl (lv_at hl 2 rfl) ?_
  refine zif_lt (tgt := 22) h E dX9_depthBy_1 (by decide) (fun c_3 h => ?_) (fun c_3 h => ?_)
  · exact lb_X9_depthBy_22 g k hk E hret M x1 hM  H locs ls h hZ (lv_sub hl [1] rfl)
  · refine lv_iload_n hx hb dX9_depthBy_4 rfl (lv_at hl 2 rfl) ?_
    refine lv_aload_n hx hb dX9_depthBy_5 rfl (lv_at hl 0 rfl) ?_
    refine zg (v := .ref (g.2.2 (k + 1))) E hZ (xb_X9 hk) ((xe_X9 hk) _) kc_X9 15 (by decide) kw_110 rfl rfl dX9_depthBy_6 ?_
    refine zal (v := 12) E hZ 0 rfl (xb_I (xc_X9_ground hk).1) (xe_IL (xc_X9_ground hk)) (by decide) dX9_depthBy_9 ?_
    refine zic_ge (tgt := 22) h E dX9_depthBy_10 (by decide) (fun c_2 h => ?_) (fun c_2 h => ?_)
    · exact lb_X9_depthBy_22 g k hk E hret M x1 hM  H locs ls h hZ (lv_sub hl [1] rfl)
    · refine lv_aload_n hx hb dX9_depthBy_13 rfl (lv_at hl 0 rfl) ?_
      refine zg (v := .ref (g.2.2 (k + 1))) E hZ (xb_X9 hk) ((xe_X9 hk) _) kc_X9 15 (by decide) kw_110 rfl rfl dX9_depthBy_14 ?_
      refine lv_iload_n hx hb dX9_depthBy_17 rfl (lv_at hl 2 rfl) ?_
      refine zia h E hZ (xb_I (xc_X9_ground hk).1) (xe_IL (xc_X9_ground hk)) dX9_depthBy_18 (fun h => ?_)
      refine lv_goto (tgt := 23) hx hb dX9_depthBy_19 (by decide) ?_
      exact lb_X9_depthBy_23 g k hk E hret M x1 (M (k + 1) (x2 : Int32).toNatClampNeg) hM  H locs ls h hZ (lv_sub hl [1] rfl)
theorem c_X9_depthBy (l : Launch) (g : zG) (M : zM) (k : Nat) (hk : xk k = 8) (x1 : Int32) (x2 : Int32) {r : Int32} (h : f_X9_depthBy M k x1 x2 = some r) : zMi l g xE 125 yX9_depthBy (zWs yX9_depthBy cX9_depthBy 4 (some .int)) 2 [.ref (g.2.2 k), .int x1, .int x2] M (fun v M1 => v = r ∧ M1 = M) :=
  zMi_of (by decide) (Nat.le_of_ble_eq_true rfl) (fun p e s m args below meth c Q ls E hret hZ hl => w_X9_depthBy g k hk E hret M rfl x1 x2 _ _ ls h hZ hl)
theorem v_X9_depthBy : zYV yX9_depthBy cX9_depthBy 4 (some .int) 2 := ⟨kw_469, kw_3, kw_467, kw_468, by decide +kernel⟩

def f_X9_printedBy (M : zM) (k : Nat) (x1 : Int32) (x2 : Int32) : Option (Int32) :=
  zbn (f_X10_at M (k + 2) x2) (fun u_1 => some ((((M k 5) * x2) + x1) + u_1))
set_option maxRecDepth 100000 in
set_option maxHeartbeats 4000000 in
theorem w_X9_printedBy (g : zG) (k : Nat) (hk : xk k = 8) {r : Int32} {M0 : zM} (E : zX g p m c cX9_printedBy 3 s args (zWs yX9_printedBy cX9_printedBy 3 (some .int)) RX9) (hret : zRi g xE 125 p l e (zrm 3 0 0) s m args below meth c 0 0 Q cX9_printedBy .int (fun v M1 => v = r ∧ M1 = M0)) (M : zM) (hM : M = M0) (x1 : Int32) (x2 : Int32) (H : Heap) (locs : List Loc) (ls : Array Slot) (h : f_X9_printedBy M k x1 x2 = some r) (hZ : zS g xE 125 s H locs M) (hl : lv_has ls 3 [(0, .ref (g.2.2 k)), (1, .int x1), (2, .int x2)]) : W p l e (zrm 3 0 0) s m args below meth c H locs 0 0 Q (F0 m 0 ls []) := by
  have hx := E.1.1
  have hb := E.1.2.1
  unfold f_X9_printedBy at h
  refine lv_aload_n hx hb dX9_printedBy_0 rfl (lv_at hl 0 rfl) ?_
  refine zg (v := .int (M k 5)) E hZ (xb_X9 hk) ((xe_X9 hk) _) kc_X9 5 (by decide) kw_77 rfl rfl dX9_printedBy_1 ?_
  refine lv_iload_n hx hb dX9_printedBy_4 rfl (lv_at hl 2 rfl) ?_
  refine lv_imul hx hb dX9_printedBy_5 ?_
  refine lv_iload_n hx hb dX9_printedBy_6 rfl (lv_at hl 1 rfl) ?_
  refine lv_iadd hx hb dX9_printedBy_7 ?_
  refine lv_aload_n hx hb dX9_printedBy_8 rfl (lv_at hl 0 rfl) ?_
  refine zg (v := .ref (g.2.2 (k + 2))) E hZ (xb_X9 hk) ((xe_X9 hk) _) kc_X9 16 (by decide) kw_114 rfl rfl dX9_printedBy_9 ?_
  refine lv_iload_n hx hb dX9_printedBy_12 rfl (lv_at hl 2 rfl) ?_
  obtain ⟨u_1, qu_1, h⟩ := zbn_some h
  refine zciR (zrunSN E hZ v_X10_at kw_425 (c_X10_at l g M (k + 2) (xc_X9_errors hk).1 x2 qu_1 _) rfl hl.1 rfl (Nat.le_of_ble_eq_true rfl) ⟨by decide, by decide⟩ ⟨Nat.le_refl _, Nat.le_refl _⟩ dX9_printedBy_13) hZ (fun H locs hZ => ?_)
  refine lv_iadd hx hb dX9_printedBy_16 ?_
  exact hret _ _ _ _ _ _ ⟨Option.some.inj h, hM⟩ rfl hZ dX9_printedBy_17
theorem c_X9_printedBy (l : Launch) (g : zG) (M : zM) (k : Nat) (hk : xk k = 8) (x1 : Int32) (x2 : Int32) {r : Int32} (h : f_X9_printedBy M k x1 x2 = some r) : zMi l g xE 125 yX9_printedBy (zWs yX9_printedBy cX9_printedBy 3 (some .int)) 3 [.ref (g.2.2 k), .int x1, .int x2] M (fun v M1 => v = r ∧ M1 = M) :=
  zMi_of (by decide) (Nat.le_of_ble_eq_true rfl) (fun p e s m args below meth c Q ls E hret hZ hl => w_X9_printedBy g k hk E hret M rfl x1 x2 _ _ ls h hZ hl)
theorem v_X9_printedBy : zYV yX9_printedBy cX9_printedBy 3 (some .int) 2 := ⟨kw_424, kw_3, kw_422, kw_423, by decide +kernel⟩

def f_X9_draw (M : zM) (k : Nat) : Option (Int32 × zM) :=
  znm (zu M k 2 ((1103515245 * (M k 2)) + 12345)) (fun M_1 => some ((((M_1 k 2).toUInt32 >>> ((16 : Int32).toUInt32 &&& Int32.toUInt32 31)).toInt32) &&& 32767, M_1))
set_option maxRecDepth 100000 in
set_option maxHeartbeats 4000000 in
theorem w_X9_draw (g : zG) (k : Nat) (hk : xk k = 8) {r : Int32 × zM} (E : zX g p m c cX9_draw 1 s args (zWs yX9_draw cX9_draw 1 (some .int)) RX9) (hret : zRi g xE 125 p l e (zrm 2 0 0) s m args below meth c 0 0 Q cX9_draw .int (fun v M1 => r = (v, M1))) (M : zM)  (H : Heap) (locs : List Loc) (ls : Array Slot) (h : f_X9_draw M k = some r) (hZ : zS g xE 125 s H locs M) (hl : lv_has ls 1 [(0, .ref (g.2.2 k))]) : W p l e (zrm 2 0 0) s m args below meth c H locs 0 0 Q (F0 m 0 ls []) := by
  have hx := E.1.1
  have hb := E.1.2.1
  unfold f_X9_draw at h
  refine lv_aload_n hx hb dX9_draw_0 rfl (lv_at hl 0 rfl) ?_
  refine lv_ldc (v := 1103515245) hx hb E.1.2.2.2.1 (E.w kw_1039) dX9_draw_1 ?_
  refine lv_aload_n hx hb dX9_draw_3 rfl (lv_at hl 0 rfl) ?_
  refine zg (v := .int (M k 2)) E hZ (xb_X9 hk) ((xe_X9 hk) _) kc_X9 2 (by decide) kw_69 rfl rfl dX9_draw_4 ?_
  refine lv_imul hx hb dX9_draw_7 ?_
  refine lv_sipush (v := 12345) hx hb dX9_draw_8 (by decide) ?_
  refine lv_iadd hx hb dX9_draw_11 ?_
  refine zp h E hZ (xb_X9 hk) ((xe_X9 hk) _) (((xe_X9 hk) _).trans (congrArg (fun z => Sum.inr (8, z)) (fs_X9_2 g _ _ _))) kc_X9 (by decide) kw_69 rfl rfl rfl (Nat.le_of_ble_eq_true rfl) dX9_draw_12 (fun M_1 H locs eM_1 h hZ => ?_)
  refine lv_aload_n hx hb dX9_draw_15 rfl (lv_at hl 0 rfl) ?_
  refine zg (v := .int (M_1 k 2)) E hZ (xb_X9 hk) ((xe_X9 hk) _) kc_X9 2 (by decide) kw_69 rfl rfl dX9_draw_16 ?_
  refine lv_bipush (v := 16) hx hb dX9_draw_19 (by decide) ?_
  refine lv_iushr hx hb dX9_draw_21 rfl ?_
  refine lv_sipush (v := 32767) hx hb dX9_draw_22 (by decide) ?_
  refine lv_iand hx hb dX9_draw_25 ?_
  exact hret _ _ _ _ _ _ (Option.some.inj h).symm rfl hZ dX9_draw_26
theorem c_X9_draw (l : Launch) (g : zG) (M : zM) (k : Nat) (hk : xk k = 8)  {r : Int32 × zM} (h : f_X9_draw M k = some r) : zMi l g xE 125 yX9_draw (zWs yX9_draw cX9_draw 1 (some .int)) 2 [.ref (g.2.2 k)] M (fun v M1 => r = (v, M1)) :=
  zMi_of (by decide) (Nat.le_of_ble_eq_true rfl) (fun p e s m args below meth c Q ls E hret hZ hl => w_X9_draw g k hk E hret M  _ _ ls h hZ hl)
theorem v_X9_draw : zYV yX9_draw cX9_draw 1 (some .int) 0 := ⟨kw_1038, kw_3, kw_1036, kw_1037, by decide +kernel⟩

def f_X9_blow (M : zM) (k : Nat) : Option (zM) :=
  znm (zu M k 1 0) (fun M_1 => zbn (f_X9_draw M_1 k) (fun u_2 => zck (decide (¬ (100 : Int32) = 0)) (if (u_2.2 k 4) ≤ (u_2.1 - u_2.1 / 100 * 100) then (some u_2.2) else (zbn (f_X9_draw u_2.2 k) (fun u_3 => zck (decide (¬ (11 : Int32) = 0)) (znm (zu u_3.2 k 1 ((u_3.1 - u_3.1 / 11 * 11) - 5)) (fun M_4 => some M_4)))))))
set_option maxRecDepth 100000 in
set_option maxHeartbeats 4000000 in
theorem w_X9_blow (g : zG) (k : Nat) (hk : xk k = 8) {r : zM} (E : zX g p m c cX9_blow 1 s args (zWs yX9_blow cX9_blow 1 none) RX9) (hret : zRv g xE 125 p l e (zrm 3 0 0) s m args below meth c 0 0 Q cX9_blow (fun M1 => M1 = r)) (M : zM)  (H : Heap) (locs : List Loc) (ls : Array Slot) (h : f_X9_blow M k = some r) (hZ : zS g xE 125 s H locs M) (hl : lv_has ls 1 [(0, .ref (g.2.2 k))]) : W p l e (zrm 3 0 0) s m args below meth c H locs 0 0 Q (F0 m 0 ls []) := by
  have hx := E.1.1
  have hb := E.1.2.1
  unfold f_X9_blow at h
  refine lv_aload_n hx hb dX9_blow_0 rfl (lv_at hl 0 rfl) ?_
  refine lv_iconst (v := 0) hx hb dX9_blow_1 (by decide) ?_
  refine zp h E hZ (xb_X9 hk) ((xe_X9 hk) _) (((xe_X9 hk) _).trans (congrArg (fun z => Sum.inr (8, z)) (fs_X9_1 g _ _ _))) kc_X9 (by decide) kw_66 rfl rfl rfl (Nat.le_of_ble_eq_true rfl) dX9_blow_2 (fun M_1 H locs eM_1 h hZ => ?_)
  refine lv_aload_n hx hb dX9_blow_5 rfl (lv_at hl 0 rfl) ?_
  obtain ⟨u_2, qu_2, h⟩ := zbn_some h
  refine zciS (zrunV E hZ (xb_X9 hk) ((xe_X9 hk) _) rfl rfl v_X9_draw kw_1035 (c_X9_draw l g M_1 k hk  qu_2 _) rfl hl.1 rfl (Nat.le_of_ble_eq_true rfl) ⟨by decide, by decide⟩ ⟨Nat.le_refl _, Nat.le_refl _⟩ dX9_blow_6) hZ (fun H locs hZ => ?_)
  refine lv_bipush (v := 100) hx hb dX9_blow_9 (by decide) ?_
  refine zrem h E dX9_blow_11 (fun h => ?_)
  refine lv_aload_n hx hb dX9_blow_12 rfl (lv_at hl 0 rfl) ?_
  refine zg (v := .int (u_2.2 k 4)) E hZ (xb_X9 hk) ((xe_X9 hk) _) kc_X9 4 (by decide) kw_74 rfl rfl dX9_blow_13 ?_
  refine zic_ge (tgt := 32) h E dX9_blow_16 (by decide) (fun c_5 h => ?_) (fun c_5 h => ?_)
  · exact hret _ _ _ _ _ (Option.some.inj h) hZ dX9_blow_32
  · refine lv_aload_n hx hb dX9_blow_19 rfl (lv_at hl 0 rfl) ?_
    refine lv_aload_n hx hb dX9_blow_20 rfl (lv_at hl 0 rfl) ?_
    obtain ⟨u_3, qu_3, h⟩ := zbn_some h
    refine zciS (zrunV E hZ (xb_X9 hk) ((xe_X9 hk) _) rfl rfl v_X9_draw kw_1035 (c_X9_draw l g u_2.2 k hk  qu_3 _) rfl hl.1 rfl (Nat.le_of_ble_eq_true rfl) ⟨by decide, by decide⟩ ⟨Nat.le_refl _, Nat.le_refl _⟩ dX9_blow_21) hZ (fun H locs hZ => ?_)
    refine lv_bipush (v := 11) hx hb dX9_blow_24 (by decide) ?_
    refine zrem h E dX9_blow_26 (fun h => ?_)
    refine lv_iconst (v := 5) hx hb dX9_blow_27 (by decide) ?_
    refine lv_isub hx hb dX9_blow_28 ?_
    refine zp h E hZ (xb_X9 hk) ((xe_X9 hk) _) (((xe_X9 hk) _).trans (congrArg (fun z => Sum.inr (8, z)) (fs_X9_1 g _ _ _))) kc_X9 (by decide) kw_66 rfl rfl rfl (Nat.le_of_ble_eq_true rfl) dX9_blow_29 (fun M_4 H locs eM_4 h hZ => ?_)
    exact hret _ _ _ _ _ (Option.some.inj h) hZ dX9_blow_32
theorem c_X9_blow (l : Launch) (g : zG) (M : zM) (k : Nat) (hk : xk k = 8)  {r : zM} (h : f_X9_blow M k = some r) : zMv l g xE 125 yX9_blow (zWs yX9_blow cX9_blow 1 none) 3 [.ref (g.2.2 k)] M (fun M1 => M1 = r) :=
  zMv_of (by decide) (Nat.le_of_ble_eq_true rfl) (fun p e s m args below meth c Q ls E hret hZ hl => w_X9_blow g k hk E hret M  _ _ ls h hZ hl)
theorem v_X9_blow : zYV yX9_blow cX9_blow 1 none 0 := ⟨kw_1034, kw_3, kw_1032, kw_1033, by decide +kernel⟩

def f_X9_addRow (M : zM) (k : Nat) (x1 : Int32) (x2 : Int32) (x3 : Int32) (x4 : Int32) : Option (zM) :=
  zck (decide (¬ (60 : Int32) = 0)) (zbn (f_X10_put M (k + 5) ((M k 14) - (M k 14) / 60 * 60) (((x1 ||| (x2 <<< (14 &&& 31))) ||| (x3 <<< (17 &&& 31))) ||| (x4 <<< (18 &&& 31)))) (fun u_1 => znm (zu u_1 k 14 ((u_1 k 14) + 1)) (fun M_2 => some M_2)))
set_option maxRecDepth 100000 in
set_option maxHeartbeats 4000000 in
theorem w_X9_addRow (g : zG) (k : Nat) (hk : xk k = 8) {r : zM} (E : zX g p m c cX9_addRow 5 s args (zWs yX9_addRow cX9_addRow 5 none) RX9) (hret : zRv g xE 125 p l e (zrm 3 0 0) s m args below meth c 0 0 Q cX9_addRow (fun M1 => M1 = r)) (M : zM) (x1 : Int32) (x2 : Int32) (x3 : Int32) (x4 : Int32) (H : Heap) (locs : List Loc) (ls : Array Slot) (h : f_X9_addRow M k x1 x2 x3 x4 = some r) (hZ : zS g xE 125 s H locs M) (hl : lv_has ls 5 [(0, .ref (g.2.2 k)), (1, .int x1), (2, .int x2), (3, .int x3), (4, .int x4)]) : W p l e (zrm 3 0 0) s m args below meth c H locs 0 0 Q (F0 m 0 ls []) := by
  have hx := E.1.1
  have hb := E.1.2.1
  unfold f_X9_addRow at h
  refine lv_aload_n hx hb dX9_addRow_0 rfl (lv_at hl 0 rfl) ?_
  refine zg (v := .ref (g.2.2 (k + 5))) E hZ (xb_X9 hk) ((xe_X9 hk) _) kc_X9 19 (by decide) kw_119 rfl rfl dX9_addRow_1 ?_
  refine lv_aload_n hx hb dX9_addRow_4 rfl (lv_at hl 0 rfl) ?_
  refine zg (v := .int (M k 14)) E hZ (xb_X9 hk) ((xe_X9 hk) _) kc_X9 14 (by decide) kw_109 rfl rfl dX9_addRow_5 ?_
  refine lv_bipush (v := 60) hx hb dX9_addRow_8 (by decide) ?_
  refine zrem h E dX9_addRow_10 (fun h => ?_)
  refine lv_iload_n hx hb dX9_addRow_11 rfl (lv_at hl 1 rfl) ?_
  refine lv_iload_n hx hb dX9_addRow_12 rfl (lv_at hl 2 rfl) ?_
  refine lv_bipush (v := 14) hx hb dX9_addRow_13 (by decide) ?_
  refine lv_ishl hx hb dX9_addRow_15 ?_
  refine lv_ior hx hb dX9_addRow_16 ?_
  refine lv_iload_n hx hb dX9_addRow_17 rfl (lv_at hl 3 rfl) ?_
  refine lv_bipush (v := 17) hx hb dX9_addRow_18 (by decide) ?_
  refine lv_ishl hx hb dX9_addRow_20 ?_
  refine lv_ior hx hb dX9_addRow_21 ?_
  refine lv_iload hx hb dX9_addRow_22 (lv_at hl 4 rfl) ?_
  refine lv_bipush (v := 18) hx hb dX9_addRow_24 (by decide) ?_
  refine lv_ishl hx hb dX9_addRow_26 ?_
  refine lv_ior hx hb dX9_addRow_27 ?_
  obtain ⟨u_1, qu_1, h⟩ := zbn_some h
  refine zcvS (zrunSN E hZ v_X10_put kw_673 (c_X10_put l g M (k + 5) (xc_X9_logRows hk).1 ((M k 14) - (M k 14) / 60 * 60) (((x1 ||| (x2 <<< (14 &&& 31))) ||| (x3 <<< (17 &&& 31))) ||| (x4 <<< (18 &&& 31))) qu_1 _) rfl hl.1 rfl (Nat.le_of_ble_eq_true rfl) ⟨by decide, by decide⟩ ⟨Nat.le_refl _, Nat.le_refl _⟩ dX9_addRow_28) hZ (fun H locs hZ => ?_)
  refine lv_aload_n hx hb dX9_addRow_31 rfl (lv_at hl 0 rfl) ?_
  refine lv_dup hx hb dX9_addRow_32 rfl ?_
  refine zg (v := .int (u_1 k 14)) E hZ (xb_X9 hk) ((xe_X9 hk) _) kc_X9 14 (by decide) kw_109 rfl rfl dX9_addRow_33 ?_
  refine lv_iconst (v := 1) hx hb dX9_addRow_36 (by decide) ?_
  refine lv_iadd hx hb dX9_addRow_37 ?_
  refine zp h E hZ (xb_X9 hk) ((xe_X9 hk) _) (((xe_X9 hk) _).trans (congrArg (fun z => Sum.inr (8, z)) (fs_X9_14 g _ _ _))) kc_X9 (by decide) kw_109 rfl rfl rfl (Nat.le_of_ble_eq_true rfl) dX9_addRow_38 (fun M_2 H locs eM_2 h hZ => ?_)
  exact hret _ _ _ _ _ (Option.some.inj h) hZ dX9_addRow_41
theorem c_X9_addRow (l : Launch) (g : zG) (M : zM) (k : Nat) (hk : xk k = 8) (x1 : Int32) (x2 : Int32) (x3 : Int32) (x4 : Int32) {r : zM} (h : f_X9_addRow M k x1 x2 x3 x4 = some r) : zMv l g xE 125 yX9_addRow (zWs yX9_addRow cX9_addRow 5 none) 3 [.ref (g.2.2 k), .int x1, .int x2, .int x3, .int x4] M (fun M1 => M1 = r) :=
  zMv_of (by decide) (Nat.le_of_ble_eq_true rfl) (fun p e s m args below meth c Q ls E hret hZ hl => w_X9_addRow g k hk E hret M x1 x2 x3 x4 _ _ ls h hZ hl)
theorem v_X9_addRow : zYV yX9_addRow cX9_addRow 5 none 4 := ⟨kw_1064, kw_3, kw_1062, kw_1063, by decide +kernel⟩

def f_X9_loggedRows (M : zM) (k : Nat) : Option (Int32) :=
  znm (if 60 < (M k 14) then 60 else (M k 14)) (fun v_1 => some v_1)
set_option maxRecDepth 100000 in
set_option maxHeartbeats 4000000 in
theorem w_X9_loggedRows (g : zG) (k : Nat) (hk : xk k = 8) {r : Int32} {M0 : zM} (E : zX g p m c cX9_loggedRows 1 s args (zWs yX9_loggedRows cX9_loggedRows 1 (some .int)) RX9) (hret : zRi g xE 125 p l e (zrm 3 0 0) s m args below meth c 0 0 Q cX9_loggedRows .int (fun v M1 => v = r ∧ M1 = M0)) (M : zM) (hM : M = M0)  (H : Heap) (locs : List Loc) (ls : Array Slot) (h : f_X9_loggedRows M k = some r) (hZ : zS g xE 125 s H locs M) (hl : lv_has ls 1 [(0, .ref (g.2.2 k))]) : W p l e (zrm 3 0 0) s m args below meth c H locs 0 0 Q (F0 m 0 ls []) := by
  have hx := E.1.1
  have hb := E.1.2.1
  unfold f_X9_loggedRows at h
  refine lv_aload_n hx hb dX9_loggedRows_0 rfl (lv_at hl 0 rfl) ?_
  refine zg (v := .int (M k 14)) E hZ (xb_X9 hk) ((xe_X9 hk) _) kc_X9 14 (by decide) kw_109 rfl rfl dX9_loggedRows_1 ?_
  refine lv_bipush (v := 60) hx hb dX9_loggedRows_4 (by decide) ?_
  refine va_mmin hx hb (E.1.2.2.1.trans hl.1.symm) E.1.2.2.2.1 (E.w kw_571) (E.w kw_540) (E.w kw_16) (E.w kw_541) (Nat.le_of_ble_eq_true rfl) (Nat.le_of_ble_eq_true rfl) (Nat.le_of_ble_eq_true rfl) (Nat.le_of_ble_eq_true rfl) dX9_loggedRows_6 ?_
  refine zni h (fun v_1 ev_1 h => ?_)
  exact hret _ _ _ _ _ _ ⟨Option.some.inj h, hM⟩ rfl hZ dX9_loggedRows_9
theorem c_X9_loggedRows (l : Launch) (g : zG) (M : zM) (k : Nat) (hk : xk k = 8)  {r : Int32} (h : f_X9_loggedRows M k = some r) : zMi l g xE 125 yX9_loggedRows (zWs yX9_loggedRows cX9_loggedRows 1 (some .int)) 3 [.ref (g.2.2 k)] M (fun v M1 => v = r ∧ M1 = M) :=
  zMi_of (by decide) (Nat.le_of_ble_eq_true rfl) (fun p e s m args below meth c Q ls E hret hZ hl => w_X9_loggedRows g k hk E hret M rfl  _ _ ls h hZ hl)
theorem v_X9_loggedRows : zYV yX9_loggedRows cX9_loggedRows 1 (some .int) 0 := ⟨kw_570, kw_3, kw_568, kw_569, by decide +kernel⟩

def f_X9_row (M : zM) (k : Nat) (x1 : Int32) : Option (Int32) :=
  zck (decide (¬ (60 : Int32) = 0)) (zbn (f_X10_at M (k + 5) ((((M k 14) - 1) - x1) - (((M k 14) - 1) - x1) / 60 * 60)) (fun u_1 => some u_1))
set_option maxRecDepth 100000 in
set_option maxHeartbeats 4000000 in
theorem w_X9_row (g : zG) (k : Nat) (hk : xk k = 8) {r : Int32} {M0 : zM} (E : zX g p m c cX9_row 2 s args (zWs yX9_row cX9_row 2 (some .int)) RX9) (hret : zRi g xE 125 p l e (zrm 3 0 0) s m args below meth c 0 0 Q cX9_row .int (fun v M1 => v = r ∧ M1 = M0)) (M : zM) (hM : M = M0) (x1 : Int32) (H : Heap) (locs : List Loc) (ls : Array Slot) (h : f_X9_row M k x1 = some r) (hZ : zS g xE 125 s H locs M) (hl : lv_has ls 2 [(0, .ref (g.2.2 k)), (1, .int x1)]) : W p l e (zrm 3 0 0) s m args below meth c H locs 0 0 Q (F0 m 0 ls []) := by
  have hx := E.1.1
  have hb := E.1.2.1
  unfold f_X9_row at h
  refine lv_aload_n hx hb dX9_row_0 rfl (lv_at hl 0 rfl) ?_
  refine zg (v := .ref (g.2.2 (k + 5))) E hZ (xb_X9 hk) ((xe_X9 hk) _) kc_X9 19 (by decide) kw_119 rfl rfl dX9_row_1 ?_
  refine lv_aload_n hx hb dX9_row_4 rfl (lv_at hl 0 rfl) ?_
  refine zg (v := .int (M k 14)) E hZ (xb_X9 hk) ((xe_X9 hk) _) kc_X9 14 (by decide) kw_109 rfl rfl dX9_row_5 ?_
  refine lv_iconst (v := 1) hx hb dX9_row_8 (by decide) ?_
  refine lv_isub hx hb dX9_row_9 ?_
  refine lv_iload_n hx hb dX9_row_10 rfl (lv_at hl 1 rfl) ?_
  refine lv_isub hx hb dX9_row_11 ?_
  refine lv_bipush (v := 60) hx hb dX9_row_12 (by decide) ?_
  refine zrem h E dX9_row_14 (fun h => ?_)
  obtain ⟨u_1, qu_1, h⟩ := zbn_some h
  refine zciR (zrunSN E hZ v_X10_at kw_425 (c_X10_at l g M (k + 5) (xc_X9_logRows hk).1 ((((M k 14) - 1) - x1) - (((M k 14) - 1) - x1) / 60 * 60) qu_1 _) rfl hl.1 rfl (Nat.le_of_ble_eq_true rfl) ⟨by decide, by decide⟩ ⟨Nat.le_refl _, Nat.le_refl _⟩ dX9_row_15) hZ (fun H locs hZ => ?_)
  exact hret _ _ _ _ _ _ ⟨Option.some.inj h, hM⟩ rfl hZ dX9_row_18
theorem c_X9_row (l : Launch) (g : zG) (M : zM) (k : Nat) (hk : xk k = 8) (x1 : Int32) {r : Int32} (h : f_X9_row M k x1 = some r) : zMi l g xE 125 yX9_row (zWs yX9_row cX9_row 2 (some .int)) 3 [.ref (g.2.2 k), .int x1] M (fun v M1 => v = r ∧ M1 = M) :=
  zMi_of (by decide) (Nat.le_of_ble_eq_true rfl) (fun p e s m args below meth c Q ls E hret hZ hl => w_X9_row g k hk E hret M rfl x1 _ _ ls h hZ hl)
theorem v_X9_row : zYV yX9_row cX9_row 2 (some .int) 1 := ⟨kw_1338, kw_3, kw_1337, kp_39, by decide +kernel⟩

def f_X9_loggedHour (M : zM) (k : Nat) (x1 : Int32) : Option (Int32) :=
  zbn (f_X9_row M k x1) (fun u_1 => some (u_1 &&& 16383))
set_option maxRecDepth 100000 in
set_option maxHeartbeats 4000000 in
theorem w_X9_loggedHour (g : zG) (k : Nat) (hk : xk k = 8) {r : Int32} {M0 : zM} (E : zX g p m c cX9_loggedHour 2 s args (zWs yX9_loggedHour cX9_loggedHour 2 (some .int)) RX9) (hret : zRi g xE 125 p l e (zrm 4 0 0) s m args below meth c 0 0 Q cX9_loggedHour .int (fun v M1 => v = r ∧ M1 = M0)) (M : zM) (hM : M = M0) (x1 : Int32) (H : Heap) (locs : List Loc) (ls : Array Slot) (h : f_X9_loggedHour M k x1 = some r) (hZ : zS g xE 125 s H locs M) (hl : lv_has ls 2 [(0, .ref (g.2.2 k)), (1, .int x1)]) : W p l e (zrm 4 0 0) s m args below meth c H locs 0 0 Q (F0 m 0 ls []) := by
  have hx := E.1.1
  have hb := E.1.2.1
  unfold f_X9_loggedHour at h
  refine lv_aload_n hx hb dX9_loggedHour_0 rfl (lv_at hl 0 rfl) ?_
  refine lv_iload_n hx hb dX9_loggedHour_1 rfl (lv_at hl 1 rfl) ?_
  obtain ⟨u_1, qu_1, h⟩ := zbn_some h
  refine zciR (zrunV E hZ (xb_X9 hk) ((xe_X9 hk) _) rfl rfl v_X9_row kw_1335 (c_X9_row l g M k hk x1 qu_1 _) rfl hl.1 rfl (Nat.le_of_ble_eq_true rfl) ⟨by decide, by decide⟩ ⟨Nat.le_refl _, Nat.le_refl _⟩ dX9_loggedHour_2) hZ (fun H locs hZ => ?_)
  refine lv_sipush (v := 16383) hx hb dX9_loggedHour_5 (by decide) ?_
  refine lv_iand hx hb dX9_loggedHour_8 ?_
  exact hret _ _ _ _ _ _ ⟨Option.some.inj h, hM⟩ rfl hZ dX9_loggedHour_9
theorem c_X9_loggedHour (l : Launch) (g : zG) (M : zM) (k : Nat) (hk : xk k = 8) (x1 : Int32) {r : Int32} (h : f_X9_loggedHour M k x1 = some r) : zMi l g xE 125 yX9_loggedHour (zWs yX9_loggedHour cX9_loggedHour 2 (some .int)) 4 [.ref (g.2.2 k), .int x1] M (fun v M1 => v = r ∧ M1 = M) :=
  zMi_of (by decide) (Nat.le_of_ble_eq_true rfl) (fun p e s m args below meth c Q ls E hret hZ hl => w_X9_loggedHour g k hk E hret M rfl x1 _ _ ls h hZ hl)
theorem v_X9_loggedHour : zYV yX9_loggedHour cX9_loggedHour 2 (some .int) 1 := ⟨kw_1342, kw_3, kw_1340, kw_1341, by decide +kernel⟩

def f_X9_loggedNumber (M : zM) (k : Nat) (x1 : Int32) : Option (Int32) :=
  zbn (f_X9_row M k x1) (fun u_1 => some ((u_1 >>> (14 &&& 31)) &&& 7))
set_option maxRecDepth 100000 in
set_option maxHeartbeats 4000000 in
theorem w_X9_loggedNumber (g : zG) (k : Nat) (hk : xk k = 8) {r : Int32} {M0 : zM} (E : zX g p m c cX9_loggedNumber 2 s args (zWs yX9_loggedNumber cX9_loggedNumber 2 (some .int)) RX9) (hret : zRi g xE 125 p l e (zrm 4 0 0) s m args below meth c 0 0 Q cX9_loggedNumber .int (fun v M1 => v = r ∧ M1 = M0)) (M : zM) (hM : M = M0) (x1 : Int32) (H : Heap) (locs : List Loc) (ls : Array Slot) (h : f_X9_loggedNumber M k x1 = some r) (hZ : zS g xE 125 s H locs M) (hl : lv_has ls 2 [(0, .ref (g.2.2 k)), (1, .int x1)]) : W p l e (zrm 4 0 0) s m args below meth c H locs 0 0 Q (F0 m 0 ls []) := by
  have hx := E.1.1
  have hb := E.1.2.1
  unfold f_X9_loggedNumber at h
  refine lv_aload_n hx hb dX9_loggedNumber_0 rfl (lv_at hl 0 rfl) ?_
  refine lv_iload_n hx hb dX9_loggedNumber_1 rfl (lv_at hl 1 rfl) ?_
  obtain ⟨u_1, qu_1, h⟩ := zbn_some h
  refine zciR (zrunV E hZ (xb_X9 hk) ((xe_X9 hk) _) rfl rfl v_X9_row kw_1335 (c_X9_row l g M k hk x1 qu_1 _) rfl hl.1 rfl (Nat.le_of_ble_eq_true rfl) ⟨by decide, by decide⟩ ⟨Nat.le_refl _, Nat.le_refl _⟩ dX9_loggedNumber_2) hZ (fun H locs hZ => ?_)
  refine lv_bipush (v := 14) hx hb dX9_loggedNumber_5 (by decide) ?_
  refine lv_ishr hx hb dX9_loggedNumber_7 ?_
  refine lv_bipush (v := 7) hx hb dX9_loggedNumber_8 (by decide) ?_
  refine lv_iand hx hb dX9_loggedNumber_10 ?_
  exact hret _ _ _ _ _ _ ⟨Option.some.inj h, hM⟩ rfl hZ dX9_loggedNumber_11
theorem c_X9_loggedNumber (l : Launch) (g : zG) (M : zM) (k : Nat) (hk : xk k = 8) (x1 : Int32) {r : Int32} (h : f_X9_loggedNumber M k x1 = some r) : zMi l g xE 125 yX9_loggedNumber (zWs yX9_loggedNumber cX9_loggedNumber 2 (some .int)) 4 [.ref (g.2.2 k), .int x1] M (fun v M1 => v = r ∧ M1 = M) :=
  zMi_of (by decide) (Nat.le_of_ble_eq_true rfl) (fun p e s m args below meth c Q ls E hret hZ hl => w_X9_loggedNumber g k hk E hret M rfl x1 _ _ ls h hZ hl)
theorem v_X9_loggedNumber : zYV yX9_loggedNumber cX9_loggedNumber 2 (some .int) 1 := ⟨kw_1353, kw_3, kw_1351, kw_1352, by decide +kernel⟩

def f_X9_loggedKind (M : zM) (k : Nat) (x1 : Int32) : Option (Int32) :=
  zbn (f_X9_row M k x1) (fun u_1 => some ((u_1 >>> (17 &&& 31)) &&& 1))
set_option maxRecDepth 100000 in
set_option maxHeartbeats 4000000 in
theorem w_X9_loggedKind (g : zG) (k : Nat) (hk : xk k = 8) {r : Int32} {M0 : zM} (E : zX g p m c cX9_loggedKind 2 s args (zWs yX9_loggedKind cX9_loggedKind 2 (some .int)) RX9) (hret : zRi g xE 125 p l e (zrm 4 0 0) s m args below meth c 0 0 Q cX9_loggedKind .int (fun v M1 => v = r ∧ M1 = M0)) (M : zM) (hM : M = M0) (x1 : Int32) (H : Heap) (locs : List Loc) (ls : Array Slot) (h : f_X9_loggedKind M k x1 = some r) (hZ : zS g xE 125 s H locs M) (hl : lv_has ls 2 [(0, .ref (g.2.2 k)), (1, .int x1)]) : W p l e (zrm 4 0 0) s m args below meth c H locs 0 0 Q (F0 m 0 ls []) := by
  have hx := E.1.1
  have hb := E.1.2.1
  unfold f_X9_loggedKind at h
  refine lv_aload_n hx hb dX9_loggedKind_0 rfl (lv_at hl 0 rfl) ?_
  refine lv_iload_n hx hb dX9_loggedKind_1 rfl (lv_at hl 1 rfl) ?_
  obtain ⟨u_1, qu_1, h⟩ := zbn_some h
  refine zciR (zrunV E hZ (xb_X9 hk) ((xe_X9 hk) _) rfl rfl v_X9_row kw_1335 (c_X9_row l g M k hk x1 qu_1 _) rfl hl.1 rfl (Nat.le_of_ble_eq_true rfl) ⟨by decide, by decide⟩ ⟨Nat.le_refl _, Nat.le_refl _⟩ dX9_loggedKind_2) hZ (fun H locs hZ => ?_)
  refine lv_bipush (v := 17) hx hb dX9_loggedKind_5 (by decide) ?_
  refine lv_ishr hx hb dX9_loggedKind_7 ?_
  refine lv_iconst (v := 1) hx hb dX9_loggedKind_8 (by decide) ?_
  refine lv_iand hx hb dX9_loggedKind_9 ?_
  exact hret _ _ _ _ _ _ ⟨Option.some.inj h, hM⟩ rfl hZ dX9_loggedKind_10
theorem c_X9_loggedKind (l : Launch) (g : zG) (M : zM) (k : Nat) (hk : xk k = 8) (x1 : Int32) {r : Int32} (h : f_X9_loggedKind M k x1 = some r) : zMi l g xE 125 yX9_loggedKind (zWs yX9_loggedKind cX9_loggedKind 2 (some .int)) 4 [.ref (g.2.2 k), .int x1] M (fun v M1 => v = r ∧ M1 = M) :=
  zMi_of (by decide) (Nat.le_of_ble_eq_true rfl) (fun p e s m args below meth c Q ls E hret hZ hl => w_X9_loggedKind g k hk E hret M rfl x1 _ _ ls h hZ hl)
theorem v_X9_loggedKind : zYV yX9_loggedKind cX9_loggedKind 2 (some .int) 1 := ⟨kw_1357, kw_3, kw_1355, kw_1356, by decide +kernel⟩

def f_X9_loggedPlace (M : zM) (k : Nat) (x1 : Int32) : Option (Int32) :=
  zbn (f_X9_row M k x1) (fun u_1 => some ((u_1 >>> (18 &&& 31)) &&& 15))
set_option maxRecDepth 100000 in
set_option maxHeartbeats 4000000 in
theorem w_X9_loggedPlace (g : zG) (k : Nat) (hk : xk k = 8) {r : Int32} {M0 : zM} (E : zX g p m c cX9_loggedPlace 2 s args (zWs yX9_loggedPlace cX9_loggedPlace 2 (some .int)) RX9) (hret : zRi g xE 125 p l e (zrm 4 0 0) s m args below meth c 0 0 Q cX9_loggedPlace .int (fun v M1 => v = r ∧ M1 = M0)) (M : zM) (hM : M = M0) (x1 : Int32) (H : Heap) (locs : List Loc) (ls : Array Slot) (h : f_X9_loggedPlace M k x1 = some r) (hZ : zS g xE 125 s H locs M) (hl : lv_has ls 2 [(0, .ref (g.2.2 k)), (1, .int x1)]) : W p l e (zrm 4 0 0) s m args below meth c H locs 0 0 Q (F0 m 0 ls []) := by
  have hx := E.1.1
  have hb := E.1.2.1
  unfold f_X9_loggedPlace at h
  refine lv_aload_n hx hb dX9_loggedPlace_0 rfl (lv_at hl 0 rfl) ?_
  refine lv_iload_n hx hb dX9_loggedPlace_1 rfl (lv_at hl 1 rfl) ?_
  obtain ⟨u_1, qu_1, h⟩ := zbn_some h
  refine zciR (zrunV E hZ (xb_X9 hk) ((xe_X9 hk) _) rfl rfl v_X9_row kw_1335 (c_X9_row l g M k hk x1 qu_1 _) rfl hl.1 rfl (Nat.le_of_ble_eq_true rfl) ⟨by decide, by decide⟩ ⟨Nat.le_refl _, Nat.le_refl _⟩ dX9_loggedPlace_2) hZ (fun H locs hZ => ?_)
  refine lv_bipush (v := 18) hx hb dX9_loggedPlace_5 (by decide) ?_
  refine lv_ishr hx hb dX9_loggedPlace_7 ?_
  refine lv_bipush (v := 15) hx hb dX9_loggedPlace_8 (by decide) ?_
  refine lv_iand hx hb dX9_loggedPlace_10 ?_
  exact hret _ _ _ _ _ _ ⟨Option.some.inj h, hM⟩ rfl hZ dX9_loggedPlace_11
theorem c_X9_loggedPlace (l : Launch) (g : zG) (M : zM) (k : Nat) (hk : xk k = 8) (x1 : Int32) {r : Int32} (h : f_X9_loggedPlace M k x1 = some r) : zMi l g xE 125 yX9_loggedPlace (zWs yX9_loggedPlace cX9_loggedPlace 2 (some .int)) 4 [.ref (g.2.2 k), .int x1] M (fun v M1 => v = r ∧ M1 = M) :=
  zMi_of (by decide) (Nat.le_of_ble_eq_true rfl) (fun p e s m args below meth c Q ls E hret hZ hl => w_X9_loggedPlace g k hk E hret M rfl x1 _ _ ls h hZ hl)
theorem v_X9_loggedPlace : zYV yX9_loggedPlace cX9_loggedPlace 2 (some .int) 1 := ⟨kw_1334, kw_3, kw_1332, kw_1333, by decide +kernel⟩

end
