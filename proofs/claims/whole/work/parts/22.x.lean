section
variable {p : Program} {l : Launch} {e : Env} {s : State} {m : MethodId} {args : Array Value} {below : List Frame} {meth : Method} {c : Code} {Q : State → Prop}
def b_X1_groundLine_37  (o1 : Nat) (M : zM) (x2 : Int32) (t0 : Int32) : Option (Int32 × zM) :=
  if t0 = ((-1)) then (some (0, M)) else (zbn (f_X10_put M (o1 + 1) x2 t0) (fun u_1 => some (1, u_1)))
set_option maxRecDepth 100000 in
set_option maxHeartbeats 4000000 in
theorem lb_X1_groundLine_37 (g : zG)  (o1 : Nat) (ho1 : xk o1 = 8) {r : Int32 × zM} (E : zX g p m c cX1_groundLine 4 s args (zWs yX1_groundLine cX1_groundLine 4 (some .boolean)) RX1) (hret : zRi g xE 125 p l e (zrm 5 0 0) s m args below meth c 0 0 Q cX1_groundLine .boolean (fun v M1 => r = (v, M1))) (M : zM) (x2 : Int32) (t0 : Int32)  (H : Heap) (locs : List Loc) (ls : Array Slot) (h : b_X1_groundLine_37  o1 M x2 t0 = some r) (hZ : zS g xE 125 s H locs M) (hl : lv_has ls 4 [(1, .ref (g.2.2 o1)), (2, .int x2)]) : W p l e (zrm 5 0 0) s m args below meth c H locs 0 0 Q (F0 m 37 ls [.int t0]) := by
  have hx := E.1.1
  have hb := E.1.2.1
  unfold b_X1_groundLine_37 at h
  refine lv_istore_n (lv' := [(3, .int t0), (1, .ref (g.2.2 o1)), (2, .int x2)]) hx hb dX1_groundLine_37 rfl hl (by decide) rfl (fun ls hl => ?_)
  refine lv_iload_n hx hb dX1_groundLine_38 rfl (lv_at hl 0 rfl) ?_
  refine lv_iconst (v := (-1)) hx hb dX1_groundLine_39 (by decide) ?_
  refine zic_ne (tgt := 45) h E dX1_groundLine_40 (by decide) (fun c_2 h => ?_) (fun c_2 h => ?_)
  · refine lv_aload_n hx hb dX1_groundLine_45 rfl (lv_at hl 1 rfl) ?_
    refine zg (v := .ref (g.2.2 (o1 + 1))) E hZ (xb_X9 ho1) ((xe_X9 ho1) _) kc_X9 15 (by decide) kw_112 rfl rfl dX1_groundLine_46 ?_
    refine lv_iload_n hx hb dX1_groundLine_49 rfl (lv_at hl 2 rfl) ?_
    refine lv_iload_n hx hb dX1_groundLine_50 rfl (lv_at hl 0 rfl) ?_
    obtain ⟨u_1, qu_1, h⟩ := zbn_some h
    refine zcvS (zrunSN E hZ v_X10_put kw_639 (c_X10_put l g M (o1 + 1) (xc_X9_ground ho1).1 x2 t0 qu_1 _) rfl hl.1 rfl (Nat.le_of_ble_eq_true rfl) ⟨by decide, by decide⟩ ⟨by decide, by decide⟩ dX1_groundLine_51) hZ (fun H locs hZ => ?_)
    refine lv_iconst (v := 1) hx hb dX1_groundLine_54 (by decide) ?_
    exact hret _ _ _ _ _ _ (Option.some.inj h).symm rfl hZ dX1_groundLine_55
  · refine lv_iconst (v := 0) hx hb dX1_groundLine_43 (by decide) ?_
    exact hret _ _ _ _ _ _ (Option.some.inj h).symm rfl hZ dX1_groundLine_44
def f_X1_groundLine (M : zM) (o1 : Nat) : Option (Int32 × zM) :=
  zbn (f_X7_next M ) (fun u_3 => zbn (f_X7_takeNumber u_3 0 11) (fun u_4 => if u_4.1 = ((-1)) then (b_X1_groundLine_37  o1 u_4.2 u_4.1 ((-1))) else (zbn (f_X7_takeNumber u_4.2 0 19) (fun u_5 => b_X1_groundLine_37  o1 u_5.2 u_4.1 u_5.1))))
set_option maxRecDepth 100000 in
set_option maxHeartbeats 4000000 in
theorem w_X1_groundLine (g : zG)  (o1 : Nat) (ho1 : xk o1 = 8) {r : Int32 × zM} (E : zX g p m c cX1_groundLine 4 s args (zWs yX1_groundLine cX1_groundLine 4 (some .boolean)) RX1) (hret : zRi g xE 125 p l e (zrm 5 0 0) s m args below meth c 0 0 Q cX1_groundLine .boolean (fun v M1 => r = (v, M1))) (M : zM)  (H : Heap) (locs : List Loc) (ls : Array Slot) (h : f_X1_groundLine M o1 = some r) (hZ : zS g xE 125 s H locs M) (hl : lv_has ls 4 [(0, .ref (g.2.2 41)), (1, .ref (g.2.2 o1))]) : W p l e (zrm 5 0 0) s m args below meth c H locs 0 0 Q (F0 m 0 ls []) := by
  have hx := E.1.1
  have hb := E.1.2.1
  unfold f_X1_groundLine at h
  refine lv_aload_n hx hb dX1_groundLine_0 rfl (lv_at hl 0 rfl) ?_
  refine zg (v := .ref (g.2.2 39)) E hZ (xb_X1 xs_41) ((xe_X1 xs_41) _) kc_X1 0 (by decide) kw_277 rfl rfl dX1_groundLine_1 ?_
  obtain ⟨u_3, qu_3, h⟩ := zbn_some h
  refine zcvS (zrunV E hZ (xb_X7 xs_39) ((xe_X7 xs_39) _) rfl rfl v_X7_next kw_629 (c_X7_next l g M   qu_3 _) rfl hl.1 rfl (Nat.le_of_ble_eq_true rfl) ⟨by decide, by decide⟩ ⟨by decide, by decide⟩ dX1_groundLine_4) hZ (fun H locs hZ => ?_)
  refine lv_aload_n hx hb dX1_groundLine_7 rfl (lv_at hl 0 rfl) ?_
  refine zg (v := .ref (g.2.2 39)) E hZ (xb_X1 xs_41) ((xe_X1 xs_41) _) kc_X1 0 (by decide) kw_277 rfl rfl dX1_groundLine_8 ?_
  refine lv_iconst (v := 0) hx hb dX1_groundLine_11 (by decide) ?_
  refine lv_bipush (v := 11) hx hb dX1_groundLine_12 (by decide) ?_
  obtain ⟨u_4, qu_4, h⟩ := zbn_some h
  refine zciS (zrunV E hZ (xb_X7 xs_39) ((xe_X7 xs_39) _) rfl rfl v_X7_takeNumber kw_630 (c_X7_takeNumber l g u_3  0 11 qu_4 _) rfl hl.1 rfl (Nat.le_of_ble_eq_true rfl) ⟨by decide, by decide⟩ ⟨by decide, by decide⟩ dX1_groundLine_14) hZ (fun H locs hZ => ?_)
  refine lv_istore_n (lv' := [(2, .int u_4.1), (0, .ref (g.2.2 41)), (1, .ref (g.2.2 o1))]) hx hb dX1_groundLine_17 rfl hl (by decide) rfl (fun ls hl => ?_)
  refine lv_iload_n hx hb dX1_groundLine_18 rfl (lv_at hl 0 rfl) ?_
  refine lv_iconst (v := (-1)) hx hb dX1_groundLine_19 (by decide) ?_
  refine zic_ne (tgt := 27) h E dX1_groundLine_20 (by decide) (fun c_6 h => ?_) (fun c_6 h => ?_)
  · refine lv_aload_n hx hb dX1_groundLine_27 rfl (lv_at hl 1 rfl) ?_
    refine zg (v := .ref (g.2.2 39)) E hZ (xb_X1 xs_41) ((xe_X1 xs_41) _) kc_X1 0 (by decide) kw_277 rfl rfl dX1_groundLine_28 ?_
    refine lv_iconst (v := 0) hx hb dX1_groundLine_31 (by decide) ?_
    refine lv_bipush (v := 19) hx hb dX1_groundLine_32 (by decide) ?_
    obtain ⟨u_5, qu_5, h⟩ := zbn_some h
    refine zciS (zrunV E hZ (xb_X7 xs_39) ((xe_X7 xs_39) _) rfl rfl v_X7_takeNumber kw_630 (c_X7_takeNumber l g u_4.2  0 19 qu_5 _) rfl hl.1 rfl (Nat.le_of_ble_eq_true rfl) ⟨by decide, by decide⟩ ⟨by decide, by decide⟩ dX1_groundLine_34) hZ (fun H locs hZ => ?_)
    exact lb_X1_groundLine_37 g o1 ho1 E hret u_5.2 u_4.1 u_5.1  H locs ls h hZ (lv_sub hl [2, 0] rfl)
  · refine lv_iconst (v := (-1)) hx hb dX1_groundLine_23 (by decide) ?_
    refine lv_goto (tgt := 37) hx hb dX1_groundLine_24 (by decide) ?_
    exact lb_X1_groundLine_37 g o1 ho1 E hret u_4.2 u_4.1 ((-1))  H locs ls h hZ (lv_sub hl [2, 0] rfl)
theorem c_X1_groundLine (l : Launch) (g : zG) (M : zM) (o1 : Nat) (ho1 : xk o1 = 8)  {r : Int32 × zM} (h : f_X1_groundLine M o1 = some r) : zMi l g xE 125 yX1_groundLine (zWs yX1_groundLine cX1_groundLine 4 (some .boolean)) 5 [.ref (g.2.2 41), .ref (g.2.2 o1)] M (fun v M1 => r = (v, M1)) :=
  zMi_of (by decide +kernel) (Nat.le_of_ble_eq_true rfl) (fun p e s m args below meth c Q ls E hret hZ hl => w_X1_groundLine g o1 ho1 E hret M  _ _ ls h hZ hl)
theorem v_X1_groundLine : zYV yX1_groundLine cX1_groundLine 4 (some .boolean) 1 := ⟨kw_628, kw_10, kw_627, kp_10, by decide +kernel⟩

def f_X1_periodLine (M : zM) (o1 : Nat) : Option (Int32 × zM) :=
  zbn (f_X7_next M ) (fun u_1 => zbn (f_X7_takeNumber u_1 4 24) (fun u_2 => if u_2.1 = ((-1)) then (some (0, u_2.2)) else (znm (zu u_2.2 o1 5 u_2.1) (fun M_3 => some (1, M_3)))))
set_option maxRecDepth 100000 in
set_option maxHeartbeats 4000000 in
theorem w_X1_periodLine (g : zG)  (o1 : Nat) (ho1 : xk o1 = 8) {r : Int32 × zM} (E : zX g p m c cX1_periodLine 3 s args (zWs yX1_periodLine cX1_periodLine 3 (some .boolean)) RX1) (hret : zRi g xE 125 p l e (zrm 5 0 0) s m args below meth c 0 0 Q cX1_periodLine .boolean (fun v M1 => r = (v, M1))) (M : zM)  (H : Heap) (locs : List Loc) (ls : Array Slot) (h : f_X1_periodLine M o1 = some r) (hZ : zS g xE 125 s H locs M) (hl : lv_has ls 3 [(0, .ref (g.2.2 41)), (1, .ref (g.2.2 o1))]) : W p l e (zrm 5 0 0) s m args below meth c H locs 0 0 Q (F0 m 0 ls []) := by
  have hx := E.1.1
  have hb := E.1.2.1
  unfold f_X1_periodLine at h
  refine lv_aload_n hx hb dX1_periodLine_0 rfl (lv_at hl 0 rfl) ?_
  refine zg (v := .ref (g.2.2 39)) E hZ (xb_X1 xs_41) ((xe_X1 xs_41) _) kc_X1 0 (by decide) kw_277 rfl rfl dX1_periodLine_1 ?_
  obtain ⟨u_1, qu_1, h⟩ := zbn_some h
  refine zcvS (zrunV E hZ (xb_X7 xs_39) ((xe_X7 xs_39) _) rfl rfl v_X7_next kw_629 (c_X7_next l g M   qu_1 _) rfl hl.1 rfl (Nat.le_of_ble_eq_true rfl) ⟨by decide, by decide⟩ ⟨by decide, by decide⟩ dX1_periodLine_4) hZ (fun H locs hZ => ?_)
  refine lv_aload_n hx hb dX1_periodLine_7 rfl (lv_at hl 0 rfl) ?_
  refine zg (v := .ref (g.2.2 39)) E hZ (xb_X1 xs_41) ((xe_X1 xs_41) _) kc_X1 0 (by decide) kw_277 rfl rfl dX1_periodLine_8 ?_
  refine lv_iconst (v := 4) hx hb dX1_periodLine_11 (by decide) ?_
  refine lv_bipush (v := 24) hx hb dX1_periodLine_12 (by decide) ?_
  obtain ⟨u_2, qu_2, h⟩ := zbn_some h
  refine zciS (zrunV E hZ (xb_X7 xs_39) ((xe_X7 xs_39) _) rfl rfl v_X7_takeNumber kw_630 (c_X7_takeNumber l g u_1  4 24 qu_2 _) rfl hl.1 rfl (Nat.le_of_ble_eq_true rfl) ⟨by decide, by decide⟩ ⟨by decide, by decide⟩ dX1_periodLine_14) hZ (fun H locs hZ => ?_)
  refine lv_istore_n (lv' := [(2, .int u_2.1), (0, .ref (g.2.2 41)), (1, .ref (g.2.2 o1))]) hx hb dX1_periodLine_17 rfl hl (by decide) rfl (fun ls hl => ?_)
  refine lv_iload_n hx hb dX1_periodLine_18 rfl (lv_at hl 0 rfl) ?_
  refine lv_iconst (v := (-1)) hx hb dX1_periodLine_19 (by decide) ?_
  refine zic_ne (tgt := 25) h E dX1_periodLine_20 (by decide) (fun c_4 h => ?_) (fun c_4 h => ?_)
  · refine lv_aload_n hx hb dX1_periodLine_25 rfl (lv_at hl 2 rfl) ?_
    refine lv_iload_n hx hb dX1_periodLine_26 rfl (lv_at hl 0 rfl) ?_
    refine zp h E hZ (xb_X9 ho1) ((xe_X9 ho1) _) (((xe_X9 ho1) _).trans (congrArg (fun z => Sum.inr (8, z)) (fs_X9_5 g _ _ _))) kc_X9 (by decide) kw_78 rfl rfl rfl (Nat.le_of_ble_eq_true rfl) dX1_periodLine_27 (fun M_3 H locs eM_3 h hZ => ?_)
    refine lv_iconst (v := 1) hx hb dX1_periodLine_30 (by decide) ?_
    exact hret _ _ _ _ _ _ (Option.some.inj h).symm rfl hZ dX1_periodLine_31
  · refine lv_iconst (v := 0) hx hb dX1_periodLine_23 (by decide) ?_
    exact hret _ _ _ _ _ _ (Option.some.inj h).symm rfl hZ dX1_periodLine_24
theorem c_X1_periodLine (l : Launch) (g : zG) (M : zM) (o1 : Nat) (ho1 : xk o1 = 8)  {r : Int32 × zM} (h : f_X1_periodLine M o1 = some r) : zMi l g xE 125 yX1_periodLine (zWs yX1_periodLine cX1_periodLine 3 (some .boolean)) 5 [.ref (g.2.2 41), .ref (g.2.2 o1)] M (fun v M1 => r = (v, M1)) :=
  zMi_of (by decide +kernel) (Nat.le_of_ble_eq_true rfl) (fun p e s m args below meth c Q ls E hret hZ hl => w_X1_periodLine g o1 ho1 E hret M  _ _ ls h hZ hl)
theorem v_X1_periodLine : zYV yX1_periodLine cX1_periodLine 3 (some .boolean) 1 := ⟨kw_643, kw_10, kw_642, kp_11, by decide +kernel⟩

def f_X1_roundLine (M : zM) (o1 : Nat) : Option (Int32 × zM) :=
  zbn (f_X7_next M ) (fun u_1 => zbn (f_X7_takeNumber u_1 2 28) (fun u_2 => if u_2.1 = ((-1)) then (some (0, u_2.2)) else (znm (zu u_2.2 o1 6 u_2.1) (fun M_3 => some (1, M_3)))))
set_option maxRecDepth 100000 in
set_option maxHeartbeats 4000000 in
theorem w_X1_roundLine (g : zG)  (o1 : Nat) (ho1 : xk o1 = 8) {r : Int32 × zM} (E : zX g p m c cX1_roundLine 3 s args (zWs yX1_roundLine cX1_roundLine 3 (some .boolean)) RX1) (hret : zRi g xE 125 p l e (zrm 5 0 0) s m args below meth c 0 0 Q cX1_roundLine .boolean (fun v M1 => r = (v, M1))) (M : zM)  (H : Heap) (locs : List Loc) (ls : Array Slot) (h : f_X1_roundLine M o1 = some r) (hZ : zS g xE 125 s H locs M) (hl : lv_has ls 3 [(0, .ref (g.2.2 41)), (1, .ref (g.2.2 o1))]) : W p l e (zrm 5 0 0) s m args below meth c H locs 0 0 Q (F0 m 0 ls []) := by
  have hx := E.1.1
  have hb := E.1.2.1
  unfold f_X1_roundLine at h
  refine lv_aload_n hx hb dX1_roundLine_0 rfl (lv_at hl 0 rfl) ?_
  refine zg (v := .ref (g.2.2 39)) E hZ (xb_X1 xs_41) ((xe_X1 xs_41) _) kc_X1 0 (by decide) kw_277 rfl rfl dX1_roundLine_1 ?_
  obtain ⟨u_1, qu_1, h⟩ := zbn_some h
  refine zcvS (zrunV E hZ (xb_X7 xs_39) ((xe_X7 xs_39) _) rfl rfl v_X7_next kw_629 (c_X7_next l g M   qu_1 _) rfl hl.1 rfl (Nat.le_of_ble_eq_true rfl) ⟨by decide, by decide⟩ ⟨by decide, by decide⟩ dX1_roundLine_4) hZ (fun H locs hZ => ?_)
  refine lv_aload_n hx hb dX1_roundLine_7 rfl (lv_at hl 0 rfl) ?_
  refine zg (v := .ref (g.2.2 39)) E hZ (xb_X1 xs_41) ((xe_X1 xs_41) _) kc_X1 0 (by decide) kw_277 rfl rfl dX1_roundLine_8 ?_
  refine lv_iconst (v := 2) hx hb dX1_roundLine_11 (by decide) ?_
  refine lv_bipush (v := 28) hx hb dX1_roundLine_12 (by decide) ?_
  obtain ⟨u_2, qu_2, h⟩ := zbn_some h
  refine zciS (zrunV E hZ (xb_X7 xs_39) ((xe_X7 xs_39) _) rfl rfl v_X7_takeNumber kw_630 (c_X7_takeNumber l g u_1  2 28 qu_2 _) rfl hl.1 rfl (Nat.le_of_ble_eq_true rfl) ⟨by decide, by decide⟩ ⟨by decide, by decide⟩ dX1_roundLine_14) hZ (fun H locs hZ => ?_)
  refine lv_istore_n (lv' := [(2, .int u_2.1), (0, .ref (g.2.2 41)), (1, .ref (g.2.2 o1))]) hx hb dX1_roundLine_17 rfl hl (by decide) rfl (fun ls hl => ?_)
  refine lv_iload_n hx hb dX1_roundLine_18 rfl (lv_at hl 0 rfl) ?_
  refine lv_iconst (v := (-1)) hx hb dX1_roundLine_19 (by decide) ?_
  refine zic_ne (tgt := 25) h E dX1_roundLine_20 (by decide) (fun c_4 h => ?_) (fun c_4 h => ?_)
  · refine lv_aload_n hx hb dX1_roundLine_25 rfl (lv_at hl 2 rfl) ?_
    refine lv_iload_n hx hb dX1_roundLine_26 rfl (lv_at hl 0 rfl) ?_
    refine zp h E hZ (xb_X9 ho1) ((xe_X9 ho1) _) (((xe_X9 ho1) _).trans (congrArg (fun z => Sum.inr (8, z)) (fs_X9_6 g _ _ _))) kc_X9 (by decide) kw_82 rfl rfl rfl (Nat.le_of_ble_eq_true rfl) dX1_roundLine_27 (fun M_3 H locs eM_3 h hZ => ?_)
    refine lv_iconst (v := 1) hx hb dX1_roundLine_30 (by decide) ?_
    exact hret _ _ _ _ _ _ (Option.some.inj h).symm rfl hZ dX1_roundLine_31
  · refine lv_iconst (v := 0) hx hb dX1_roundLine_23 (by decide) ?_
    exact hret _ _ _ _ _ _ (Option.some.inj h).symm rfl hZ dX1_roundLine_24
theorem c_X1_roundLine (l : Launch) (g : zG) (M : zM) (o1 : Nat) (ho1 : xk o1 = 8)  {r : Int32 × zM} (h : f_X1_roundLine M o1 = some r) : zMi l g xE 125 yX1_roundLine (zWs yX1_roundLine cX1_roundLine 3 (some .boolean)) 5 [.ref (g.2.2 41), .ref (g.2.2 o1)] M (fun v M1 => r = (v, M1)) :=
  zMi_of (by decide +kernel) (Nat.le_of_ble_eq_true rfl) (fun p e s m args below meth c Q ls E hret hZ hl => w_X1_roundLine g o1 ho1 E hret M  _ _ ls h hZ hl)
theorem v_X1_roundLine : zYV yX1_roundLine cX1_roundLine 3 (some .boolean) 1 := ⟨kw_647, kw_10, kw_646, kp_12, by decide +kernel⟩

def f_X1_rangeLine (M : zM) (o1 : Nat) : Option (Int32 × zM) :=
  zbn (f_X7_next M ) (fun u_1 => zbn (f_X7_takeNumber u_1 0 30) (fun u_2 => if u_2.1 = ((-1)) then (some (0, u_2.2)) else (zbn (f_X7_takeWord u_2.2 11) (fun u_3 => if u_3.1 = 0 then (some (0, u_3.2)) else (zbn (f_X7_takeNumber u_3.2 u_2.1 30) (fun u_4 => if u_4.1 = ((-1)) then (some (0, u_4.2)) else (znm (zu u_4.2 o1 7 u_2.1) (fun M_5 => znm (zu M_5 o1 8 u_4.1) (fun M_6 => some (1, M_6))))))))))
set_option maxRecDepth 100000 in
set_option maxHeartbeats 4000000 in
theorem w_X1_rangeLine (g : zG)  (o1 : Nat) (ho1 : xk o1 = 8) {r : Int32 × zM} (E : zX g p m c cX1_rangeLine 4 s args (zWs yX1_rangeLine cX1_rangeLine 4 (some .boolean)) RX1) (hret : zRi g xE 125 p l e (zrm 5 0 0) s m args below meth c 0 0 Q cX1_rangeLine .boolean (fun v M1 => r = (v, M1))) (M : zM)  (H : Heap) (locs : List Loc) (ls : Array Slot) (h : f_X1_rangeLine M o1 = some r) (hZ : zS g xE 125 s H locs M) (hl : lv_has ls 4 [(0, .ref (g.2.2 41)), (1, .ref (g.2.2 o1))]) : W p l e (zrm 5 0 0) s m args below meth c H locs 0 0 Q (F0 m 0 ls []) := by
  have hx := E.1.1
  have hb := E.1.2.1
  unfold f_X1_rangeLine at h
  refine lv_aload_n hx hb dX1_rangeLine_0 rfl (lv_at hl 0 rfl) ?_
  refine zg (v := .ref (g.2.2 39)) E hZ (xb_X1 xs_41) ((xe_X1 xs_41) _) kc_X1 0 (by decide) kw_277 rfl rfl dX1_rangeLine_1 ?_
  obtain ⟨u_1, qu_1, h⟩ := zbn_some h
  refine zcvS (zrunV E hZ (xb_X7 xs_39) ((xe_X7 xs_39) _) rfl rfl v_X7_next kw_629 (c_X7_next l g M   qu_1 _) rfl hl.1 rfl (Nat.le_of_ble_eq_true rfl) ⟨by decide, by decide⟩ ⟨by decide, by decide⟩ dX1_rangeLine_4) hZ (fun H locs hZ => ?_)
  refine lv_aload_n hx hb dX1_rangeLine_7 rfl (lv_at hl 0 rfl) ?_
  refine zg (v := .ref (g.2.2 39)) E hZ (xb_X1 xs_41) ((xe_X1 xs_41) _) kc_X1 0 (by decide) kw_277 rfl rfl dX1_rangeLine_8 ?_
  refine lv_iconst (v := 0) hx hb dX1_rangeLine_11 (by decide) ?_
  refine lv_bipush (v := 30) hx hb dX1_rangeLine_12 (by decide) ?_
  obtain ⟨u_2, qu_2, h⟩ := zbn_some h
  refine zciS (zrunV E hZ (xb_X7 xs_39) ((xe_X7 xs_39) _) rfl rfl v_X7_takeNumber kw_630 (c_X7_takeNumber l g u_1  0 30 qu_2 _) rfl hl.1 rfl (Nat.le_of_ble_eq_true rfl) ⟨by decide, by decide⟩ ⟨by decide, by decide⟩ dX1_rangeLine_14) hZ (fun H locs hZ => ?_)
  refine lv_istore_n (lv' := [(2, .int u_2.1), (0, .ref (g.2.2 41)), (1, .ref (g.2.2 o1))]) hx hb dX1_rangeLine_17 rfl hl (by decide) rfl (fun ls hl => ?_)
  refine lv_iload_n hx hb dX1_rangeLine_18 rfl (lv_at hl 0 rfl) ?_
  refine lv_iconst (v := (-1)) hx hb dX1_rangeLine_19 (by decide) ?_
  refine zic_eq (tgt := 35) h E dX1_rangeLine_20 (by decide) (fun c_9 h => ?_) (fun c_9 h => ?_)
  · refine lv_iconst (v := 0) hx hb dX1_rangeLine_35 (by decide) ?_
    exact hret _ _ _ _ _ _ (Option.some.inj h).symm rfl hZ dX1_rangeLine_36
  · refine lv_aload_n hx hb dX1_rangeLine_23 rfl (lv_at hl 1 rfl) ?_
    refine zg (v := .ref (g.2.2 39)) E hZ (xb_X1 xs_41) ((xe_X1 xs_41) _) kc_X1 0 (by decide) kw_277 rfl rfl dX1_rangeLine_24 ?_
    refine lv_bipush (v := 11) hx hb dX1_rangeLine_27 (by decide) ?_
    obtain ⟨u_3, qu_3, h⟩ := zbn_some h
    refine zciS (zrunV E hZ (xb_X7 xs_39) ((xe_X7 xs_39) _) rfl rfl v_X7_takeWord kw_652 (c_X7_takeWord l g u_2.2  11 qu_3 _) rfl hl.1 rfl (Nat.le_of_ble_eq_true rfl) ⟨by decide, by decide⟩ ⟨by decide, by decide⟩ dX1_rangeLine_29) hZ (fun H locs hZ => ?_)
    refine zif_ne (tgt := 37) h E dX1_rangeLine_32 (by decide) (fun c_8 h => ?_) (fun c_8 h => ?_)
    · refine lv_aload_n hx hb dX1_rangeLine_37 rfl (lv_at hl 1 rfl) ?_
      refine zg (v := .ref (g.2.2 39)) E hZ (xb_X1 xs_41) ((xe_X1 xs_41) _) kc_X1 0 (by decide) kw_277 rfl rfl dX1_rangeLine_38 ?_
      refine lv_iload_n hx hb dX1_rangeLine_41 rfl (lv_at hl 0 rfl) ?_
      refine lv_bipush (v := 30) hx hb dX1_rangeLine_42 (by decide) ?_
      obtain ⟨u_4, qu_4, h⟩ := zbn_some h
      refine zciS (zrunV E hZ (xb_X7 xs_39) ((xe_X7 xs_39) _) rfl rfl v_X7_takeNumber kw_630 (c_X7_takeNumber l g u_3.2  u_2.1 30 qu_4 _) rfl hl.1 rfl (Nat.le_of_ble_eq_true rfl) ⟨by decide, by decide⟩ ⟨by decide, by decide⟩ dX1_rangeLine_44) hZ (fun H locs hZ => ?_)
      refine lv_istore_n (lv' := [(3, .int u_4.1), (2, .int u_2.1), (0, .ref (g.2.2 41)), (1, .ref (g.2.2 o1))]) hx hb dX1_rangeLine_47 rfl hl (by decide) rfl (fun ls hl => ?_)
      refine lv_iload_n hx hb dX1_rangeLine_48 rfl (lv_at hl 0 rfl) ?_
      refine lv_iconst (v := (-1)) hx hb dX1_rangeLine_49 (by decide) ?_
      refine zic_ne (tgt := 55) h E dX1_rangeLine_50 (by decide) (fun c_7 h => ?_) (fun c_7 h => ?_)
      · refine lv_aload_n hx hb dX1_rangeLine_55 rfl (lv_at hl 3 rfl) ?_
        refine lv_iload_n hx hb dX1_rangeLine_56 rfl (lv_at hl 1 rfl) ?_
        refine zp h E hZ (xb_X9 ho1) ((xe_X9 ho1) _) (((xe_X9 ho1) _).trans (congrArg (fun z => Sum.inr (8, z)) (fs_X9_7 g _ _ _))) kc_X9 (by decide) kw_85 rfl rfl rfl (Nat.le_of_ble_eq_true rfl) dX1_rangeLine_57 (fun M_5 H locs eM_5 h hZ => ?_)
        refine lv_aload_n hx hb dX1_rangeLine_60 rfl (lv_at hl 3 rfl) ?_
        refine lv_iload_n hx hb dX1_rangeLine_61 rfl (lv_at hl 0 rfl) ?_
        refine zp h E hZ (xb_X9 ho1) ((xe_X9 ho1) _) (((xe_X9 ho1) _).trans (congrArg (fun z => Sum.inr (8, z)) (fs_X9_8 g _ _ _))) kc_X9 (by decide) kw_88 rfl rfl rfl (Nat.le_of_ble_eq_true rfl) dX1_rangeLine_62 (fun M_6 H locs eM_6 h hZ => ?_)
        refine lv_iconst (v := 1) hx hb dX1_rangeLine_65 (by decide) ?_
        exact hret _ _ _ _ _ _ (Option.some.inj h).symm rfl hZ dX1_rangeLine_66
      · refine lv_iconst (v := 0) hx hb dX1_rangeLine_53 (by decide) ?_
        exact hret _ _ _ _ _ _ (Option.some.inj h).symm rfl hZ dX1_rangeLine_54
    · refine lv_iconst (v := 0) hx hb dX1_rangeLine_35 (by decide) ?_
      exact hret _ _ _ _ _ _ (Option.some.inj h).symm rfl hZ dX1_rangeLine_36
theorem c_X1_rangeLine (l : Launch) (g : zG) (M : zM) (o1 : Nat) (ho1 : xk o1 = 8)  {r : Int32 × zM} (h : f_X1_rangeLine M o1 = some r) : zMi l g xE 125 yX1_rangeLine (zWs yX1_rangeLine cX1_rangeLine 4 (some .boolean)) 5 [.ref (g.2.2 41), .ref (g.2.2 o1)] M (fun v M1 => r = (v, M1)) :=
  zMi_of (by decide +kernel) (Nat.le_of_ble_eq_true rfl) (fun p e s m args below meth c Q ls E hret hZ hl => w_X1_rangeLine g o1 ho1 E hret M  _ _ ls h hZ hl)
theorem v_X1_rangeLine : zYV yX1_rangeLine cX1_rangeLine 4 (some .boolean) 1 := ⟨kw_651, kw_10, kw_650, kp_13, by decide +kernel⟩

def b_X1_monkLine_80  (o1 : Nat) (M : zM) (x2 : Int32) (x3 : Int32) (t0 : Int32) : Option (Int32 × zM) :=
  if t0 = ((-1)) then (some (0, M)) else (zbn (f_X9_addMonk M o1 x2 x3 t0) (fun u_1 => some (1, u_1)))
set_option maxRecDepth 100000 in
set_option maxHeartbeats 4000000 in
theorem lb_X1_monkLine_80 (g : zG)  (o1 : Nat) (ho1 : xk o1 = 8) {r : Int32 × zM} (E : zX g p m c cX1_monkLine 5 s args (zWs yX1_monkLine cX1_monkLine 5 (some .boolean)) RX1) (hret : zRi g xE 125 p l e (zrm 5 0 0) s m args below meth c 0 0 Q cX1_monkLine .boolean (fun v M1 => r = (v, M1))) (M : zM) (x2 : Int32) (x3 : Int32) (t0 : Int32)  (H : Heap) (locs : List Loc) (ls : Array Slot) (h : b_X1_monkLine_80  o1 M x2 x3 t0 = some r) (hZ : zS g xE 125 s H locs M) (hl : lv_has ls 5 [(1, .ref (g.2.2 o1)), (2, .int x2), (3, .int x3)]) : W p l e (zrm 5 0 0) s m args below meth c H locs 0 0 Q (F0 m 80 ls [.int t0]) := by
  have hx := E.1.1
  have hb := E.1.2.1
  unfold b_X1_monkLine_80 at h
  refine lv_istore (lv' := [(4, .int t0), (1, .ref (g.2.2 o1)), (2, .int x2), (3, .int x3)]) hx hb dX1_monkLine_80 hl (by decide) rfl (fun ls hl => ?_)
  refine lv_iload hx hb dX1_monkLine_82 (lv_at hl 0 rfl) ?_
  refine lv_iconst (v := (-1)) hx hb dX1_monkLine_84 (by decide) ?_
  refine zic_ne (tgt := 90) h E dX1_monkLine_85 (by decide) (fun c_2 h => ?_) (fun c_2 h => ?_)
  · refine lv_aload_n hx hb dX1_monkLine_90 rfl (lv_at hl 1 rfl) ?_
    refine lv_iload_n hx hb dX1_monkLine_91 rfl (lv_at hl 2 rfl) ?_
    refine lv_iload_n hx hb dX1_monkLine_92 rfl (lv_at hl 3 rfl) ?_
    refine lv_iload hx hb dX1_monkLine_93 (lv_at hl 0 rfl) ?_
    obtain ⟨u_1, qu_1, h⟩ := zbn_some h
    refine zcvS (zrunV E hZ (xb_X9 ho1) ((xe_X9 ho1) _) rfl rfl v_X9_addMonk kw_665 (c_X9_addMonk l g M o1 ho1 x2 x3 t0 qu_1 _) rfl hl.1 rfl (Nat.le_of_ble_eq_true rfl) ⟨by decide, by decide⟩ ⟨by decide, by decide⟩ dX1_monkLine_95) hZ (fun H locs hZ => ?_)
    refine lv_iconst (v := 1) hx hb dX1_monkLine_98 (by decide) ?_
    exact hret _ _ _ _ _ _ (Option.some.inj h).symm rfl hZ dX1_monkLine_99
  · refine lv_iconst (v := 0) hx hb dX1_monkLine_88 (by decide) ?_
    exact hret _ _ _ _ _ _ (Option.some.inj h).symm rfl hZ dX1_monkLine_89
def f_X1_monkLine (M : zM) (o1 : Nat) : Option (Int32 × zM) :=
  zbn (f_X7_next M ) (fun u_3 => zbn (f_X7_takeNumber u_3 0 11) (fun u_4 => if u_4.1 = ((-1)) then (some (0, u_4.2)) else (zbn (f_X7_takeWord u_4.2 8) (fun u_5 => if u_5.1 = 0 then (some (0, u_5.2)) else (zbn (f_X7_takeNumber u_5.2 1 4) (fun u_6 => if u_6.1 = ((-1)) then (some (0, u_6.2)) else (zbn (f_X7_skipWord u_6.2 9) (fun u_7 => if u_7.1 = 0 then (b_X1_monkLine_80  o1 u_7.2 u_4.1 u_6.1 u_4.1) else (zbn (f_X7_takeNumber u_7.2 0 11) (fun u_8 => b_X1_monkLine_80  o1 u_8.2 u_4.1 u_6.1 u_8.1))))))))))
set_option maxRecDepth 100000 in
set_option maxHeartbeats 4000000 in
theorem w_X1_monkLine (g : zG)  (o1 : Nat) (ho1 : xk o1 = 8) {r : Int32 × zM} (E : zX g p m c cX1_monkLine 5 s args (zWs yX1_monkLine cX1_monkLine 5 (some .boolean)) RX1) (hret : zRi g xE 125 p l e (zrm 5 0 0) s m args below meth c 0 0 Q cX1_monkLine .boolean (fun v M1 => r = (v, M1))) (M : zM)  (H : Heap) (locs : List Loc) (ls : Array Slot) (h : f_X1_monkLine M o1 = some r) (hZ : zS g xE 125 s H locs M) (hl : lv_has ls 5 [(0, .ref (g.2.2 41)), (1, .ref (g.2.2 o1))]) : W p l e (zrm 5 0 0) s m args below meth c H locs 0 0 Q (F0 m 0 ls []) := by
  have hx := E.1.1
  have hb := E.1.2.1
  unfold f_X1_monkLine at h
  refine lv_aload_n hx hb dX1_monkLine_0 rfl (lv_at hl 0 rfl) ?_
  refine zg (v := .ref (g.2.2 39)) E hZ (xb_X1 xs_41) ((xe_X1 xs_41) _) kc_X1 0 (by decide) kw_277 rfl rfl dX1_monkLine_1 ?_
  obtain ⟨u_3, qu_3, h⟩ := zbn_some h
  refine zcvS (zrunV E hZ (xb_X7 xs_39) ((xe_X7 xs_39) _) rfl rfl v_X7_next kw_629 (c_X7_next l g M   qu_3 _) rfl hl.1 rfl (Nat.le_of_ble_eq_true rfl) ⟨by decide, by decide⟩ ⟨by decide, by decide⟩ dX1_monkLine_4) hZ (fun H locs hZ => ?_)
  refine lv_aload_n hx hb dX1_monkLine_7 rfl (lv_at hl 0 rfl) ?_
  refine zg (v := .ref (g.2.2 39)) E hZ (xb_X1 xs_41) ((xe_X1 xs_41) _) kc_X1 0 (by decide) kw_277 rfl rfl dX1_monkLine_8 ?_
  refine lv_iconst (v := 0) hx hb dX1_monkLine_11 (by decide) ?_
  refine lv_bipush (v := 11) hx hb dX1_monkLine_12 (by decide) ?_
  obtain ⟨u_4, qu_4, h⟩ := zbn_some h
  refine zciS (zrunV E hZ (xb_X7 xs_39) ((xe_X7 xs_39) _) rfl rfl v_X7_takeNumber kw_630 (c_X7_takeNumber l g u_3  0 11 qu_4 _) rfl hl.1 rfl (Nat.le_of_ble_eq_true rfl) ⟨by decide, by decide⟩ ⟨by decide, by decide⟩ dX1_monkLine_14) hZ (fun H locs hZ => ?_)
  refine lv_istore_n (lv' := [(2, .int u_4.1), (0, .ref (g.2.2 41)), (1, .ref (g.2.2 o1))]) hx hb dX1_monkLine_17 rfl hl (by decide) rfl (fun ls hl => ?_)
  refine lv_iload_n hx hb dX1_monkLine_18 rfl (lv_at hl 0 rfl) ?_
  refine lv_iconst (v := (-1)) hx hb dX1_monkLine_19 (by decide) ?_
  refine zic_eq (tgt := 35) h E dX1_monkLine_20 (by decide) (fun c_12 h => ?_) (fun c_12 h => ?_)
  · refine lv_iconst (v := 0) hx hb dX1_monkLine_35 (by decide) ?_
    exact hret _ _ _ _ _ _ (Option.some.inj h).symm rfl hZ dX1_monkLine_36
  · refine lv_aload_n hx hb dX1_monkLine_23 rfl (lv_at hl 1 rfl) ?_
    refine zg (v := .ref (g.2.2 39)) E hZ (xb_X1 xs_41) ((xe_X1 xs_41) _) kc_X1 0 (by decide) kw_277 rfl rfl dX1_monkLine_24 ?_
    refine lv_bipush (v := 8) hx hb dX1_monkLine_27 (by decide) ?_
    obtain ⟨u_5, qu_5, h⟩ := zbn_some h
    refine zciS (zrunV E hZ (xb_X7 xs_39) ((xe_X7 xs_39) _) rfl rfl v_X7_takeWord kw_652 (c_X7_takeWord l g u_4.2  8 qu_5 _) rfl hl.1 rfl (Nat.le_of_ble_eq_true rfl) ⟨by decide, by decide⟩ ⟨by decide, by decide⟩ dX1_monkLine_29) hZ (fun H locs hZ => ?_)
    refine zif_ne (tgt := 37) h E dX1_monkLine_32 (by decide) (fun c_11 h => ?_) (fun c_11 h => ?_)
    · refine lv_aload_n hx hb dX1_monkLine_37 rfl (lv_at hl 1 rfl) ?_
      refine zg (v := .ref (g.2.2 39)) E hZ (xb_X1 xs_41) ((xe_X1 xs_41) _) kc_X1 0 (by decide) kw_277 rfl rfl dX1_monkLine_38 ?_
      refine lv_iconst (v := 1) hx hb dX1_monkLine_41 (by decide) ?_
      refine lv_iconst (v := 4) hx hb dX1_monkLine_42 (by decide) ?_
      obtain ⟨u_6, qu_6, h⟩ := zbn_some h
      refine zciS (zrunV E hZ (xb_X7 xs_39) ((xe_X7 xs_39) _) rfl rfl v_X7_takeNumber kw_630 (c_X7_takeNumber l g u_5.2  1 4 qu_6 _) rfl hl.1 rfl (Nat.le_of_ble_eq_true rfl) ⟨by decide, by decide⟩ ⟨by decide, by decide⟩ dX1_monkLine_43) hZ (fun H locs hZ => ?_)
      refine lv_istore_n (lv' := [(3, .int u_6.1), (2, .int u_4.1), (0, .ref (g.2.2 41)), (1, .ref (g.2.2 o1))]) hx hb dX1_monkLine_46 rfl hl (by decide) rfl (fun ls hl => ?_)
      refine lv_iload_n hx hb dX1_monkLine_47 rfl (lv_at hl 0 rfl) ?_
      refine lv_iconst (v := (-1)) hx hb dX1_monkLine_48 (by decide) ?_
      refine zic_ne (tgt := 54) h E dX1_monkLine_49 (by decide) (fun c_10 h => ?_) (fun c_10 h => ?_)
      · refine lv_aload_n hx hb dX1_monkLine_54 rfl (lv_at hl 2 rfl) ?_
        refine zg (v := .ref (g.2.2 39)) E hZ (xb_X1 xs_41) ((xe_X1 xs_41) _) kc_X1 0 (by decide) kw_277 rfl rfl dX1_monkLine_55 ?_
        refine lv_bipush (v := 9) hx hb dX1_monkLine_58 (by decide) ?_
        obtain ⟨u_7, qu_7, h⟩ := zbn_some h
        refine zciS (zrunV E hZ (xb_X7 xs_39) ((xe_X7 xs_39) _) rfl rfl v_X7_skipWord kw_661 (c_X7_skipWord l g u_6.2  9 qu_7 _) rfl hl.1 rfl (Nat.le_of_ble_eq_true rfl) ⟨by decide, by decide⟩ ⟨by decide, by decide⟩ dX1_monkLine_60) hZ (fun H locs hZ => ?_)
        refine zif_eq (tgt := 79) h E dX1_monkLine_63 (by decide) (fun c_9 h => ?_) (fun c_9 h => ?_)
        · refine lv_iload_n hx hb dX1_monkLine_79 rfl (lv_at hl 1 rfl) ?_
          exact lb_X1_monkLine_80 g o1 ho1 E hret u_7.2 u_4.1 u_6.1 u_4.1  H locs ls h hZ (lv_sub hl [3, 1, 0] rfl)
        · refine lv_aload_n hx hb dX1_monkLine_66 rfl (lv_at hl 2 rfl) ?_
          refine zg (v := .ref (g.2.2 39)) E hZ (xb_X1 xs_41) ((xe_X1 xs_41) _) kc_X1 0 (by decide) kw_277 rfl rfl dX1_monkLine_67 ?_
          refine lv_iconst (v := 0) hx hb dX1_monkLine_70 (by decide) ?_
          refine lv_bipush (v := 11) hx hb dX1_monkLine_71 (by decide) ?_
          obtain ⟨u_8, qu_8, h⟩ := zbn_some h
          refine zciS (zrunV E hZ (xb_X7 xs_39) ((xe_X7 xs_39) _) rfl rfl v_X7_takeNumber kw_630 (c_X7_takeNumber l g u_7.2  0 11 qu_8 _) rfl hl.1 rfl (Nat.le_of_ble_eq_true rfl) ⟨by decide, by decide⟩ ⟨by decide, by decide⟩ dX1_monkLine_73) hZ (fun H locs hZ => ?_)
          refine lv_goto (tgt := 80) hx hb dX1_monkLine_76 (by decide) ?_
          exact lb_X1_monkLine_80 g o1 ho1 E hret u_8.2 u_4.1 u_6.1 u_8.1  H locs ls h hZ (lv_sub hl [3, 1, 0] rfl)
      · refine lv_iconst (v := 0) hx hb dX1_monkLine_52 (by decide) ?_
        exact hret _ _ _ _ _ _ (Option.some.inj h).symm rfl hZ dX1_monkLine_53
    · refine lv_iconst (v := 0) hx hb dX1_monkLine_35 (by decide) ?_
      exact hret _ _ _ _ _ _ (Option.some.inj h).symm rfl hZ dX1_monkLine_36
theorem c_X1_monkLine (l : Launch) (g : zG) (M : zM) (o1 : Nat) (ho1 : xk o1 = 8)  {r : Int32 × zM} (h : f_X1_monkLine M o1 = some r) : zMi l g xE 125 yX1_monkLine (zWs yX1_monkLine cX1_monkLine 5 (some .boolean)) 5 [.ref (g.2.2 41), .ref (g.2.2 o1)] M (fun v M1 => r = (v, M1)) :=
  zMi_of (by decide +kernel) (Nat.le_of_ble_eq_true rfl) (fun p e s m args below meth c Q ls E hret hZ hl => w_X1_monkLine g o1 ho1 E hret M  _ _ ls h hZ hl)
theorem v_X1_monkLine : zYV yX1_monkLine cX1_monkLine 5 (some .boolean) 1 := ⟨kw_660, kw_10, kw_659, kp_14, by decide +kernel⟩

def f_X1_dutyLine (M : zM) (o1 : Nat) : Option (Int32 × zM) :=
  zbn (f_X7_next M ) (fun u_1 => zbn (f_X7_takeNumber u_1 0 11) (fun u_2 => if u_2.1 = ((-1)) then (some (0, u_2.2)) else (zbn (f_X7_takeWord u_2.2 10) (fun u_3 => if u_3.1 = 0 then (some (0, u_3.2)) else (zbn (f_X7_takeNumber u_3.2 0 999) (fun u_4 => if u_4.1 = ((-1)) then (some (0, u_4.2)) else (zbn (f_X7_takeWord u_4.2 11) (fun u_5 => if u_5.1 = 0 then (some (0, u_5.2)) else (zbn (f_X7_takeNumber u_5.2 u_4.1 999) (fun u_6 => if u_6.1 = ((-1)) then (some (0, u_6.2)) else (zbn (f_X9_addDuty u_6.2 o1 u_2.1 u_4.1 u_6.1) (fun u_7 => some (1, u_7)))))))))))))
set_option maxRecDepth 100000 in
set_option maxHeartbeats 4000000 in
theorem w_X1_dutyLine (g : zG)  (o1 : Nat) (ho1 : xk o1 = 8) {r : Int32 × zM} (E : zX g p m c cX1_dutyLine 5 s args (zWs yX1_dutyLine cX1_dutyLine 5 (some .boolean)) RX1) (hret : zRi g xE 125 p l e (zrm 5 0 0) s m args below meth c 0 0 Q cX1_dutyLine .boolean (fun v M1 => r = (v, M1))) (M : zM)  (H : Heap) (locs : List Loc) (ls : Array Slot) (h : f_X1_dutyLine M o1 = some r) (hZ : zS g xE 125 s H locs M) (hl : lv_has ls 5 [(0, .ref (g.2.2 41)), (1, .ref (g.2.2 o1))]) : W p l e (zrm 5 0 0) s m args below meth c H locs 0 0 Q (F0 m 0 ls []) := by
  have hx := E.1.1
  have hb := E.1.2.1
  unfold f_X1_dutyLine at h
  refine lv_aload_n hx hb dX1_dutyLine_0 rfl (lv_at hl 0 rfl) ?_
  refine zg (v := .ref (g.2.2 39)) E hZ (xb_X1 xs_41) ((xe_X1 xs_41) _) kc_X1 0 (by decide) kw_277 rfl rfl dX1_dutyLine_1 ?_
  obtain ⟨u_1, qu_1, h⟩ := zbn_some h
  refine zcvS (zrunV E hZ (xb_X7 xs_39) ((xe_X7 xs_39) _) rfl rfl v_X7_next kw_629 (c_X7_next l g M   qu_1 _) rfl hl.1 rfl (Nat.le_of_ble_eq_true rfl) ⟨by decide, by decide⟩ ⟨by decide, by decide⟩ dX1_dutyLine_4) hZ (fun H locs hZ => ?_)
  refine lv_aload_n hx hb dX1_dutyLine_7 rfl (lv_at hl 0 rfl) ?_
  refine zg (v := .ref (g.2.2 39)) E hZ (xb_X1 xs_41) ((xe_X1 xs_41) _) kc_X1 0 (by decide) kw_277 rfl rfl dX1_dutyLine_8 ?_
  refine lv_iconst (v := 0) hx hb dX1_dutyLine_11 (by decide) ?_
  refine lv_bipush (v := 11) hx hb dX1_dutyLine_12 (by decide) ?_
  obtain ⟨u_2, qu_2, h⟩ := zbn_some h
  refine zciS (zrunV E hZ (xb_X7 xs_39) ((xe_X7 xs_39) _) rfl rfl v_X7_takeNumber kw_630 (c_X7_takeNumber l g u_1  0 11 qu_2 _) rfl hl.1 rfl (Nat.le_of_ble_eq_true rfl) ⟨by decide, by decide⟩ ⟨by decide, by decide⟩ dX1_dutyLine_14) hZ (fun H locs hZ => ?_)
  refine lv_istore_n (lv' := [(2, .int u_2.1), (0, .ref (g.2.2 41)), (1, .ref (g.2.2 o1))]) hx hb dX1_dutyLine_17 rfl hl (by decide) rfl (fun ls hl => ?_)
  refine lv_iload_n hx hb dX1_dutyLine_18 rfl (lv_at hl 0 rfl) ?_
  refine lv_iconst (v := (-1)) hx hb dX1_dutyLine_19 (by decide) ?_
  refine zic_eq (tgt := 35) h E dX1_dutyLine_20 (by decide) (fun c_12 h => ?_) (fun c_12 h => ?_)
  · refine lv_iconst (v := 0) hx hb dX1_dutyLine_35 (by decide) ?_
    exact hret _ _ _ _ _ _ (Option.some.inj h).symm rfl hZ dX1_dutyLine_36
  · refine lv_aload_n hx hb dX1_dutyLine_23 rfl (lv_at hl 1 rfl) ?_
    refine zg (v := .ref (g.2.2 39)) E hZ (xb_X1 xs_41) ((xe_X1 xs_41) _) kc_X1 0 (by decide) kw_277 rfl rfl dX1_dutyLine_24 ?_
    refine lv_bipush (v := 10) hx hb dX1_dutyLine_27 (by decide) ?_
    obtain ⟨u_3, qu_3, h⟩ := zbn_some h
    refine zciS (zrunV E hZ (xb_X7 xs_39) ((xe_X7 xs_39) _) rfl rfl v_X7_takeWord kw_652 (c_X7_takeWord l g u_2.2  10 qu_3 _) rfl hl.1 rfl (Nat.le_of_ble_eq_true rfl) ⟨by decide, by decide⟩ ⟨by decide, by decide⟩ dX1_dutyLine_29) hZ (fun H locs hZ => ?_)
    refine zif_ne (tgt := 37) h E dX1_dutyLine_32 (by decide) (fun c_11 h => ?_) (fun c_11 h => ?_)
    · refine lv_aload_n hx hb dX1_dutyLine_37 rfl (lv_at hl 1 rfl) ?_
      refine zg (v := .ref (g.2.2 39)) E hZ (xb_X1 xs_41) ((xe_X1 xs_41) _) kc_X1 0 (by decide) kw_277 rfl rfl dX1_dutyLine_38 ?_
      refine lv_iconst (v := 0) hx hb dX1_dutyLine_41 (by decide) ?_
      refine lv_sipush (v := 999) hx hb dX1_dutyLine_42 (by decide) ?_
      obtain ⟨u_4, qu_4, h⟩ := zbn_some h
      refine zciS (zrunV E hZ (xb_X7 xs_39) ((xe_X7 xs_39) _) rfl rfl v_X7_takeNumber kw_630 (c_X7_takeNumber l g u_3.2  0 999 qu_4 _) rfl hl.1 rfl (Nat.le_of_ble_eq_true rfl) ⟨by decide, by decide⟩ ⟨by decide, by decide⟩ dX1_dutyLine_45) hZ (fun H locs hZ => ?_)
      refine lv_istore_n (lv' := [(3, .int u_4.1), (2, .int u_2.1), (0, .ref (g.2.2 41)), (1, .ref (g.2.2 o1))]) hx hb dX1_dutyLine_48 rfl hl (by decide) rfl (fun ls hl => ?_)
      refine lv_iload_n hx hb dX1_dutyLine_49 rfl (lv_at hl 0 rfl) ?_
      refine lv_iconst (v := (-1)) hx hb dX1_dutyLine_50 (by decide) ?_
      refine zic_eq (tgt := 66) h E dX1_dutyLine_51 (by decide) (fun c_10 h => ?_) (fun c_10 h => ?_)
      · refine lv_iconst (v := 0) hx hb dX1_dutyLine_66 (by decide) ?_
        exact hret _ _ _ _ _ _ (Option.some.inj h).symm rfl hZ dX1_dutyLine_67
      · refine lv_aload_n hx hb dX1_dutyLine_54 rfl (lv_at hl 2 rfl) ?_
        refine zg (v := .ref (g.2.2 39)) E hZ (xb_X1 xs_41) ((xe_X1 xs_41) _) kc_X1 0 (by decide) kw_277 rfl rfl dX1_dutyLine_55 ?_
        refine lv_bipush (v := 11) hx hb dX1_dutyLine_58 (by decide) ?_
        obtain ⟨u_5, qu_5, h⟩ := zbn_some h
        refine zciS (zrunV E hZ (xb_X7 xs_39) ((xe_X7 xs_39) _) rfl rfl v_X7_takeWord kw_652 (c_X7_takeWord l g u_4.2  11 qu_5 _) rfl hl.1 rfl (Nat.le_of_ble_eq_true rfl) ⟨by decide, by decide⟩ ⟨by decide, by decide⟩ dX1_dutyLine_60) hZ (fun H locs hZ => ?_)
        refine zif_ne (tgt := 68) h E dX1_dutyLine_63 (by decide) (fun c_9 h => ?_) (fun c_9 h => ?_)
        · refine lv_aload_n hx hb dX1_dutyLine_68 rfl (lv_at hl 2 rfl) ?_
          refine zg (v := .ref (g.2.2 39)) E hZ (xb_X1 xs_41) ((xe_X1 xs_41) _) kc_X1 0 (by decide) kw_277 rfl rfl dX1_dutyLine_69 ?_
          refine lv_iload_n hx hb dX1_dutyLine_72 rfl (lv_at hl 0 rfl) ?_
          refine lv_sipush (v := 999) hx hb dX1_dutyLine_73 (by decide) ?_
          obtain ⟨u_6, qu_6, h⟩ := zbn_some h
          refine zciS (zrunV E hZ (xb_X7 xs_39) ((xe_X7 xs_39) _) rfl rfl v_X7_takeNumber kw_630 (c_X7_takeNumber l g u_5.2  u_4.1 999 qu_6 _) rfl hl.1 rfl (Nat.le_of_ble_eq_true rfl) ⟨by decide, by decide⟩ ⟨by decide, by decide⟩ dX1_dutyLine_76) hZ (fun H locs hZ => ?_)
          refine lv_istore (lv' := [(4, .int u_6.1), (3, .int u_4.1), (2, .int u_2.1), (0, .ref (g.2.2 41)), (1, .ref (g.2.2 o1))]) hx hb dX1_dutyLine_79 hl (by decide) rfl (fun ls hl => ?_)
          refine lv_iload hx hb dX1_dutyLine_81 (lv_at hl 0 rfl) ?_
          refine lv_iconst (v := (-1)) hx hb dX1_dutyLine_83 (by decide) ?_
          refine zic_ne (tgt := 89) h E dX1_dutyLine_84 (by decide) (fun c_8 h => ?_) (fun c_8 h => ?_)
          · refine lv_aload_n hx hb dX1_dutyLine_89 rfl (lv_at hl 4 rfl) ?_
            refine lv_iload_n hx hb dX1_dutyLine_90 rfl (lv_at hl 2 rfl) ?_
            refine lv_iload_n hx hb dX1_dutyLine_91 rfl (lv_at hl 1 rfl) ?_
            refine lv_iload hx hb dX1_dutyLine_92 (lv_at hl 0 rfl) ?_
            obtain ⟨u_7, qu_7, h⟩ := zbn_some h
            refine zcvS (zrunV E hZ (xb_X9 ho1) ((xe_X9 ho1) _) rfl rfl v_X9_addDuty kw_678 (c_X9_addDuty l g u_6.2 o1 ho1 u_2.1 u_4.1 u_6.1 qu_7 _) rfl hl.1 rfl (Nat.le_of_ble_eq_true rfl) ⟨by decide, by decide⟩ ⟨by decide, by decide⟩ dX1_dutyLine_94) hZ (fun H locs hZ => ?_)
            refine lv_iconst (v := 1) hx hb dX1_dutyLine_97 (by decide) ?_
            exact hret _ _ _ _ _ _ (Option.some.inj h).symm rfl hZ dX1_dutyLine_98
          · refine lv_iconst (v := 0) hx hb dX1_dutyLine_87 (by decide) ?_
            exact hret _ _ _ _ _ _ (Option.some.inj h).symm rfl hZ dX1_dutyLine_88
        · refine lv_iconst (v := 0) hx hb dX1_dutyLine_66 (by decide) ?_
          exact hret _ _ _ _ _ _ (Option.some.inj h).symm rfl hZ dX1_dutyLine_67
    · refine lv_iconst (v := 0) hx hb dX1_dutyLine_35 (by decide) ?_
      exact hret _ _ _ _ _ _ (Option.some.inj h).symm rfl hZ dX1_dutyLine_36
theorem c_X1_dutyLine (l : Launch) (g : zG) (M : zM) (o1 : Nat) (ho1 : xk o1 = 8)  {r : Int32 × zM} (h : f_X1_dutyLine M o1 = some r) : zMi l g xE 125 yX1_dutyLine (zWs yX1_dutyLine cX1_dutyLine 5 (some .boolean)) 5 [.ref (g.2.2 41), .ref (g.2.2 o1)] M (fun v M1 => r = (v, M1)) :=
  zMi_of (by decide +kernel) (Nat.le_of_ble_eq_true rfl) (fun p e s m args below meth c Q ls E hret hZ hl => w_X1_dutyLine g o1 ho1 E hret M  _ _ ls h hZ hl)
theorem v_X1_dutyLine : zYV yX1_dutyLine cX1_dutyLine 5 (some .boolean) 1 := ⟨kw_677, kw_10, kw_676, kp_15, by decide +kernel⟩

def f_X1_stormLine (M : zM) (o1 : Nat) : Option (Int32 × zM) :=
  zbn (f_X7_next M ) (fun u_1 => zbn (f_X7_takeNumber u_1 0 100) (fun u_2 => if u_2.1 = ((-1)) then (some (0, u_2.2)) else (znm (zu u_2.2 o1 4 u_2.1) (fun M_3 => some (1, M_3)))))
set_option maxRecDepth 100000 in
set_option maxHeartbeats 4000000 in
theorem w_X1_stormLine (g : zG)  (o1 : Nat) (ho1 : xk o1 = 8) {r : Int32 × zM} (E : zX g p m c cX1_stormLine 3 s args (zWs yX1_stormLine cX1_stormLine 3 (some .boolean)) RX1) (hret : zRi g xE 125 p l e (zrm 5 0 0) s m args below meth c 0 0 Q cX1_stormLine .boolean (fun v M1 => r = (v, M1))) (M : zM)  (H : Heap) (locs : List Loc) (ls : Array Slot) (h : f_X1_stormLine M o1 = some r) (hZ : zS g xE 125 s H locs M) (hl : lv_has ls 3 [(0, .ref (g.2.2 41)), (1, .ref (g.2.2 o1))]) : W p l e (zrm 5 0 0) s m args below meth c H locs 0 0 Q (F0 m 0 ls []) := by
  have hx := E.1.1
  have hb := E.1.2.1
  unfold f_X1_stormLine at h
  refine lv_aload_n hx hb dX1_stormLine_0 rfl (lv_at hl 0 rfl) ?_
  refine zg (v := .ref (g.2.2 39)) E hZ (xb_X1 xs_41) ((xe_X1 xs_41) _) kc_X1 0 (by decide) kw_277 rfl rfl dX1_stormLine_1 ?_
  obtain ⟨u_1, qu_1, h⟩ := zbn_some h
  refine zcvS (zrunV E hZ (xb_X7 xs_39) ((xe_X7 xs_39) _) rfl rfl v_X7_next kw_629 (c_X7_next l g M   qu_1 _) rfl hl.1 rfl (Nat.le_of_ble_eq_true rfl) ⟨by decide, by decide⟩ ⟨by decide, by decide⟩ dX1_stormLine_4) hZ (fun H locs hZ => ?_)
  refine lv_aload_n hx hb dX1_stormLine_7 rfl (lv_at hl 0 rfl) ?_
  refine zg (v := .ref (g.2.2 39)) E hZ (xb_X1 xs_41) ((xe_X1 xs_41) _) kc_X1 0 (by decide) kw_277 rfl rfl dX1_stormLine_8 ?_
  refine lv_iconst (v := 0) hx hb dX1_stormLine_11 (by decide) ?_
  refine lv_bipush (v := 100) hx hb dX1_stormLine_12 (by decide) ?_
  obtain ⟨u_2, qu_2, h⟩ := zbn_some h
  refine zciS (zrunV E hZ (xb_X7 xs_39) ((xe_X7 xs_39) _) rfl rfl v_X7_takeNumber kw_630 (c_X7_takeNumber l g u_1  0 100 qu_2 _) rfl hl.1 rfl (Nat.le_of_ble_eq_true rfl) ⟨by decide, by decide⟩ ⟨by decide, by decide⟩ dX1_stormLine_14) hZ (fun H locs hZ => ?_)
  refine lv_istore_n (lv' := [(2, .int u_2.1), (0, .ref (g.2.2 41)), (1, .ref (g.2.2 o1))]) hx hb dX1_stormLine_17 rfl hl (by decide) rfl (fun ls hl => ?_)
  refine lv_iload_n hx hb dX1_stormLine_18 rfl (lv_at hl 0 rfl) ?_
  refine lv_iconst (v := (-1)) hx hb dX1_stormLine_19 (by decide) ?_
  refine zic_ne (tgt := 25) h E dX1_stormLine_20 (by decide) (fun c_4 h => ?_) (fun c_4 h => ?_)
  · refine lv_aload_n hx hb dX1_stormLine_25 rfl (lv_at hl 2 rfl) ?_
    refine lv_iload_n hx hb dX1_stormLine_26 rfl (lv_at hl 0 rfl) ?_
    refine zp h E hZ (xb_X9 ho1) ((xe_X9 ho1) _) (((xe_X9 ho1) _).trans (congrArg (fun z => Sum.inr (8, z)) (fs_X9_4 g _ _ _))) kc_X9 (by decide) kw_75 rfl rfl rfl (Nat.le_of_ble_eq_true rfl) dX1_stormLine_27 (fun M_3 H locs eM_3 h hZ => ?_)
    refine lv_iconst (v := 1) hx hb dX1_stormLine_30 (by decide) ?_
    exact hret _ _ _ _ _ _ (Option.some.inj h).symm rfl hZ dX1_stormLine_31
  · refine lv_iconst (v := 0) hx hb dX1_stormLine_23 (by decide) ?_
    exact hret _ _ _ _ _ _ (Option.some.inj h).symm rfl hZ dX1_stormLine_24
theorem c_X1_stormLine (l : Launch) (g : zG) (M : zM) (o1 : Nat) (ho1 : xk o1 = 8)  {r : Int32 × zM} (h : f_X1_stormLine M o1 = some r) : zMi l g xE 125 yX1_stormLine (zWs yX1_stormLine cX1_stormLine 3 (some .boolean)) 5 [.ref (g.2.2 41), .ref (g.2.2 o1)] M (fun v M1 => r = (v, M1)) :=
  zMi_of (by decide +kernel) (Nat.le_of_ble_eq_true rfl) (fun p e s m args below meth c Q ls E hret hZ hl => w_X1_stormLine g o1 ho1 E hret M  _ _ ls h hZ hl)
theorem v_X1_stormLine : zYV yX1_stormLine cX1_stormLine 3 (some .boolean) 1 := ⟨kw_685, kw_10, kw_684, kp_16, by decide +kernel⟩

def b_X1_change_31  (M : zM) (x1 : Int32) : Option (Int32 × zM) :=
  zbn (f_X7_next M ) (fun u_1 => zbn (f_X7_takeNumber u_1 0 3) (fun u_2 => if u_2.1 = ((-1)) then (some ((-9), u_2.2)) else (if x1 = 12 then (some (u_2.1, u_2.2)) else (some (-u_2.1, u_2.2)))))
set_option maxRecDepth 100000 in
set_option maxHeartbeats 4000000 in
theorem lb_X1_change_31 (g : zG)  {r : Int32 × zM} (E : zX g p m c cX1_change 3 s args (zWs yX1_change cX1_change 3 (some .int)) RX1) (hret : zRi g xE 125 p l e (zrm 5 0 0) s m args below meth c 0 0 Q cX1_change .int (fun v M1 => r = (v, M1))) (M : zM) (x1 : Int32)  (H : Heap) (locs : List Loc) (ls : Array Slot) (h : b_X1_change_31  M x1 = some r) (hZ : zS g xE 125 s H locs M) (hl : lv_has ls 3 [(0, .ref (g.2.2 41)), (1, .int x1)]) : W p l e (zrm 5 0 0) s m args below meth c H locs 0 0 Q (F0 m 31 ls []) := by
  have hx := E.1.1
  have hb := E.1.2.1
  unfold b_X1_change_31 at h
  refine lv_aload_n hx hb dX1_change_31 rfl (lv_at hl 0 rfl) ?_
  refine zg (v := .ref (g.2.2 39)) E hZ (xb_X1 xs_41) ((xe_X1 xs_41) _) kc_X1 0 (by decide) kw_277 rfl rfl dX1_change_32 ?_
  obtain ⟨u_1, qu_1, h⟩ := zbn_some h
  refine zcvS (zrunV E hZ (xb_X7 xs_39) ((xe_X7 xs_39) _) rfl rfl v_X7_next kw_629 (c_X7_next l g M   qu_1 _) rfl hl.1 rfl (Nat.le_of_ble_eq_true rfl) ⟨by decide, by decide⟩ ⟨by decide, by decide⟩ dX1_change_35) hZ (fun H locs hZ => ?_)
  refine lv_aload_n hx hb dX1_change_38 rfl (lv_at hl 0 rfl) ?_
  refine zg (v := .ref (g.2.2 39)) E hZ (xb_X1 xs_41) ((xe_X1 xs_41) _) kc_X1 0 (by decide) kw_277 rfl rfl dX1_change_39 ?_
  refine lv_iconst (v := 0) hx hb dX1_change_42 (by decide) ?_
  refine lv_iconst (v := 3) hx hb dX1_change_43 (by decide) ?_
  obtain ⟨u_2, qu_2, h⟩ := zbn_some h
  refine zciS (zrunV E hZ (xb_X7 xs_39) ((xe_X7 xs_39) _) rfl rfl v_X7_takeNumber kw_630 (c_X7_takeNumber l g u_1  0 3 qu_2 _) rfl hl.1 rfl (Nat.le_of_ble_eq_true rfl) ⟨by decide, by decide⟩ ⟨by decide, by decide⟩ dX1_change_44) hZ (fun H locs hZ => ?_)
  refine lv_istore_n (lv' := [(2, .int u_2.1), (0, .ref (g.2.2 41)), (1, .int x1)]) hx hb dX1_change_47 rfl hl (by decide) rfl (fun ls hl => ?_)
  refine lv_iload_n hx hb dX1_change_48 rfl (lv_at hl 0 rfl) ?_
  refine lv_iconst (v := (-1)) hx hb dX1_change_49 (by decide) ?_
  refine zic_ne (tgt := 56) h E dX1_change_50 (by decide) (fun c_4 h => ?_) (fun c_4 h => ?_)
  · refine lv_iload_n hx hb dX1_change_56 rfl (lv_at hl 2 rfl) ?_
    refine lv_bipush (v := 12) hx hb dX1_change_57 (by decide) ?_
    refine zic_ne (tgt := 66) h E dX1_change_59 (by decide) (fun c_3 h => ?_) (fun c_3 h => ?_)
    · refine lv_iload_n hx hb dX1_change_66 rfl (lv_at hl 0 rfl) ?_
      refine lv_ineg hx hb dX1_change_67 ?_
      exact hret _ _ _ _ _ _ (Option.some.inj h).symm rfl hZ dX1_change_68
    · refine lv_iload_n hx hb dX1_change_62 rfl (lv_at hl 0 rfl) ?_
      refine lv_goto (tgt := 68) hx hb dX1_change_63 (by decide) ?_
      exact hret _ _ _ _ _ _ (Option.some.inj h).symm rfl hZ dX1_change_68
  · refine lv_bipush (v := (-9)) hx hb dX1_change_53 (by decide) ?_
    exact hret _ _ _ _ _ _ (Option.some.inj h).symm rfl hZ dX1_change_55
def f_X1_change (M : zM)  : Option (Int32 × zM) :=
  zbn (f_X7_word M ) (fun u_5 => if u_5 = 12 then (b_X1_change_31  M u_5) else (if u_5 = 13 then (b_X1_change_31  M u_5) else (zbn (f_X7_miss M ) (fun u_6 => some ((-9), u_6.2)))))
set_option maxRecDepth 100000 in
set_option maxHeartbeats 4000000 in
theorem w_X1_change (g : zG)  {r : Int32 × zM} (E : zX g p m c cX1_change 3 s args (zWs yX1_change cX1_change 3 (some .int)) RX1) (hret : zRi g xE 125 p l e (zrm 5 0 0) s m args below meth c 0 0 Q cX1_change .int (fun v M1 => r = (v, M1))) (M : zM)  (H : Heap) (locs : List Loc) (ls : Array Slot) (h : f_X1_change M  = some r) (hZ : zS g xE 125 s H locs M) (hl : lv_has ls 3 [(0, .ref (g.2.2 41))]) : W p l e (zrm 5 0 0) s m args below meth c H locs 0 0 Q (F0 m 0 ls []) := by
  have hx := E.1.1
  have hb := E.1.2.1
  unfold f_X1_change at h
  refine lv_aload_n hx hb dX1_change_0 rfl (lv_at hl 0 rfl) ?_
  refine zg (v := .ref (g.2.2 39)) E hZ (xb_X1 xs_41) ((xe_X1 xs_41) _) kc_X1 0 (by decide) kw_277 rfl rfl dX1_change_1 ?_
  obtain ⟨u_5, qu_5, h⟩ := zbn_some h
  refine zciR (zrunV E hZ (xb_X7 xs_39) ((xe_X7 xs_39) _) rfl rfl v_X7_word kw_621 (c_X7_word l g M   qu_5 _) rfl hl.1 rfl (Nat.le_of_ble_eq_true rfl) ⟨by decide, by decide⟩ ⟨by decide, by decide⟩ dX1_change_4) hZ (fun H locs hZ => ?_)
  refine lv_istore_n (lv' := [(1, .int u_5), (0, .ref (g.2.2 41))]) hx hb dX1_change_7 rfl hl (by decide) rfl (fun ls hl => ?_)
  refine lv_iload_n hx hb dX1_change_8 rfl (lv_at hl 0 rfl) ?_
  refine lv_bipush (v := 12) hx hb dX1_change_9 (by decide) ?_
  refine zic_eq (tgt := 31) h E dX1_change_11 (by decide) (fun c_8 h => ?_) (fun c_8 h => ?_)
  · exact lb_X1_change_31 g  E hret M u_5  H locs ls h hZ (lv_sub hl [1, 0] rfl)
  · refine lv_iload_n hx hb dX1_change_14 rfl (lv_at hl 0 rfl) ?_
    refine lv_bipush (v := 13) hx hb dX1_change_15 (by decide) ?_
    refine zic_eq (tgt := 31) h E dX1_change_17 (by decide) (fun c_7 h => ?_) (fun c_7 h => ?_)
    · exact lb_X1_change_31 g  E hret M u_5  H locs ls h hZ (lv_sub hl [1, 0] rfl)
    · refine lv_aload_n hx hb dX1_change_20 rfl (lv_at hl 1 rfl) ?_
      refine zg (v := .ref (g.2.2 39)) E hZ (xb_X1 xs_41) ((xe_X1 xs_41) _) kc_X1 0 (by decide) kw_277 rfl rfl dX1_change_21 ?_
      obtain ⟨u_6, qu_6, h⟩ := zbn_some h
      refine zciS (zrunV E hZ (xb_X7 xs_39) ((xe_X7 xs_39) _) rfl rfl v_X7_miss kw_613 (c_X7_miss l g M   qu_6 _) rfl hl.1 rfl (Nat.le_of_ble_eq_true rfl) ⟨by decide, by decide⟩ ⟨by decide, by decide⟩ dX1_change_24) hZ (fun H locs hZ => ?_)
      refine lv_pop hx hb dX1_change_27 rfl ?_
      refine lv_bipush (v := (-9)) hx hb dX1_change_28 (by decide) ?_
      exact hret _ _ _ _ _ _ (Option.some.inj h).symm rfl hZ dX1_change_30
theorem c_X1_change (l : Launch) (g : zG) (M : zM)   {r : Int32 × zM} (h : f_X1_change M  = some r) : zMi l g xE 125 yX1_change (zWs yX1_change cX1_change 3 (some .int)) 5 [.ref (g.2.2 41)] M (fun v M1 => r = (v, M1)) :=
  zMi_of (by decide +kernel) (Nat.le_of_ble_eq_true rfl) (fun p e s m args below meth c Q ls E hret hZ hl => w_X1_change g  E hret M  _ _ ls h hZ hl)
theorem v_X1_change : zYV yX1_change cX1_change 3 (some .int) 0 := ⟨kw_693, kw_10, kw_692, kp_18, by decide +kernel⟩

def f_X1_editionLine (M : zM) (o1 : Nat) : Option (Int32 × zM) :=
  zbn (f_X7_next M ) (fun u_1 => zbn (f_X1_change u_1 ) (fun u_2 => if u_2.1 = ((-9)) then (some (0, u_2.2)) else (znm (zu u_2.2 o1 3 u_2.1) (fun M_3 => some (1, M_3)))))
set_option maxRecDepth 100000 in
set_option maxHeartbeats 4000000 in
theorem w_X1_editionLine (g : zG)  (o1 : Nat) (ho1 : xk o1 = 8) {r : Int32 × zM} (E : zX g p m c cX1_editionLine 3 s args (zWs yX1_editionLine cX1_editionLine 3 (some .boolean)) RX1) (hret : zRi g xE 125 p l e (zrm 6 0 0) s m args below meth c 0 0 Q cX1_editionLine .boolean (fun v M1 => r = (v, M1))) (M : zM)  (H : Heap) (locs : List Loc) (ls : Array Slot) (h : f_X1_editionLine M o1 = some r) (hZ : zS g xE 125 s H locs M) (hl : lv_has ls 3 [(0, .ref (g.2.2 41)), (1, .ref (g.2.2 o1))]) : W p l e (zrm 6 0 0) s m args below meth c H locs 0 0 Q (F0 m 0 ls []) := by
  have hx := E.1.1
  have hb := E.1.2.1
  unfold f_X1_editionLine at h
  refine lv_aload_n hx hb dX1_editionLine_0 rfl (lv_at hl 0 rfl) ?_
  refine zg (v := .ref (g.2.2 39)) E hZ (xb_X1 xs_41) ((xe_X1 xs_41) _) kc_X1 0 (by decide) kw_277 rfl rfl dX1_editionLine_1 ?_
  obtain ⟨u_1, qu_1, h⟩ := zbn_some h
  refine zcvS (zrunV E hZ (xb_X7 xs_39) ((xe_X7 xs_39) _) rfl rfl v_X7_next kw_629 (c_X7_next l g M   qu_1 _) rfl hl.1 rfl (Nat.le_of_ble_eq_true rfl) ⟨by decide, by decide⟩ ⟨by decide, by decide⟩ dX1_editionLine_4) hZ (fun H locs hZ => ?_)
  refine lv_aload_n hx hb dX1_editionLine_7 rfl (lv_at hl 0 rfl) ?_
  obtain ⟨u_2, qu_2, h⟩ := zbn_some h
  refine zciS (zrunV E hZ (xb_X1 xs_41) ((xe_X1 xs_41) _) rfl rfl v_X1_change kw_690 (c_X1_change l g u_1   qu_2 _) rfl hl.1 rfl (Nat.le_of_ble_eq_true rfl) ⟨by decide, by decide⟩ ⟨by decide, by decide⟩ dX1_editionLine_8) hZ (fun H locs hZ => ?_)
  refine lv_istore_n (lv' := [(2, .int u_2.1), (0, .ref (g.2.2 41)), (1, .ref (g.2.2 o1))]) hx hb dX1_editionLine_11 rfl hl (by decide) rfl (fun ls hl => ?_)
  refine lv_iload_n hx hb dX1_editionLine_12 rfl (lv_at hl 0 rfl) ?_
  refine lv_bipush (v := (-9)) hx hb dX1_editionLine_13 (by decide) ?_
  refine zic_ne (tgt := 20) h E dX1_editionLine_15 (by decide) (fun c_4 h => ?_) (fun c_4 h => ?_)
  · refine lv_aload_n hx hb dX1_editionLine_20 rfl (lv_at hl 2 rfl) ?_
    refine lv_iload_n hx hb dX1_editionLine_21 rfl (lv_at hl 0 rfl) ?_
    refine zp h E hZ (xb_X9 ho1) ((xe_X9 ho1) _) (((xe_X9 ho1) _).trans (congrArg (fun z => Sum.inr (8, z)) (fs_X9_3 g _ _ _))) kc_X9 (by decide) kw_72 rfl rfl rfl (Nat.le_of_ble_eq_true rfl) dX1_editionLine_22 (fun M_3 H locs eM_3 h hZ => ?_)
    refine lv_iconst (v := 1) hx hb dX1_editionLine_25 (by decide) ?_
    exact hret _ _ _ _ _ _ (Option.some.inj h).symm rfl hZ dX1_editionLine_26
  · refine lv_iconst (v := 0) hx hb dX1_editionLine_18 (by decide) ?_
    exact hret _ _ _ _ _ _ (Option.some.inj h).symm rfl hZ dX1_editionLine_19
theorem c_X1_editionLine (l : Launch) (g : zG) (M : zM) (o1 : Nat) (ho1 : xk o1 = 8)  {r : Int32 × zM} (h : f_X1_editionLine M o1 = some r) : zMi l g xE 125 yX1_editionLine (zWs yX1_editionLine cX1_editionLine 3 (some .boolean)) 6 [.ref (g.2.2 41), .ref (g.2.2 o1)] M (fun v M1 => r = (v, M1)) :=
  zMi_of (by decide +kernel) (Nat.le_of_ble_eq_true rfl) (fun p e s m args below meth c Q ls E hret hZ hl => w_X1_editionLine g o1 ho1 E hret M  _ _ ls h hZ hl)
theorem v_X1_editionLine : zYV yX1_editionLine cX1_editionLine 3 (some .boolean) 1 := ⟨kw_689, kw_10, kw_688, kp_17, by decide +kernel⟩

def b_X1_errorLine_32  (o1 : Nat) (M : zM) (x2 : Int32) (t0 : Int32) : Option (Int32 × zM) :=
  if t0 = ((-9)) then (some (0, M)) else (zbn (f_X10_put M (o1 + 2) x2 t0) (fun u_1 => some (1, u_1)))
set_option maxRecDepth 100000 in
set_option maxHeartbeats 4000000 in
theorem lb_X1_errorLine_32 (g : zG)  (o1 : Nat) (ho1 : xk o1 = 8) {r : Int32 × zM} (E : zX g p m c cX1_errorLine 4 s args (zWs yX1_errorLine cX1_errorLine 4 (some .boolean)) RX1) (hret : zRi g xE 125 p l e (zrm 6 0 0) s m args below meth c 0 0 Q cX1_errorLine .boolean (fun v M1 => r = (v, M1))) (M : zM) (x2 : Int32) (t0 : Int32)  (H : Heap) (locs : List Loc) (ls : Array Slot) (h : b_X1_errorLine_32  o1 M x2 t0 = some r) (hZ : zS g xE 125 s H locs M) (hl : lv_has ls 4 [(1, .ref (g.2.2 o1)), (2, .int x2)]) : W p l e (zrm 6 0 0) s m args below meth c H locs 0 0 Q (F0 m 32 ls [.int t0]) := by
  have hx := E.1.1
  have hb := E.1.2.1
  unfold b_X1_errorLine_32 at h
  refine lv_istore_n (lv' := [(3, .int t0), (1, .ref (g.2.2 o1)), (2, .int x2)]) hx hb dX1_errorLine_32 rfl hl (by decide) rfl (fun ls hl => ?_)
  refine lv_iload_n hx hb dX1_errorLine_33 rfl (lv_at hl 0 rfl) ?_
  refine lv_bipush (v := (-9)) hx hb dX1_errorLine_34 (by decide) ?_
  refine zic_ne (tgt := 41) h E dX1_errorLine_36 (by decide) (fun c_2 h => ?_) (fun c_2 h => ?_)
  · refine lv_aload_n hx hb dX1_errorLine_41 rfl (lv_at hl 1 rfl) ?_
    refine zg (v := .ref (g.2.2 (o1 + 2))) E hZ (xb_X9 ho1) ((xe_X9 ho1) _) kc_X9 16 (by decide) kw_115 rfl rfl dX1_errorLine_42 ?_
    refine lv_iload_n hx hb dX1_errorLine_45 rfl (lv_at hl 2 rfl) ?_
    refine lv_iload_n hx hb dX1_errorLine_46 rfl (lv_at hl 0 rfl) ?_
    obtain ⟨u_1, qu_1, h⟩ := zbn_some h
    refine zcvS (zrunSN E hZ v_X10_put kw_639 (c_X10_put l g M (o1 + 2) (xc_X9_errors ho1).1 x2 t0 qu_1 _) rfl hl.1 rfl (Nat.le_of_ble_eq_true rfl) ⟨by decide, by decide⟩ ⟨by decide, by decide⟩ dX1_errorLine_47) hZ (fun H locs hZ => ?_)
    refine lv_iconst (v := 1) hx hb dX1_errorLine_50 (by decide) ?_
    exact hret _ _ _ _ _ _ (Option.some.inj h).symm rfl hZ dX1_errorLine_51
  · refine lv_iconst (v := 0) hx hb dX1_errorLine_39 (by decide) ?_
    exact hret _ _ _ _ _ _ (Option.some.inj h).symm rfl hZ dX1_errorLine_40
def f_X1_errorLine (M : zM) (o1 : Nat) : Option (Int32 × zM) :=
  zbn (f_X7_next M ) (fun u_3 => zbn (f_X7_takeNumber u_3 0 11) (fun u_4 => if u_4.1 = ((-1)) then (b_X1_errorLine_32  o1 u_4.2 u_4.1 ((-9))) else (zbn (f_X1_change u_4.2 ) (fun u_5 => b_X1_errorLine_32  o1 u_5.2 u_4.1 u_5.1))))
set_option maxRecDepth 100000 in
set_option maxHeartbeats 4000000 in
theorem w_X1_errorLine (g : zG)  (o1 : Nat) (ho1 : xk o1 = 8) {r : Int32 × zM} (E : zX g p m c cX1_errorLine 4 s args (zWs yX1_errorLine cX1_errorLine 4 (some .boolean)) RX1) (hret : zRi g xE 125 p l e (zrm 6 0 0) s m args below meth c 0 0 Q cX1_errorLine .boolean (fun v M1 => r = (v, M1))) (M : zM)  (H : Heap) (locs : List Loc) (ls : Array Slot) (h : f_X1_errorLine M o1 = some r) (hZ : zS g xE 125 s H locs M) (hl : lv_has ls 4 [(0, .ref (g.2.2 41)), (1, .ref (g.2.2 o1))]) : W p l e (zrm 6 0 0) s m args below meth c H locs 0 0 Q (F0 m 0 ls []) := by
  have hx := E.1.1
  have hb := E.1.2.1
  unfold f_X1_errorLine at h
  refine lv_aload_n hx hb dX1_errorLine_0 rfl (lv_at hl 0 rfl) ?_
  refine zg (v := .ref (g.2.2 39)) E hZ (xb_X1 xs_41) ((xe_X1 xs_41) _) kc_X1 0 (by decide) kw_277 rfl rfl dX1_errorLine_1 ?_
  obtain ⟨u_3, qu_3, h⟩ := zbn_some h
  refine zcvS (zrunV E hZ (xb_X7 xs_39) ((xe_X7 xs_39) _) rfl rfl v_X7_next kw_629 (c_X7_next l g M   qu_3 _) rfl hl.1 rfl (Nat.le_of_ble_eq_true rfl) ⟨by decide, by decide⟩ ⟨by decide, by decide⟩ dX1_errorLine_4) hZ (fun H locs hZ => ?_)
  refine lv_aload_n hx hb dX1_errorLine_7 rfl (lv_at hl 0 rfl) ?_
  refine zg (v := .ref (g.2.2 39)) E hZ (xb_X1 xs_41) ((xe_X1 xs_41) _) kc_X1 0 (by decide) kw_277 rfl rfl dX1_errorLine_8 ?_
  refine lv_iconst (v := 0) hx hb dX1_errorLine_11 (by decide) ?_
  refine lv_bipush (v := 11) hx hb dX1_errorLine_12 (by decide) ?_
  obtain ⟨u_4, qu_4, h⟩ := zbn_some h
  refine zciS (zrunV E hZ (xb_X7 xs_39) ((xe_X7 xs_39) _) rfl rfl v_X7_takeNumber kw_630 (c_X7_takeNumber l g u_3  0 11 qu_4 _) rfl hl.1 rfl (Nat.le_of_ble_eq_true rfl) ⟨by decide, by decide⟩ ⟨by decide, by decide⟩ dX1_errorLine_14) hZ (fun H locs hZ => ?_)
  refine lv_istore_n (lv' := [(2, .int u_4.1), (0, .ref (g.2.2 41)), (1, .ref (g.2.2 o1))]) hx hb dX1_errorLine_17 rfl hl (by decide) rfl (fun ls hl => ?_)
  refine lv_iload_n hx hb dX1_errorLine_18 rfl (lv_at hl 0 rfl) ?_
  refine lv_iconst (v := (-1)) hx hb dX1_errorLine_19 (by decide) ?_
  refine zic_ne (tgt := 28) h E dX1_errorLine_20 (by decide) (fun c_6 h => ?_) (fun c_6 h => ?_)
  · refine lv_aload_n hx hb dX1_errorLine_28 rfl (lv_at hl 1 rfl) ?_
    obtain ⟨u_5, qu_5, h⟩ := zbn_some h
    refine zciS (zrunV E hZ (xb_X1 xs_41) ((xe_X1 xs_41) _) rfl rfl v_X1_change kw_690 (c_X1_change l g u_4.2   qu_5 _) rfl hl.1 rfl (Nat.le_of_ble_eq_true rfl) ⟨by decide, by decide⟩ ⟨by decide, by decide⟩ dX1_errorLine_29) hZ (fun H locs hZ => ?_)
    exact lb_X1_errorLine_32 g o1 ho1 E hret u_5.2 u_4.1 u_5.1  H locs ls h hZ (lv_sub hl [2, 0] rfl)
  · refine lv_bipush (v := (-9)) hx hb dX1_errorLine_23 (by decide) ?_
    refine lv_goto (tgt := 32) hx hb dX1_errorLine_25 (by decide) ?_
    exact lb_X1_errorLine_32 g o1 ho1 E hret u_4.2 u_4.1 ((-9))  H locs ls h hZ (lv_sub hl [2, 0] rfl)
theorem c_X1_errorLine (l : Launch) (g : zG) (M : zM) (o1 : Nat) (ho1 : xk o1 = 8)  {r : Int32 × zM} (h : f_X1_errorLine M o1 = some r) : zMi l g xE 125 yX1_errorLine (zWs yX1_errorLine cX1_errorLine 4 (some .boolean)) 6 [.ref (g.2.2 41), .ref (g.2.2 o1)] M (fun v M1 => r = (v, M1)) :=
  zMi_of (by decide +kernel) (Nat.le_of_ble_eq_true rfl) (fun p e s m args below meth c Q ls E hret hZ hl => w_X1_errorLine g o1 ho1 E hret M  _ _ ls h hZ hl)
theorem v_X1_errorLine : zYV yX1_errorLine cX1_errorLine 4 (some .boolean) 1 := ⟨kw_697, kw_10, kw_696, kp_19, by decide +kernel⟩

def b_X1_line_52  (o1 : Nat) (M : zM) : Option (Int32 × zM) :=
  zbn (f_X7_miss M ) (fun u_1 => zck (zbl u_1.1) (some (u_1.1, u_1.2)))
set_option maxRecDepth 100000 in
set_option maxHeartbeats 4000000 in
theorem lb_X1_line_52 (g : zG)  (o1 : Nat) (ho1 : xk o1 = 8) {r : Int32 × zM} (E : zX g p m c cX1_line 4 s args (zWs yX1_line cX1_line 4 (some .boolean)) RX1) (hret : zRi g xE 125 p l e (zrm 7 0 0) s m args below meth c 0 0 Q cX1_line .boolean (fun v M1 => r = (v, M1))) (M : zM)  (H : Heap) (locs : List Loc) (ls : Array Slot) (h : b_X1_line_52  o1 M = some r) (hZ : zS g xE 125 s H locs M) (hl : lv_has ls 4 [(0, .ref (g.2.2 41))]) : W p l e (zrm 7 0 0) s m args below meth c H locs 0 0 Q (F0 m 52 ls []) := by
  have hx := E.1.1
  have hb := E.1.2.1
  unfold b_X1_line_52 at h
  refine lv_aload_n hx hb dX1_line_52 rfl (lv_at hl 0 rfl) ?_
  refine zg (v := .ref (g.2.2 39)) E hZ (xb_X1 xs_41) ((xe_X1 xs_41) _) kc_X1 0 (by decide) kw_277 rfl rfl dX1_line_53 ?_
  obtain ⟨u_1, qu_1, h⟩ := zbn_some h
  refine zciS (zrunV E hZ (xb_X7 xs_39) ((xe_X7 xs_39) _) rfl rfl v_X7_miss kw_613 (c_X7_miss l g M   qu_1 _) rfl hl.1 rfl (Nat.le_of_ble_eq_true rfl) ⟨by decide, by decide⟩ ⟨by decide, by decide⟩ dX1_line_56) hZ (fun H locs hZ => ?_)
  obtain ⟨hbl, h⟩ := zck_some h
  exact hret _ _ _ _ _ _ (Option.some.inj h).symm (zbl_n hbl) hZ dX1_line_59
def b_X1_line_218  (o1 : Nat) (M : zM) : Option (Int32 × zM) :=
  zbn (f_X7_miss M ) (fun u_2 => zck (zbl u_2.1) (some (u_2.1, u_2.2)))
set_option maxRecDepth 100000 in
set_option maxHeartbeats 4000000 in
theorem lb_X1_line_218 (g : zG)  (o1 : Nat) (ho1 : xk o1 = 8) {r : Int32 × zM} (E : zX g p m c cX1_line 4 s args (zWs yX1_line cX1_line 4 (some .boolean)) RX1) (hret : zRi g xE 125 p l e (zrm 7 0 0) s m args below meth c 0 0 Q cX1_line .boolean (fun v M1 => r = (v, M1))) (M : zM)  (H : Heap) (locs : List Loc) (ls : Array Slot) (h : b_X1_line_218  o1 M = some r) (hZ : zS g xE 125 s H locs M) (hl : lv_has ls 4 [(0, .ref (g.2.2 41))]) : W p l e (zrm 7 0 0) s m args below meth c H locs 0 0 Q (F0 m 218 ls []) := by
  have hx := E.1.1
  have hb := E.1.2.1
  unfold b_X1_line_218 at h
  refine lv_aload_n hx hb dX1_line_218 rfl (lv_at hl 0 rfl) ?_
  refine zg (v := .ref (g.2.2 39)) E hZ (xb_X1 xs_41) ((xe_X1 xs_41) _) kc_X1 0 (by decide) kw_277 rfl rfl dX1_line_219 ?_
  obtain ⟨u_2, qu_2, h⟩ := zbn_some h
  refine zciS (zrunV E hZ (xb_X7 xs_39) ((xe_X7 xs_39) _) rfl rfl v_X7_miss kw_613 (c_X7_miss l g M   qu_2 _) rfl hl.1 rfl (Nat.le_of_ble_eq_true rfl) ⟨by decide, by decide⟩ ⟨by decide, by decide⟩ dX1_line_222) hZ (fun H locs hZ => ?_)
  obtain ⟨hbl, h⟩ := zck_some h
  exact hret _ _ _ _ _ _ (Option.some.inj h).symm (zbl_n hbl) hZ dX1_line_225
def b_X1_line_42  (o1 : Nat) (M : zM) (x2 : Int32) (t0 : Int32) : Option (Int32 × zM) :=
  if x2 = ((-1)) then (b_X1_line_52  o1 M) else (if t0 = 0 then (if x2 = 0 then (zbn (f_X1_groundLine M o1) (fun u_3 => zck (zbl u_3.1) (some (u_3.1, u_3.2)))) else if x2 = 1 then (zbn (f_X1_periodLine M o1) (fun u_4 => zck (zbl u_4.1) (some (u_4.1, u_4.2)))) else if x2 = 2 then (zbn (f_X1_roundLine M o1) (fun u_5 => zck (zbl u_5.1) (some (u_5.1, u_5.2)))) else if x2 = 3 then (zbn (f_X1_rangeLine M o1) (fun u_6 => zck (zbl u_6.1) (some (u_6.1, u_6.2)))) else if x2 = 4 then (zbn (f_X1_dutyLine M o1) (fun u_7 => zck (zbl u_7.1) (some (u_7.1, u_7.2)))) else if x2 = 5 then (zbn (f_X1_stormLine M o1) (fun u_8 => zck (zbl u_8.1) (some (u_8.1, u_8.2)))) else if x2 = 6 then (zbn (f_X1_editionLine M o1) (fun u_9 => zck (zbl u_9.1) (some (u_9.1, u_9.2)))) else if x2 = 7 then (zbn (f_X1_errorLine M o1) (fun u_10 => zck (zbl u_10.1) (some (u_10.1, u_10.2)))) else if x2 = 21 then (zbn (f_X1_monkLine M o1) (fun u_11 => zck (zbl u_11.1) (some (u_11.1, u_11.2)))) else (b_X1_line_218  o1 M)) else (b_X1_line_52  o1 M))
set_option maxRecDepth 100000 in
set_option maxHeartbeats 4000000 in
theorem lb_X1_line_42 (g : zG)  (o1 : Nat) (ho1 : xk o1 = 8) {r : Int32 × zM} (E : zX g p m c cX1_line 4 s args (zWs yX1_line cX1_line 4 (some .boolean)) RX1) (hret : zRi g xE 125 p l e (zrm 7 0 0) s m args below meth c 0 0 Q cX1_line .boolean (fun v M1 => r = (v, M1))) (M : zM) (x2 : Int32) (t0 : Int32)  (H : Heap) (locs : List Loc) (ls : Array Slot) (h : b_X1_line_42  o1 M x2 t0 = some r) (hZ : zS g xE 125 s H locs M) (hl : lv_has ls 4 [(0, .ref (g.2.2 41)), (1, .ref (g.2.2 o1)), (2, .int x2)]) : W p l e (zrm 7 0 0) s m args below meth c H locs 0 0 Q (F0 m 42 ls [.int t0]) := by
  have hx := E.1.1
  have hb := E.1.2.1
  unfold b_X1_line_42 at h
  refine lv_istore_n (lv' := [(3, .int t0), (0, .ref (g.2.2 41)), (1, .ref (g.2.2 o1)), (2, .int x2)]) hx hb dX1_line_42 rfl hl (by decide) rfl (fun ls hl => ?_)
  refine lv_iload_n hx hb dX1_line_43 rfl (lv_at hl 3 rfl) ?_
  refine lv_iconst (v := (-1)) hx hb dX1_line_44 (by decide) ?_
  refine zic_eq (tgt := 52) h E dX1_line_45 (by decide) (fun c_22 h => ?_) (fun c_22 h => ?_)
  · exact lb_X1_line_52 g o1 ho1 E hret M  H locs ls h hZ (lv_sub hl [1] rfl)
  · refine lv_iload_n hx hb dX1_line_48 rfl (lv_at hl 0 rfl) ?_
    refine zif_eq (tgt := 60) h E dX1_line_49 (by decide) (fun c_21 h => ?_) (fun c_21 h => ?_)
    · refine lv_iload_n hx hb dX1_line_60 rfl (lv_at hl 3 rfl) ?_
      rcases zsp h with ⟨c_12, h⟩ | ⟨c_12, h⟩
      · refine lv_tableIn (tgt := 164) hx hb dX1_line_61 (by rw [c_12]; decide) (by rw [c_12]; decide) (by rw [c_12]; rfl) (by decide) ?_
        refine lv_aload_n hx hb dX1_line_164 rfl (lv_at hl 1 rfl) ?_
        refine lv_aload_n hx hb dX1_line_165 rfl (lv_at hl 2 rfl) ?_
        obtain ⟨u_3, qu_3, h⟩ := zbn_some h
        refine zciS (zrunV E hZ (xb_X1 xs_41) ((xe_X1 xs_41) _) rfl rfl v_X1_groundLine kw_625 (c_X1_groundLine l g M o1 ho1  qu_3 _) rfl hl.1 rfl (Nat.le_of_ble_eq_true rfl) ⟨by decide, by decide⟩ ⟨by decide, by decide⟩ dX1_line_166) hZ (fun H locs hZ => ?_)
        obtain ⟨hbl, h⟩ := zck_some h
        exact hret _ _ _ _ _ _ (Option.some.inj h).symm (zbl_n hbl) hZ dX1_line_169
      rcases zsp h with ⟨c_13, h⟩ | ⟨c_13, h⟩
      · refine lv_tableIn (tgt := 170) hx hb dX1_line_61 (by rw [c_13]; decide) (by rw [c_13]; decide) (by rw [c_13]; rfl) (by decide) ?_
        refine lv_aload_n hx hb dX1_line_170 rfl (lv_at hl 1 rfl) ?_
        refine lv_aload_n hx hb dX1_line_171 rfl (lv_at hl 2 rfl) ?_
        obtain ⟨u_4, qu_4, h⟩ := zbn_some h
        refine zciS (zrunV E hZ (xb_X1 xs_41) ((xe_X1 xs_41) _) rfl rfl v_X1_periodLine kw_640 (c_X1_periodLine l g M o1 ho1  qu_4 _) rfl hl.1 rfl (Nat.le_of_ble_eq_true rfl) ⟨by decide, by decide⟩ ⟨by decide, by decide⟩ dX1_line_172) hZ (fun H locs hZ => ?_)
        obtain ⟨hbl, h⟩ := zck_some h
        exact hret _ _ _ _ _ _ (Option.some.inj h).symm (zbl_n hbl) hZ dX1_line_175
      rcases zsp h with ⟨c_14, h⟩ | ⟨c_14, h⟩
      · refine lv_tableIn (tgt := 176) hx hb dX1_line_61 (by rw [c_14]; decide) (by rw [c_14]; decide) (by rw [c_14]; rfl) (by decide) ?_
        refine lv_aload_n hx hb dX1_line_176 rfl (lv_at hl 1 rfl) ?_
        refine lv_aload_n hx hb dX1_line_177 rfl (lv_at hl 2 rfl) ?_
        obtain ⟨u_5, qu_5, h⟩ := zbn_some h
        refine zciS (zrunV E hZ (xb_X1 xs_41) ((xe_X1 xs_41) _) rfl rfl v_X1_roundLine kw_644 (c_X1_roundLine l g M o1 ho1  qu_5 _) rfl hl.1 rfl (Nat.le_of_ble_eq_true rfl) ⟨by decide, by decide⟩ ⟨by decide, by decide⟩ dX1_line_178) hZ (fun H locs hZ => ?_)
        obtain ⟨hbl, h⟩ := zck_some h
        exact hret _ _ _ _ _ _ (Option.some.inj h).symm (zbl_n hbl) hZ dX1_line_181
      rcases zsp h with ⟨c_15, h⟩ | ⟨c_15, h⟩
      · refine lv_tableIn (tgt := 182) hx hb dX1_line_61 (by rw [c_15]; decide) (by rw [c_15]; decide) (by rw [c_15]; rfl) (by decide) ?_
        refine lv_aload_n hx hb dX1_line_182 rfl (lv_at hl 1 rfl) ?_
        refine lv_aload_n hx hb dX1_line_183 rfl (lv_at hl 2 rfl) ?_
        obtain ⟨u_6, qu_6, h⟩ := zbn_some h
        refine zciS (zrunV E hZ (xb_X1 xs_41) ((xe_X1 xs_41) _) rfl rfl v_X1_rangeLine kw_648 (c_X1_rangeLine l g M o1 ho1  qu_6 _) rfl hl.1 rfl (Nat.le_of_ble_eq_true rfl) ⟨by decide, by decide⟩ ⟨by decide, by decide⟩ dX1_line_184) hZ (fun H locs hZ => ?_)
        obtain ⟨hbl, h⟩ := zck_some h
        exact hret _ _ _ _ _ _ (Option.some.inj h).symm (zbl_n hbl) hZ dX1_line_187
      rcases zsp h with ⟨c_16, h⟩ | ⟨c_16, h⟩
      · refine lv_tableIn (tgt := 194) hx hb dX1_line_61 (by rw [c_16]; decide) (by rw [c_16]; decide) (by rw [c_16]; rfl) (by decide) ?_
        refine lv_aload_n hx hb dX1_line_194 rfl (lv_at hl 1 rfl) ?_
        refine lv_aload_n hx hb dX1_line_195 rfl (lv_at hl 2 rfl) ?_
        obtain ⟨u_7, qu_7, h⟩ := zbn_some h
        refine zciS (zrunV E hZ (xb_X1 xs_41) ((xe_X1 xs_41) _) rfl rfl v_X1_dutyLine kw_674 (c_X1_dutyLine l g M o1 ho1  qu_7 _) rfl hl.1 rfl (Nat.le_of_ble_eq_true rfl) ⟨by decide, by decide⟩ ⟨by decide, by decide⟩ dX1_line_196) hZ (fun H locs hZ => ?_)
        obtain ⟨hbl, h⟩ := zck_some h
        exact hret _ _ _ _ _ _ (Option.some.inj h).symm (zbl_n hbl) hZ dX1_line_199
      rcases zsp h with ⟨c_17, h⟩ | ⟨c_17, h⟩
      · refine lv_tableIn (tgt := 200) hx hb dX1_line_61 (by rw [c_17]; decide) (by rw [c_17]; decide) (by rw [c_17]; rfl) (by decide) ?_
        refine lv_aload_n hx hb dX1_line_200 rfl (lv_at hl 1 rfl) ?_
        refine lv_aload_n hx hb dX1_line_201 rfl (lv_at hl 2 rfl) ?_
        obtain ⟨u_8, qu_8, h⟩ := zbn_some h
        refine zciS (zrunV E hZ (xb_X1 xs_41) ((xe_X1 xs_41) _) rfl rfl v_X1_stormLine kw_682 (c_X1_stormLine l g M o1 ho1  qu_8 _) rfl hl.1 rfl (Nat.le_of_ble_eq_true rfl) ⟨by decide, by decide⟩ ⟨by decide, by decide⟩ dX1_line_202) hZ (fun H locs hZ => ?_)
        obtain ⟨hbl, h⟩ := zck_some h
        exact hret _ _ _ _ _ _ (Option.some.inj h).symm (zbl_n hbl) hZ dX1_line_205
      rcases zsp h with ⟨c_18, h⟩ | ⟨c_18, h⟩
      · refine lv_tableIn (tgt := 206) hx hb dX1_line_61 (by rw [c_18]; decide) (by rw [c_18]; decide) (by rw [c_18]; rfl) (by decide) ?_
        refine lv_aload_n hx hb dX1_line_206 rfl (lv_at hl 1 rfl) ?_
        refine lv_aload_n hx hb dX1_line_207 rfl (lv_at hl 2 rfl) ?_
        obtain ⟨u_9, qu_9, h⟩ := zbn_some h
        refine zciS (zrunV E hZ (xb_X1 xs_41) ((xe_X1 xs_41) _) rfl rfl v_X1_editionLine kw_686 (c_X1_editionLine l g M o1 ho1  qu_9 _) rfl hl.1 rfl (Nat.le_of_ble_eq_true rfl) ⟨by decide, by decide⟩ ⟨by decide, by decide⟩ dX1_line_208) hZ (fun H locs hZ => ?_)
        obtain ⟨hbl, h⟩ := zck_some h
        exact hret _ _ _ _ _ _ (Option.some.inj h).symm (zbl_n hbl) hZ dX1_line_211
      rcases zsp h with ⟨c_19, h⟩ | ⟨c_19, h⟩
      · refine lv_tableIn (tgt := 212) hx hb dX1_line_61 (by rw [c_19]; decide) (by rw [c_19]; decide) (by rw [c_19]; rfl) (by decide) ?_
        refine lv_aload_n hx hb dX1_line_212 rfl (lv_at hl 1 rfl) ?_
        refine lv_aload_n hx hb dX1_line_213 rfl (lv_at hl 2 rfl) ?_
        obtain ⟨u_10, qu_10, h⟩ := zbn_some h
        refine zciS (zrunV E hZ (xb_X1 xs_41) ((xe_X1 xs_41) _) rfl rfl v_X1_errorLine kw_694 (c_X1_errorLine l g M o1 ho1  qu_10 _) rfl hl.1 rfl (Nat.le_of_ble_eq_true rfl) ⟨by decide, by decide⟩ ⟨by decide, by decide⟩ dX1_line_214) hZ (fun H locs hZ => ?_)
        obtain ⟨hbl, h⟩ := zck_some h
        exact hret _ _ _ _ _ _ (Option.some.inj h).symm (zbl_n hbl) hZ dX1_line_217
      rcases zsp h with ⟨c_20, h⟩ | ⟨c_20, h⟩
      · refine lv_tableIn (tgt := 188) hx hb dX1_line_61 (by rw [c_20]; decide) (by rw [c_20]; decide) (by rw [c_20]; rfl) (by decide) ?_
        refine lv_aload_n hx hb dX1_line_188 rfl (lv_at hl 1 rfl) ?_
        refine lv_aload_n hx hb dX1_line_189 rfl (lv_at hl 2 rfl) ?_
        obtain ⟨u_11, qu_11, h⟩ := zbn_some h
        refine zciS (zrunV E hZ (xb_X1 xs_41) ((xe_X1 xs_41) _) rfl rfl v_X1_monkLine kw_657 (c_X1_monkLine l g M o1 ho1  qu_11 _) rfl hl.1 rfl (Nat.le_of_ble_eq_true rfl) ⟨by decide, by decide⟩ ⟨by decide, by decide⟩ dX1_line_190) hZ (fun H locs hZ => ?_)
        obtain ⟨hbl, h⟩ := zck_some h
        exact hret _ _ _ _ _ _ (Option.some.inj h).symm (zbl_n hbl) hZ dX1_line_193
      have hdf : W p l e (zrm 7 0 0) s m args below meth c H locs 0 0 Q (F0 m 218 ls []) := by
        exact lb_X1_line_218 g o1 ho1 E hret M  H locs ls h hZ (lv_sub hl [1] rfl)
      rcases zsw_in (x := x2) (lo := 0) (hi := 21) [0, 1, 2, 3, 4, 5, 6, 7, 8, 9, 10, 11, 12, 13, 14, 15, 16, 17, 18, 19, 20, 21] (by decide) with hsw | hsw
      · exact lv_tableOut (tgt := 218) hx hb dX1_line_61 hsw (by decide) hdf
      · simp only [List.mem_cons, List.not_mem_nil, or_false, c_12, c_13, c_14, c_15, c_16, c_17, c_18, c_19, c_20, false_or] at hsw
        rcases hsw with hsw | hsw | hsw | hsw | hsw | hsw | hsw | hsw | hsw | hsw | hsw | hsw | hsw
        · exact lv_tableIn (tgt := 218) hx hb dX1_line_61 (by rw [hsw]; decide) (by rw [hsw]; decide) (by rw [hsw]; rfl) (by decide) hdf
        · exact lv_tableIn (tgt := 218) hx hb dX1_line_61 (by rw [hsw]; decide) (by rw [hsw]; decide) (by rw [hsw]; rfl) (by decide) hdf
        · exact lv_tableIn (tgt := 218) hx hb dX1_line_61 (by rw [hsw]; decide) (by rw [hsw]; decide) (by rw [hsw]; rfl) (by decide) hdf
        · exact lv_tableIn (tgt := 218) hx hb dX1_line_61 (by rw [hsw]; decide) (by rw [hsw]; decide) (by rw [hsw]; rfl) (by decide) hdf
        · exact lv_tableIn (tgt := 218) hx hb dX1_line_61 (by rw [hsw]; decide) (by rw [hsw]; decide) (by rw [hsw]; rfl) (by decide) hdf
        · exact lv_tableIn (tgt := 218) hx hb dX1_line_61 (by rw [hsw]; decide) (by rw [hsw]; decide) (by rw [hsw]; rfl) (by decide) hdf
        · exact lv_tableIn (tgt := 218) hx hb dX1_line_61 (by rw [hsw]; decide) (by rw [hsw]; decide) (by rw [hsw]; rfl) (by decide) hdf
        · exact lv_tableIn (tgt := 218) hx hb dX1_line_61 (by rw [hsw]; decide) (by rw [hsw]; decide) (by rw [hsw]; rfl) (by decide) hdf
        · exact lv_tableIn (tgt := 218) hx hb dX1_line_61 (by rw [hsw]; decide) (by rw [hsw]; decide) (by rw [hsw]; rfl) (by decide) hdf
        · exact lv_tableIn (tgt := 218) hx hb dX1_line_61 (by rw [hsw]; decide) (by rw [hsw]; decide) (by rw [hsw]; rfl) (by decide) hdf
        · exact lv_tableIn (tgt := 218) hx hb dX1_line_61 (by rw [hsw]; decide) (by rw [hsw]; decide) (by rw [hsw]; rfl) (by decide) hdf
        · exact lv_tableIn (tgt := 218) hx hb dX1_line_61 (by rw [hsw]; decide) (by rw [hsw]; decide) (by rw [hsw]; rfl) (by decide) hdf
        · exact lv_tableIn (tgt := 218) hx hb dX1_line_61 (by rw [hsw]; decide) (by rw [hsw]; decide) (by rw [hsw]; rfl) (by decide) hdf
    · exact lb_X1_line_52 g o1 ho1 E hret M  H locs ls h hZ (lv_sub hl [1] rfl)
def b_X1_line_41  (o1 : Nat) (M : zM) (x2 : Int32) : Option (Int32 × zM) :=
  b_X1_line_42  o1 M x2 0
set_option maxRecDepth 100000 in
set_option maxHeartbeats 4000000 in
theorem lb_X1_line_41 (g : zG)  (o1 : Nat) (ho1 : xk o1 = 8) {r : Int32 × zM} (E : zX g p m c cX1_line 4 s args (zWs yX1_line cX1_line 4 (some .boolean)) RX1) (hret : zRi g xE 125 p l e (zrm 7 0 0) s m args below meth c 0 0 Q cX1_line .boolean (fun v M1 => r = (v, M1))) (M : zM) (x2 : Int32)  (H : Heap) (locs : List Loc) (ls : Array Slot) (h : b_X1_line_41  o1 M x2 = some r) (hZ : zS g xE 125 s H locs M) (hl : lv_has ls 4 [(0, .ref (g.2.2 41)), (1, .ref (g.2.2 o1)), (2, .int x2)]) : W p l e (zrm 7 0 0) s m args below meth c H locs 0 0 Q (F0 m 41 ls []) := by
  have hx := E.1.1
  have hb := E.1.2.1
  unfold b_X1_line_41 at h
  refine lv_iconst (v := 0) hx hb dX1_line_41 (by decide) ?_
  exact lb_X1_line_42 g o1 ho1 E hret M x2 0  H locs ls h hZ (lv_sub hl [0, 1, 2] rfl)
def b_X1_line_37  (o1 : Nat) (M : zM) (x2 : Int32) : Option (Int32 × zM) :=
  b_X1_line_42  o1 M x2 1
set_option maxRecDepth 100000 in
set_option maxHeartbeats 4000000 in
theorem lb_X1_line_37 (g : zG)  (o1 : Nat) (ho1 : xk o1 = 8) {r : Int32 × zM} (E : zX g p m c cX1_line 4 s args (zWs yX1_line cX1_line 4 (some .boolean)) RX1) (hret : zRi g xE 125 p l e (zrm 7 0 0) s m args below meth c 0 0 Q cX1_line .boolean (fun v M1 => r = (v, M1))) (M : zM) (x2 : Int32)  (H : Heap) (locs : List Loc) (ls : Array Slot) (h : b_X1_line_37  o1 M x2 = some r) (hZ : zS g xE 125 s H locs M) (hl : lv_has ls 4 [(0, .ref (g.2.2 41)), (1, .ref (g.2.2 o1)), (2, .int x2)]) : W p l e (zrm 7 0 0) s m args below meth c H locs 0 0 Q (F0 m 37 ls []) := by
  have hx := E.1.1
  have hb := E.1.2.1
  unfold b_X1_line_37 at h
  refine lv_iconst (v := 1) hx hb dX1_line_37 (by decide) ?_
  refine lv_goto (tgt := 42) hx hb dX1_line_38 (by decide) ?_
  exact lb_X1_line_42 g o1 ho1 E hret M x2 1  H locs ls h hZ (lv_sub hl [0, 1, 2] rfl)
def b_X1_line_23  (o1 : Nat) (M : zM) (x2 : Int32) : Option (Int32 × zM) :=
  if x2 = 4 then (if (M o1 11) < 6 then (b_X1_line_41  o1 M x2) else (b_X1_line_37  o1 M x2)) else (b_X1_line_41  o1 M x2)
set_option maxRecDepth 100000 in
set_option maxHeartbeats 4000000 in
theorem lb_X1_line_23 (g : zG)  (o1 : Nat) (ho1 : xk o1 = 8) {r : Int32 × zM} (E : zX g p m c cX1_line 4 s args (zWs yX1_line cX1_line 4 (some .boolean)) RX1) (hret : zRi g xE 125 p l e (zrm 7 0 0) s m args below meth c 0 0 Q cX1_line .boolean (fun v M1 => r = (v, M1))) (M : zM) (x2 : Int32)  (H : Heap) (locs : List Loc) (ls : Array Slot) (h : b_X1_line_23  o1 M x2 = some r) (hZ : zS g xE 125 s H locs M) (hl : lv_has ls 4 [(0, .ref (g.2.2 41)), (1, .ref (g.2.2 o1)), (2, .int x2)]) : W p l e (zrm 7 0 0) s m args below meth c H locs 0 0 Q (F0 m 23 ls []) := by
  have hx := E.1.1
  have hb := E.1.2.1
  unfold b_X1_line_23 at h
  refine lv_iload_n hx hb dX1_line_23 rfl (lv_at hl 2 rfl) ?_
  refine lv_iconst (v := 4) hx hb dX1_line_24 (by decide) ?_
  refine zic_ne (tgt := 41) h E dX1_line_25 (by decide) (fun c_24 h => ?_) (fun c_24 h => ?_)
  · exact lb_X1_line_41 g o1 ho1 E hret M x2  H locs ls h hZ (lv_sub hl [0, 1, 2] rfl)
  · refine lv_aload_n hx hb dX1_line_28 rfl (lv_at hl 1 rfl) ?_
    refine zg (v := .int (M o1 11)) E hZ (xb_X9 ho1) ((xe_X9 ho1) _) kc_X9 11 (by decide) kw_98 rfl rfl dX1_line_29 ?_
    refine lv_bipush (v := 6) hx hb dX1_line_32 (by decide) ?_
    refine zic_lt (tgt := 41) h E dX1_line_34 (by decide) (fun c_23 h => ?_) (fun c_23 h => ?_)
    · exact lb_X1_line_41 g o1 ho1 E hret M x2  H locs ls h hZ (lv_sub hl [0, 1, 2] rfl)
    · exact lb_X1_line_37 g o1 ho1 E hret M x2  H locs ls h hZ (lv_sub hl [0, 1, 2] rfl)
def f_X1_line (M : zM) (o1 : Nat) : Option (Int32 × zM) :=
  zbn (f_X7_word M ) (fun u_25 => if u_25 = 21 then (if 6 ≤ (M o1 10) then (b_X1_line_37  o1 M u_25) else (b_X1_line_23  o1 M u_25)) else (b_X1_line_23  o1 M u_25))
set_option maxRecDepth 100000 in
set_option maxHeartbeats 4000000 in
theorem w_X1_line (g : zG)  (o1 : Nat) (ho1 : xk o1 = 8) {r : Int32 × zM} (E : zX g p m c cX1_line 4 s args (zWs yX1_line cX1_line 4 (some .boolean)) RX1) (hret : zRi g xE 125 p l e (zrm 7 0 0) s m args below meth c 0 0 Q cX1_line .boolean (fun v M1 => r = (v, M1))) (M : zM)  (H : Heap) (locs : List Loc) (ls : Array Slot) (h : f_X1_line M o1 = some r) (hZ : zS g xE 125 s H locs M) (hl : lv_has ls 4 [(0, .ref (g.2.2 41)), (1, .ref (g.2.2 o1))]) : W p l e (zrm 7 0 0) s m args below meth c H locs 0 0 Q (F0 m 0 ls []) := by
  have hx := E.1.1
  have hb := E.1.2.1
  unfold f_X1_line at h
  refine lv_aload_n hx hb dX1_line_0 rfl (lv_at hl 0 rfl) ?_
  refine zg (v := .ref (g.2.2 39)) E hZ (xb_X1 xs_41) ((xe_X1 xs_41) _) kc_X1 0 (by decide) kw_277 rfl rfl dX1_line_1 ?_
  obtain ⟨u_25, qu_25, h⟩ := zbn_some h
  refine zciR (zrunV E hZ (xb_X7 xs_39) ((xe_X7 xs_39) _) rfl rfl v_X7_word kw_621 (c_X7_word l g M   qu_25 _) rfl hl.1 rfl (Nat.le_of_ble_eq_true rfl) ⟨by decide, by decide⟩ ⟨by decide, by decide⟩ dX1_line_4) hZ (fun H locs hZ => ?_)
  refine lv_istore_n (lv' := [(2, .int u_25), (0, .ref (g.2.2 41)), (1, .ref (g.2.2 o1))]) hx hb dX1_line_7 rfl hl (by decide) rfl (fun ls hl => ?_)
  refine lv_iload_n hx hb dX1_line_8 rfl (lv_at hl 0 rfl) ?_
  refine lv_bipush (v := 21) hx hb dX1_line_9 (by decide) ?_
  refine zic_ne (tgt := 23) h E dX1_line_11 (by decide) (fun c_27 h => ?_) (fun c_27 h => ?_)
  · exact lb_X1_line_23 g o1 ho1 E hret M u_25  H locs ls h hZ (lv_sub hl [1, 2, 0] rfl)
  · refine lv_aload_n hx hb dX1_line_14 rfl (lv_at hl 2 rfl) ?_
    refine zg (v := .int (M o1 10)) E hZ (xb_X9 ho1) ((xe_X9 ho1) _) kc_X9 10 (by decide) kw_94 rfl rfl dX1_line_15 ?_
    refine lv_bipush (v := 6) hx hb dX1_line_18 (by decide) ?_
    refine zic_ge (tgt := 37) h E dX1_line_20 (by decide) (fun c_26 h => ?_) (fun c_26 h => ?_)
    · exact lb_X1_line_37 g o1 ho1 E hret M u_25  H locs ls h hZ (lv_sub hl [1, 2, 0] rfl)
    · exact lb_X1_line_23 g o1 ho1 E hret M u_25  H locs ls h hZ (lv_sub hl [1, 2, 0] rfl)
theorem c_X1_line (l : Launch) (g : zG) (M : zM) (o1 : Nat) (ho1 : xk o1 = 8)  {r : Int32 × zM} (h : f_X1_line M o1 = some r) : zMi l g xE 125 yX1_line (zWs yX1_line cX1_line 4 (some .boolean)) 7 [.ref (g.2.2 41), .ref (g.2.2 o1)] M (fun v M1 => r = (v, M1)) :=
  zMi_of (by decide +kernel) (Nat.le_of_ble_eq_true rfl) (fun p e s m args below meth c Q ls E hret hZ hl => w_X1_line g o1 ho1 E hret M  _ _ ls h hZ hl)
theorem v_X1_line : zYV yX1_line cX1_line 4 (some .boolean) 1 := ⟨kw_620, kw_10, kw_619, kp_9, by decide +kernel⟩

def b_X1_read_83  (o1 : Nat) (M : zM) : Option (Int32 × zM) :=
  some (M 39 6, M)
set_option maxRecDepth 100000 in
set_option maxHeartbeats 4000000 in
theorem lb_X1_read_83 (g : zG)  (o1 : Nat) (ho1 : xk o1 = 8) {r : Int32 × zM} (E : zX g p m c cX1_read 3 s args (zWs yX1_read cX1_read 3 (some .int)) RX1) (hret : zRi g xE 125 p l e (zrm 8 0 0) s m args below meth c 0 0 Q cX1_read .int (fun v M1 => r = (v, M1))) (M : zM)  (H : Heap) (locs : List Loc) (ls : Array Slot) (h : b_X1_read_83  o1 M = some r) (hZ : zS g xE 125 s H locs M) (hl : lv_has ls 3 [(0, .ref (g.2.2 41))]) : W p l e (zrm 8 0 0) s m args below meth c H locs 0 0 Q (F0 m 83 ls []) := by
  have hx := E.1.1
  have hb := E.1.2.1
  unfold b_X1_read_83 at h
  refine lv_aload_n hx hb dX1_read_83 rfl (lv_at hl 0 rfl) ?_
  refine zg (v := .ref (g.2.2 39)) E hZ (xb_X1 xs_41) ((xe_X1 xs_41) _) kc_X1 0 (by decide) kw_277 rfl rfl dX1_read_84 ?_
  refine zg (v := .int (M 39 6)) E hZ (xb_X7 xs_39) ((xe_X7 xs_39) _) kc_X7 6 (by decide) kw_252 rfl rfl dX1_read_87 ?_
  exact hret _ _ _ _ _ _ (Option.some.inj h).symm rfl hZ dX1_read_90
def b_X1_read_74  (o1 : Nat) (M : zM) : Option (Int32 × zM) :=
  b_X1_read_83  o1 M
set_option maxRecDepth 100000 in
set_option maxHeartbeats 4000000 in
theorem lb_X1_read_74 (g : zG)  (o1 : Nat) (ho1 : xk o1 = 8) {r : Int32 × zM} (E : zX g p m c cX1_read 3 s args (zWs yX1_read cX1_read 3 (some .int)) RX1) (hret : zRi g xE 125 p l e (zrm 8 0 0) s m args below meth c 0 0 Q cX1_read .int (fun v M1 => r = (v, M1))) (M : zM)  (H : Heap) (locs : List Loc) (ls : Array Slot) (h : b_X1_read_74  o1 M = some r) (hZ : zS g xE 125 s H locs M) (hl : lv_has ls 3 [(0, .ref (g.2.2 41))]) : W p l e (zrm 8 0 0) s m args below meth c H locs 0 0 Q (F0 m 74 ls []) := by
  have hx := E.1.1
  have hb := E.1.2.1
  unfold b_X1_read_74 at h
  refine lv_goto (tgt := 83) hx hb dX1_read_74 (by decide) ?_
  exact lb_X1_read_83 g o1 ho1 E hret M  H locs ls h hZ (lv_sub hl [0] rfl)
def b_X1_read_33  (o1 : Nat) (M : zM) : Option (Int32 × zM) :=
  zbn (f_X7_miss M ) (fun u_1 => b_X1_read_83  o1 u_1.2)
set_option maxRecDepth 100000 in
set_option maxHeartbeats 4000000 in
theorem lb_X1_read_33 (g : zG)  (o1 : Nat) (ho1 : xk o1 = 8) {r : Int32 × zM} (E : zX g p m c cX1_read 3 s args (zWs yX1_read cX1_read 3 (some .int)) RX1) (hret : zRi g xE 125 p l e (zrm 8 0 0) s m args below meth c 0 0 Q cX1_read .int (fun v M1 => r = (v, M1))) (M : zM)  (H : Heap) (locs : List Loc) (ls : Array Slot) (h : b_X1_read_33  o1 M = some r) (hZ : zS g xE 125 s H locs M) (hl : lv_has ls 3 [(0, .ref (g.2.2 41))]) : W p l e (zrm 8 0 0) s m args below meth c H locs 0 0 Q (F0 m 33 ls []) := by
  have hx := E.1.1
  have hb := E.1.2.1
  unfold b_X1_read_33 at h
  refine lv_aload_n hx hb dX1_read_33 rfl (lv_at hl 0 rfl) ?_
  refine zg (v := .ref (g.2.2 39)) E hZ (xb_X1 xs_41) ((xe_X1 xs_41) _) kc_X1 0 (by decide) kw_277 rfl rfl dX1_read_34 ?_
  obtain ⟨u_1, qu_1, h⟩ := zbn_some h
  refine zciS (zrunV E hZ (xb_X7 xs_39) ((xe_X7 xs_39) _) rfl rfl v_X7_miss kw_613 (c_X7_miss l g M   qu_1 _) rfl hl.1 rfl (Nat.le_of_ble_eq_true rfl) ⟨by decide, by decide⟩ ⟨by decide, by decide⟩ dX1_read_37) hZ (fun H locs hZ => ?_)
  refine lv_pop hx hb dX1_read_40 rfl ?_
  refine lv_goto (tgt := 83) hx hb dX1_read_41 (by decide) ?_
  exact lb_X1_read_83 g o1 ho1 E hret u_1.2  H locs ls h hZ (lv_sub hl [0] rfl)
def b_X1_read_21  (o1 : Nat) : Nat → zM → Int32 → Option (Int32 × zM)
  | 0, _, _ => none
  | n + 1, M, x2 =>
    if 14 < x2 then (b_X1_read_83  o1 M) else (if x2 = 14 then (b_X1_read_33  o1 M) else (zbn (f_X1_line M o1) (fun u_2 => if u_2.1 = 0 then (b_X1_read_83  o1 u_2.2) else (zbn (f_X7_ended u_2.2 ) (fun u_3 => if u_3 = 0 then (zbn (f_X7_takeSign u_2.2 59) (fun u_4 => if u_4.1 = 0 then (b_X1_read_74  o1 u_4.2) else (znm (x2 + 1) (fun x2_5 => b_X1_read_21  o1 n u_4.2 x2_5)))) else (b_X1_read_83  o1 u_2.2))))))
set_option maxRecDepth 100000 in
set_option maxHeartbeats 4000000 in
theorem lb_X1_read_21 (g : zG)  (o1 : Nat) (ho1 : xk o1 = 8) {r : Int32 × zM} (E : zX g p m c cX1_read 3 s args (zWs yX1_read cX1_read 3 (some .int)) RX1) (hret : zRi g xE 125 p l e (zrm 8 0 0) s m args below meth c 0 0 Q cX1_read .int (fun v M1 => r = (v, M1)))   : ∀ (n : Nat) (M : zM) (x2 : Int32) (H : Heap) (locs : List Loc) (ls : Array Slot), b_X1_read_21  o1 n M x2 = some r → zS g xE 125 s H locs M → lv_has ls 3 [(0, .ref (g.2.2 41)), (1, .ref (g.2.2 o1)), (2, .int x2)] → W p l e (zrm 8 0 0) s m args below meth c H locs 0 0 Q (F0 m 21 ls []) := by
  have hx := E.1.1
  have hb := E.1.2.1
  intro n
  induction n with
  | zero => intro M x2 H locs ls h hZ hl; cases h
  | succ n ih =>
    intro M x2 H locs ls h hZ hl
    rw [b_X1_read_21] at h
    refine lv_iload_n hx hb dX1_read_21 rfl (lv_at hl 2 rfl) ?_
    refine lv_bipush (v := 14) hx hb dX1_read_22 (by decide) ?_
    refine zic_gt (tgt := 83) h E dX1_read_24 (by decide) (fun c_10 h => ?_) (fun c_10 h => ?_)
    · exact lb_X1_read_83 g o1 ho1 E hret M  H locs ls h hZ (lv_sub hl [0] rfl)
    · refine lv_iload_n hx hb dX1_read_27 rfl (lv_at hl 2 rfl) ?_
      refine lv_bipush (v := 14) hx hb dX1_read_28 (by decide) ?_
      refine zic_ne (tgt := 44) h E dX1_read_30 (by decide) (fun c_9 h => ?_) (fun c_9 h => ?_)
      · refine lv_aload_n hx hb dX1_read_44 rfl (lv_at hl 0 rfl) ?_
        refine lv_aload_n hx hb dX1_read_45 rfl (lv_at hl 1 rfl) ?_
        obtain ⟨u_2, qu_2, h⟩ := zbn_some h
        refine zciS (zrunV E hZ (xb_X1 xs_41) ((xe_X1 xs_41) _) rfl rfl v_X1_line kw_617 (c_X1_line l g M o1 ho1  qu_2 _) rfl hl.1 rfl (Nat.le_of_ble_eq_true rfl) ⟨by decide, by decide⟩ ⟨by decide, by decide⟩ dX1_read_46) hZ (fun H locs hZ => ?_)
        refine zif_eq (tgt := 83) h E dX1_read_49 (by decide) (fun c_8 h => ?_) (fun c_8 h => ?_)
        · exact lb_X1_read_83 g o1 ho1 E hret u_2.2  H locs ls h hZ (lv_sub hl [0] rfl)
        · refine lv_aload_n hx hb dX1_read_52 rfl (lv_at hl 0 rfl) ?_
          refine zg (v := .ref (g.2.2 39)) E hZ (xb_X1 xs_41) ((xe_X1 xs_41) _) kc_X1 0 (by decide) kw_277 rfl rfl dX1_read_53 ?_
          obtain ⟨u_3, qu_3, h⟩ := zbn_some h
          refine zciR (zrunV E hZ (xb_X7 xs_39) ((xe_X7 xs_39) _) rfl rfl v_X7_ended kw_609 (c_X7_ended l g u_2.2   qu_3 _) rfl hl.1 rfl (Nat.le_of_ble_eq_true rfl) ⟨by decide, by decide⟩ ⟨by decide, by decide⟩ dX1_read_56) hZ (fun H locs hZ => ?_)
          refine zif_ne (tgt := 83) h E dX1_read_59 (by decide) (fun c_7 h => ?_) (fun c_7 h => ?_)
          · exact lb_X1_read_83 g o1 ho1 E hret u_2.2  H locs ls h hZ (lv_sub hl [0] rfl)
          · refine lv_aload_n hx hb dX1_read_62 rfl (lv_at hl 0 rfl) ?_
            refine zg (v := .ref (g.2.2 39)) E hZ (xb_X1 xs_41) ((xe_X1 xs_41) _) kc_X1 0 (by decide) kw_277 rfl rfl dX1_read_63 ?_
            refine lv_bipush (v := 59) hx hb dX1_read_66 (by decide) ?_
            obtain ⟨u_4, qu_4, h⟩ := zbn_some h
            refine zciS (zrunV E hZ (xb_X7 xs_39) ((xe_X7 xs_39) _) rfl rfl v_X7_takeSign kw_698 (c_X7_takeSign l g u_2.2  59 qu_4 _) rfl hl.1 rfl (Nat.le_of_ble_eq_true rfl) ⟨by decide, by decide⟩ ⟨by decide, by decide⟩ dX1_read_68) hZ (fun H locs hZ => ?_)
            refine zif_ne (tgt := 77) h E dX1_read_71 (by decide) (fun c_6 h => ?_) (fun c_6 h => ?_)
            · obtain ⟨x2_5, ex2_5, h⟩ := znm_ex h
              refine lv_iinc (v := x2_5) (lv' := [(2, .int x2_5), (0, .ref (g.2.2 41)), (1, .ref (g.2.2 o1))]) hx hb dX1_read_77 hl (k := 2) rfl (by rw [ex2_5]; rfl) (by decide) rfl (fun ls hl => ?_)
              refine lv_goto (tgt := 21) hx hb dX1_read_80 (by decide) ?_
              exact ih u_4.2 x2_5 H locs ls h hZ (lv_sub hl [1, 2, 0] rfl)
            · exact lb_X1_read_74 g o1 ho1 E hret u_4.2  H locs ls h hZ (lv_sub hl [0] rfl)
      · exact lb_X1_read_33 g o1 ho1 E hret M  H locs ls h hZ (lv_sub hl [0] rfl)
def f_X1_read (M : zM) (o1 : Nat) : Option (Int32 × zM) :=
  zbn (f_X7_open M ) (fun u_11 => zbn (f_X7_ended u_11 ) (fun u_12 => if u_12 = 0 then (b_X1_read_21  o1 6000 u_11 0) else (some ((-1), u_11))))
set_option maxRecDepth 100000 in
set_option maxHeartbeats 4000000 in
theorem w_X1_read (g : zG)  (o1 : Nat) (ho1 : xk o1 = 8) {r : Int32 × zM} (E : zX g p m c cX1_read 3 s args (zWs yX1_read cX1_read 3 (some .int)) RX1) (hret : zRi g xE 125 p l e (zrm 8 0 0) s m args below meth c 0 0 Q cX1_read .int (fun v M1 => r = (v, M1))) (M : zM)  (H : Heap) (locs : List Loc) (ls : Array Slot) (h : f_X1_read M o1 = some r) (hZ : zS g xE 125 s H locs M) (hl : lv_has ls 3 [(0, .ref (g.2.2 41)), (1, .ref (g.2.2 o1))]) : W p l e (zrm 8 0 0) s m args below meth c H locs 0 0 Q (F0 m 0 ls []) := by
  have hx := E.1.1
  have hb := E.1.2.1
  unfold f_X1_read at h
  refine lv_aload_n hx hb dX1_read_0 rfl (lv_at hl 0 rfl) ?_
  refine zg (v := .ref (g.2.2 39)) E hZ (xb_X1 xs_41) ((xe_X1 xs_41) _) kc_X1 0 (by decide) kw_277 rfl rfl dX1_read_1 ?_
  obtain ⟨u_11, qu_11, h⟩ := zbn_some h
  refine zcvS (zrunV E hZ (xb_X7 xs_39) ((xe_X7 xs_39) _) rfl rfl v_X7_open kw_589 (c_X7_open l g M   qu_11 _) rfl hl.1 rfl (Nat.le_of_ble_eq_true rfl) ⟨by decide, by decide⟩ ⟨by decide, by decide⟩ dX1_read_4) hZ (fun H locs hZ => ?_)
  refine lv_aload_n hx hb dX1_read_7 rfl (lv_at hl 0 rfl) ?_
  refine zg (v := .ref (g.2.2 39)) E hZ (xb_X1 xs_41) ((xe_X1 xs_41) _) kc_X1 0 (by decide) kw_277 rfl rfl dX1_read_8 ?_
  obtain ⟨u_12, qu_12, h⟩ := zbn_some h
  refine zciR (zrunV E hZ (xb_X7 xs_39) ((xe_X7 xs_39) _) rfl rfl v_X7_ended kw_609 (c_X7_ended l g u_11   qu_12 _) rfl hl.1 rfl (Nat.le_of_ble_eq_true rfl) ⟨by decide, by decide⟩ ⟨by decide, by decide⟩ dX1_read_11) hZ (fun H locs hZ => ?_)
  refine zif_eq (tgt := 19) h E dX1_read_14 (by decide) (fun c_13 h => ?_) (fun c_13 h => ?_)
  · refine lv_iconst (v := 0) hx hb dX1_read_19 (by decide) ?_
    refine lv_istore_n (lv' := [(2, .int 0), (0, .ref (g.2.2 41)), (1, .ref (g.2.2 o1))]) hx hb dX1_read_20 rfl hl (by decide) rfl (fun ls hl => ?_)
    exact lb_X1_read_21 g o1 ho1 E hret   6000 u_11 0 H locs ls h hZ (lv_sub hl [1, 2, 0] rfl)
  · refine lv_iconst (v := (-1)) hx hb dX1_read_17 (by decide) ?_
    exact hret _ _ _ _ _ _ (Option.some.inj h).symm rfl hZ dX1_read_18
theorem c_X1_read (l : Launch) (g : zG) (M : zM) (o1 : Nat) (ho1 : xk o1 = 8)  {r : Int32 × zM} (h : f_X1_read M o1 = some r) : zMi l g xE 125 yX1_read (zWs yX1_read cX1_read 3 (some .int)) 8 [.ref (g.2.2 41), .ref (g.2.2 o1)] M (fun v M1 => r = (v, M1)) :=
  zMi_of (by decide +kernel) (Nat.le_of_ble_eq_true rfl) (fun p e s m args below meth c Q ls E hret hZ hl => w_X1_read g o1 ho1 E hret M  _ _ ls h hZ hl)
theorem v_X1_read : zYV yX1_read cX1_read 3 (some .int) 1 := ⟨kw_588, kw_10, kw_586, kw_587, by decide +kernel⟩

def b_X2_measure_96 (K14 : zM → Int32 → Int32 → Option (zM)) (o1 : Nat) (o2 : Nat) (M : zM) (x3 : Int32) (x4 : Int32) (x5 : Int32) : Option (zM) :=
  znm (x5 + 1) (fun x5_1 => K14 M x4 x5_1)
set_option maxRecDepth 100000 in
set_option maxHeartbeats 4000000 in
theorem lb_X2_measure_96 (g : zG)  (o1 : Nat) (ho1 : xk o1 = 8) (o2 : Nat) (ho2 : xk o2 = 20) {r : zM} (E : zX g p m c cX2_measure 8 s args (zWs yX2_measure cX2_measure 8 none) RX2) (hret : zRv g xE 125 p l e (zrm 7 0 0) s m args below meth c 0 0 Q cX2_measure (fun M1 => M1 = r)) (M : zM) (x3 : Int32) (x4 : Int32) (x5 : Int32) (K14 : zM → Int32 → Int32 → Option (zM)) (hK14 : ∀ (M : zM) (x4 : Int32) (x5 : Int32) (H : Heap) (locs : List Loc) (ls : Array Slot), K14 M x4 x5 = some r → zS g xE 125 s H locs M → lv_has ls 8 [(0, .ref (g.2.2 45)), (1, .ref (g.2.2 o1)), (2, .ref (g.2.2 o2)), (3, .int x3), (4, .int x4), (5, .int x5)] → W p l e (zrm 7 0 0) s m args below meth c H locs 0 0 Q (F0 m 14 ls [])) (H : Heap) (locs : List Loc) (ls : Array Slot) (h : b_X2_measure_96 K14 o1 o2 M x3 x4 x5 = some r) (hZ : zS g xE 125 s H locs M) (hl : lv_has ls 8 [(0, .ref (g.2.2 45)), (1, .ref (g.2.2 o1)), (2, .ref (g.2.2 o2)), (3, .int x3), (4, .int x4), (5, .int x5)]) : W p l e (zrm 7 0 0) s m args below meth c H locs 0 0 Q (F0 m 96 ls []) := by
  have hx := E.1.1
  have hb := E.1.2.1
  unfold b_X2_measure_96 at h
  obtain ⟨x5_1, ex5_1, h⟩ := znm_ex h
  refine lv_iinc (v := x5_1) (lv' := [(5, .int x5_1), (0, .ref (g.2.2 45)), (1, .ref (g.2.2 o1)), (2, .ref (g.2.2 o2)), (3, .int x3), (4, .int x4)]) hx hb dX2_measure_96 hl (k := 5) rfl (by rw [ex5_1]; rfl) (by decide) rfl (fun ls hl => ?_)
  refine lv_goto (tgt := 14) hx hb dX2_measure_99 (by decide) ?_
  exact hK14 M x4 x5_1 H locs ls h hZ (lv_sub hl [1, 2, 3, 4, 5, 0] rfl)
def b_X2_measure_93 (K14 : zM → Int32 → Int32 → Option (zM)) (o1 : Nat) (o2 : Nat) (M : zM) (x3 : Int32) (x4 : Int32) (x5 : Int32) : Option (zM) :=
  znm (x4 + 1) (fun x4_2 => b_X2_measure_96 K14 o1 o2 M x3 x4_2 x5)
set_option maxRecDepth 100000 in
set_option maxHeartbeats 4000000 in
theorem lb_X2_measure_93 (g : zG)  (o1 : Nat) (ho1 : xk o1 = 8) (o2 : Nat) (ho2 : xk o2 = 20) {r : zM} (E : zX g p m c cX2_measure 8 s args (zWs yX2_measure cX2_measure 8 none) RX2) (hret : zRv g xE 125 p l e (zrm 7 0 0) s m args below meth c 0 0 Q cX2_measure (fun M1 => M1 = r)) (M : zM) (x3 : Int32) (x4 : Int32) (x5 : Int32) (K14 : zM → Int32 → Int32 → Option (zM)) (hK14 : ∀ (M : zM) (x4 : Int32) (x5 : Int32) (H : Heap) (locs : List Loc) (ls : Array Slot), K14 M x4 x5 = some r → zS g xE 125 s H locs M → lv_has ls 8 [(0, .ref (g.2.2 45)), (1, .ref (g.2.2 o1)), (2, .ref (g.2.2 o2)), (3, .int x3), (4, .int x4), (5, .int x5)] → W p l e (zrm 7 0 0) s m args below meth c H locs 0 0 Q (F0 m 14 ls [])) (H : Heap) (locs : List Loc) (ls : Array Slot) (h : b_X2_measure_93 K14 o1 o2 M x3 x4 x5 = some r) (hZ : zS g xE 125 s H locs M) (hl : lv_has ls 8 [(0, .ref (g.2.2 45)), (1, .ref (g.2.2 o1)), (2, .ref (g.2.2 o2)), (3, .int x3), (4, .int x4), (5, .int x5)]) : W p l e (zrm 7 0 0) s m args below meth c H locs 0 0 Q (F0 m 93 ls []) := by
  have hx := E.1.1
  have hb := E.1.2.1
  unfold b_X2_measure_93 at h
  obtain ⟨x4_2, ex4_2, h⟩ := znm_ex h
  refine lv_iinc (v := x4_2) (lv' := [(4, .int x4_2), (0, .ref (g.2.2 45)), (1, .ref (g.2.2 o1)), (2, .ref (g.2.2 o2)), (3, .int x3), (5, .int x5)]) hx hb dX2_measure_93 hl (k := 4) rfl (by rw [ex4_2]; rfl) (by decide) rfl (fun ls hl => ?_)
  exact lb_X2_measure_96 g o1 ho1 o2 ho2 E hret M x3 x4_2 x5 K14 hK14 H locs ls h hZ (lv_sub hl [1, 2, 3, 4, 0, 5] rfl)
def b_X2_measure_84 (K35 : zM → Int32 → Option (zM)) (o1 : Nat) (o2 : Nat) (M : zM) (x3 : Int32) (x4 : Int32) (x5 : Int32) (x6 : Int32) (t0 : Int32) (t1 : Int32) : Option (zM) :=
  zbn (f_X10_put M 46 t1 t0) (fun u_3 => znm (x6 + 1) (fun x6_4 => K35 u_3 x6_4))
set_option maxRecDepth 100000 in
set_option maxHeartbeats 4000000 in
theorem lb_X2_measure_84 (g : zG)  (o1 : Nat) (ho1 : xk o1 = 8) (o2 : Nat) (ho2 : xk o2 = 20) {r : zM} (E : zX g p m c cX2_measure 8 s args (zWs yX2_measure cX2_measure 8 none) RX2) (hret : zRv g xE 125 p l e (zrm 7 0 0) s m args below meth c 0 0 Q cX2_measure (fun M1 => M1 = r)) (M : zM) (x3 : Int32) (x4 : Int32) (x5 : Int32) (x6 : Int32) (t0 : Int32) (t1 : Int32) (K35 : zM → Int32 → Option (zM)) (hK35 : ∀ (M : zM) (x6 : Int32) (H : Heap) (locs : List Loc) (ls : Array Slot), K35 M x6 = some r → zS g xE 125 s H locs M → lv_has ls 8 [(0, .ref (g.2.2 45)), (1, .ref (g.2.2 o1)), (2, .ref (g.2.2 o2)), (3, .int x3), (4, .int x4), (5, .int x5), (6, .int x6)] → W p l e (zrm 7 0 0) s m args below meth c H locs 0 0 Q (F0 m 35 ls [])) (H : Heap) (locs : List Loc) (ls : Array Slot) (h : b_X2_measure_84 K35 o1 o2 M x3 x4 x5 x6 t0 t1 = some r) (hZ : zS g xE 125 s H locs M) (hl : lv_has ls 8 [(0, .ref (g.2.2 45)), (1, .ref (g.2.2 o1)), (2, .ref (g.2.2 o2)), (3, .int x3), (4, .int x4), (5, .int x5), (6, .int x6)]) : W p l e (zrm 7 0 0) s m args below meth c H locs 0 0 Q (F0 m 84 ls [.int t0, .int t1, .ref (g.2.2 46)]) := by
  have hx := E.1.1
  have hb := E.1.2.1
  unfold b_X2_measure_84 at h
  obtain ⟨u_3, qu_3, h⟩ := zbn_some h
  refine zcvS (zrunSN E hZ v_X10_put kw_1178 (c_X10_put l g M 46 xs_46.1 t1 t0 qu_3 _) rfl hl.1 rfl (Nat.le_of_ble_eq_true rfl) ⟨by decide, by decide⟩ ⟨by decide, by decide⟩ dX2_measure_84) hZ (fun H locs hZ => ?_)
  obtain ⟨x6_4, ex6_4, h⟩ := znm_ex h
  refine lv_iinc (v := x6_4) (lv' := [(6, .int x6_4), (0, .ref (g.2.2 45)), (1, .ref (g.2.2 o1)), (2, .ref (g.2.2 o2)), (3, .int x3), (4, .int x4), (5, .int x5)]) hx hb dX2_measure_87 hl (k := 6) rfl (by rw [ex6_4]; rfl) (by decide) rfl (fun ls hl => ?_)
  refine lv_goto (tgt := 35) hx hb dX2_measure_90 (by decide) ?_
  exact hK35 u_3 x6_4 H locs ls h hZ (lv_sub hl [1, 2, 3, 4, 5, 6, 0] rfl)
def b_X2_measure_35 (K14 : zM → Int32 → Int32 → Option (zM)) (o1 : Nat) (o2 : Nat) (x3 : Int32) (x4 : Int32) (x5 : Int32) : Nat → zM → Int32 → Option (zM)
  | 0, _, _ => none
  | n + 1, M, x6 =>
    if x3 ≤ x6 then (b_X2_measure_93 K14 o1 o2 M x3 x4 x5) else (zbn (f_X10_at M o2 x6) (fun u_5 => zbn (f_X8_hoursOfMonk M o1 x5 u_5) (fun u_6 => if u_6 = ((-1)) then (b_X2_measure_84 (fun M x6 => b_X2_measure_35 K14 o1 o2 x3 x4 x5 n M x6) o1 o2 M x3 x4 x5 x6 100000 ((x4 * 6) + x6)) else (b_X2_measure_84 (fun M x6 => b_X2_measure_35 K14 o1 o2 x3 x4 x5 n M x6) o1 o2 M x3 x4 x5 x6 u_6 ((x4 * 6) + x6)))))
set_option maxRecDepth 100000 in
set_option maxHeartbeats 4000000 in
theorem lb_X2_measure_35 (g : zG)  (o1 : Nat) (ho1 : xk o1 = 8) (o2 : Nat) (ho2 : xk o2 = 20) {r : zM} (E : zX g p m c cX2_measure 8 s args (zWs yX2_measure cX2_measure 8 none) RX2) (hret : zRv g xE 125 p l e (zrm 7 0 0) s m args below meth c 0 0 Q cX2_measure (fun M1 => M1 = r)) (x3 : Int32) (x4 : Int32) (x5 : Int32) (K14 : zM → Int32 → Int32 → Option (zM)) (hK14 : ∀ (M : zM) (x4 : Int32) (x5 : Int32) (H : Heap) (locs : List Loc) (ls : Array Slot), K14 M x4 x5 = some r → zS g xE 125 s H locs M → lv_has ls 8 [(0, .ref (g.2.2 45)), (1, .ref (g.2.2 o1)), (2, .ref (g.2.2 o2)), (3, .int x3), (4, .int x4), (5, .int x5)] → W p l e (zrm 7 0 0) s m args below meth c H locs 0 0 Q (F0 m 14 ls [])) : ∀ (n : Nat) (M : zM) (x6 : Int32) (H : Heap) (locs : List Loc) (ls : Array Slot), b_X2_measure_35 K14 o1 o2 x3 x4 x5 n M x6 = some r → zS g xE 125 s H locs M → lv_has ls 8 [(0, .ref (g.2.2 45)), (1, .ref (g.2.2 o1)), (2, .ref (g.2.2 o2)), (3, .int x3), (4, .int x4), (5, .int x5), (6, .int x6)] → W p l e (zrm 7 0 0) s m args below meth c H locs 0 0 Q (F0 m 35 ls []) := by
  have hx := E.1.1
  have hb := E.1.2.1
  intro n
  induction n with
  | zero => intro M x6 H locs ls h hZ hl; cases h
  | succ n ih =>
    intro M x6 H locs ls h hZ hl
    rw [b_X2_measure_35] at h
    refine lv_iload hx hb dX2_measure_35 (lv_at hl 6 rfl) ?_
    refine lv_iload_n hx hb dX2_measure_37 rfl (lv_at hl 3 rfl) ?_
    refine zic_ge (tgt := 93) h E dX2_measure_38 (by decide) (fun c_8 h => ?_) (fun c_8 h => ?_)
    · exact lb_X2_measure_93 g o1 ho1 o2 ho2 E hret M x3 x4 x5 K14 hK14 H locs ls h hZ (lv_sub hl [0, 1, 2, 3, 4, 5] rfl)
    · refine lv_aload_n hx hb dX2_measure_41 rfl (lv_at hl 0 rfl) ?_
      refine zg (v := .ref (g.2.2 43)) E hZ (xb_X2 xs_45) ((xe_X2 xs_45) _) kc_X2 0 (by decide) kw_310 rfl rfl dX2_measure_42 ?_
      refine lv_aload_n hx hb dX2_measure_45 rfl (lv_at hl 1 rfl) ?_
      refine lv_iload hx hb dX2_measure_46 (lv_at hl 5 rfl) ?_
      refine lv_aload_n hx hb dX2_measure_48 rfl (lv_at hl 2 rfl) ?_
      refine lv_iload hx hb dX2_measure_49 (lv_at hl 6 rfl) ?_
      obtain ⟨u_5, qu_5, h⟩ := zbn_some h
      refine zciR (zrunSN E hZ v_X10_at kw_1175 (c_X10_at l g M o2 ho2 x6 qu_5 _) rfl hl.1 rfl (Nat.le_of_ble_eq_true rfl) ⟨by decide, by decide⟩ ⟨by decide, by decide⟩ dX2_measure_51) hZ (fun H locs hZ => ?_)
      obtain ⟨u_6, qu_6, h⟩ := zbn_some h
      refine zciR (zrunV E hZ (xb_X8 xs_43) ((xe_X8 xs_43) _) rfl rfl v_X8_hoursOfMonk kw_1176 (c_X8_hoursOfMonk l g M o1 ho1 x5 u_5 qu_6 _) rfl hl.1 rfl (Nat.le_of_ble_eq_true rfl) ⟨by decide, by decide⟩ ⟨by decide, by decide⟩ dX2_measure_54) hZ (fun H locs hZ => ?_)
      refine lv_istore (lv' := [(7, .int u_6), (0, .ref (g.2.2 45)), (1, .ref (g.2.2 o1)), (2, .ref (g.2.2 o2)), (3, .int x3), (4, .int x4), (5, .int x5), (6, .int x6)]) hx hb dX2_measure_57 hl (by decide) rfl (fun ls hl => ?_)
      refine lv_aload_n hx hb dX2_measure_59 rfl (lv_at hl 1 rfl) ?_
      refine zg (v := .ref (g.2.2 46)) E hZ (xb_X2 xs_45) ((xe_X2 xs_45) _) kc_X2 1 (by decide) kw_311 rfl rfl dX2_measure_60 ?_
      refine lv_iload hx hb dX2_measure_63 (lv_at hl 5 rfl) ?_
      refine lv_bipush (v := 6) hx hb dX2_measure_65 (by decide) ?_
      refine lv_imul hx hb dX2_measure_67 ?_
      refine lv_iload hx hb dX2_measure_68 (lv_at hl 7 rfl) ?_
      refine lv_iadd hx hb dX2_measure_70 ?_
      refine lv_iload hx hb dX2_measure_71 (lv_at hl 0 rfl) ?_
      refine lv_iconst (v := (-1)) hx hb dX2_measure_73 (by decide) ?_
      refine zic_ne (tgt := 82) h E dX2_measure_74 (by decide) (fun c_7 h => ?_) (fun c_7 h => ?_)
      · refine lv_iload hx hb dX2_measure_82 (lv_at hl 0 rfl) ?_
        exact lb_X2_measure_84 g o1 ho1 o2 ho2 E hret M x3 x4 x5 x6 u_6 ((x4 * 6) + x6) (fun M x6 => b_X2_measure_35 K14 o1 o2 x3 x4 x5 n M x6) ih H locs ls h hZ (lv_sub hl [1, 2, 3, 4, 5, 6, 7] rfl)
      · refine lv_ldc (v := 100000) hx hb E.1.2.2.2.1 (E.w kw_1177) dX2_measure_77 ?_
        refine lv_goto (tgt := 84) hx hb dX2_measure_79 (by decide) ?_
        exact lb_X2_measure_84 g o1 ho1 o2 ho2 E hret M x3 x4 x5 x6 100000 ((x4 * 6) + x6) (fun M x6 => b_X2_measure_35 K14 o1 o2 x3 x4 x5 n M x6) ih H locs ls h hZ (lv_sub hl [1, 2, 3, 4, 5, 6, 7] rfl)
def b_X2_measure_14  (o1 : Nat) (o2 : Nat) (x3 : Int32) : Nat → zM → Int32 → Int32 → Option (zM)
  | 0, _, _, _ => none
  | n + 1, M, x4, x5 =>
    if (M o1 10) ≤ x5 then (some M) else (zbn (f_X9_isDrowned M o1 x5) (fun u_9 => if u_9 = 0 then (b_X2_measure_35 (fun M x4 x5 => b_X2_measure_14  o1 o2 x3 n M x4 x5) o1 o2 x3 x4 x5 6000 M 0) else (b_X2_measure_96 (fun M x4 x5 => b_X2_measure_14  o1 o2 x3 n M x4 x5) o1 o2 M x3 x4 x5)))
set_option maxRecDepth 100000 in
set_option maxHeartbeats 4000000 in
theorem lb_X2_measure_14 (g : zG)  (o1 : Nat) (ho1 : xk o1 = 8) (o2 : Nat) (ho2 : xk o2 = 20) {r : zM} (E : zX g p m c cX2_measure 8 s args (zWs yX2_measure cX2_measure 8 none) RX2) (hret : zRv g xE 125 p l e (zrm 7 0 0) s m args below meth c 0 0 Q cX2_measure (fun M1 => M1 = r)) (x3 : Int32)  : ∀ (n : Nat) (M : zM) (x4 : Int32) (x5 : Int32) (H : Heap) (locs : List Loc) (ls : Array Slot), b_X2_measure_14  o1 o2 x3 n M x4 x5 = some r → zS g xE 125 s H locs M → lv_has ls 8 [(0, .ref (g.2.2 45)), (1, .ref (g.2.2 o1)), (2, .ref (g.2.2 o2)), (3, .int x3), (4, .int x4), (5, .int x5)] → W p l e (zrm 7 0 0) s m args below meth c H locs 0 0 Q (F0 m 14 ls []) := by
  have hx := E.1.1
  have hb := E.1.2.1
  intro n
  induction n with
  | zero => intro M x4 x5 H locs ls h hZ hl; cases h
  | succ n ih =>
    intro M x4 x5 H locs ls h hZ hl
    rw [b_X2_measure_14] at h
    refine lv_iload hx hb dX2_measure_14 (lv_at hl 5 rfl) ?_
    refine lv_aload_n hx hb dX2_measure_16 rfl (lv_at hl 1 rfl) ?_
    refine zg (v := .int (M o1 10)) E hZ (xb_X9 ho1) ((xe_X9 ho1) _) kc_X9 10 (by decide) kw_95 rfl rfl dX2_measure_17 ?_
    refine zic_ge (tgt := 102) h E dX2_measure_20 (by decide) (fun c_11 h => ?_) (fun c_11 h => ?_)
    · exact hret _ _ _ _ _ (Option.some.inj h) hZ dX2_measure_102
    · refine lv_aload_n hx hb dX2_measure_23 rfl (lv_at hl 1 rfl) ?_
      refine lv_iload hx hb dX2_measure_24 (lv_at hl 5 rfl) ?_
      obtain ⟨u_9, qu_9, h⟩ := zbn_some h
      refine zciR (zrunV E hZ (xb_X9 ho1) ((xe_X9 ho1) _) rfl rfl v_X9_isDrowned kw_1174 (c_X9_isDrowned l g M o1 ho1 x5 qu_9 _) rfl hl.1 rfl (Nat.le_of_ble_eq_true rfl) ⟨by decide, by decide⟩ ⟨by decide, by decide⟩ dX2_measure_26) hZ (fun H locs hZ => ?_)
      refine zif_ne (tgt := 96) h E dX2_measure_29 (by decide) (fun c_10 h => ?_) (fun c_10 h => ?_)
      · exact lb_X2_measure_96 g o1 ho1 o2 ho2 E hret M x3 x4 x5 (fun M x4 x5 => b_X2_measure_14  o1 o2 x3 n M x4 x5) ih H locs ls h hZ (lv_sub hl [0, 1, 2, 3, 4, 5] rfl)
      · refine lv_iconst (v := 0) hx hb dX2_measure_32 (by decide) ?_
        refine lv_istore (lv' := [(6, .int 0), (0, .ref (g.2.2 45)), (1, .ref (g.2.2 o1)), (2, .ref (g.2.2 o2)), (3, .int x3), (4, .int x4), (5, .int x5)]) hx hb dX2_measure_33 hl (by decide) rfl (fun ls hl => ?_)
        exact lb_X2_measure_35 g o1 ho1 o2 ho2 E hret x3 x4 x5 (fun M x4 x5 => b_X2_measure_14  o1 o2 x3 n M x4 x5) ih 6000 M 0 H locs ls h hZ (lv_sub hl [1, 2, 3, 4, 5, 6, 0] rfl)
def f_X2_measure (M : zM) (o1 : Nat) (o2 : Nat) (x3 : Int32) : Option (zM) :=
  zbn (f_X8_look M o1) (fun u_12 => b_X2_measure_14  o1 o2 x3 6000 u_12 0 0)
set_option maxRecDepth 100000 in
set_option maxHeartbeats 4000000 in
theorem w_X2_measure (g : zG)  (o1 : Nat) (ho1 : xk o1 = 8) (o2 : Nat) (ho2 : xk o2 = 20) {r : zM} (E : zX g p m c cX2_measure 8 s args (zWs yX2_measure cX2_measure 8 none) RX2) (hret : zRv g xE 125 p l e (zrm 7 0 0) s m args below meth c 0 0 Q cX2_measure (fun M1 => M1 = r)) (M : zM) (x3 : Int32) (H : Heap) (locs : List Loc) (ls : Array Slot) (h : f_X2_measure M o1 o2 x3 = some r) (hZ : zS g xE 125 s H locs M) (hl : lv_has ls 8 [(0, .ref (g.2.2 45)), (1, .ref (g.2.2 o1)), (2, .ref (g.2.2 o2)), (3, .int x3)]) : W p l e (zrm 7 0 0) s m args below meth c H locs 0 0 Q (F0 m 0 ls []) := by
  have hx := E.1.1
  have hb := E.1.2.1
  unfold f_X2_measure at h
  refine lv_aload_n hx hb dX2_measure_0 rfl (lv_at hl 0 rfl) ?_
  refine zg (v := .ref (g.2.2 43)) E hZ (xb_X2 xs_45) ((xe_X2 xs_45) _) kc_X2 0 (by decide) kw_310 rfl rfl dX2_measure_1 ?_
  refine lv_aload_n hx hb dX2_measure_4 rfl (lv_at hl 1 rfl) ?_
  obtain ⟨u_12, qu_12, h⟩ := zbn_some h
  refine zcvS (zrunV E hZ (xb_X8 xs_43) ((xe_X8 xs_43) _) rfl rfl v_X8_look kw_1173 (c_X8_look l g M o1 ho1  qu_12 _) rfl hl.1 rfl (Nat.le_of_ble_eq_true rfl) ⟨by decide, by decide⟩ ⟨by decide, by decide⟩ dX2_measure_5) hZ (fun H locs hZ => ?_)
  refine lv_iconst (v := 0) hx hb dX2_measure_8 (by decide) ?_
  refine lv_istore (lv' := [(4, .int 0), (0, .ref (g.2.2 45)), (1, .ref (g.2.2 o1)), (2, .ref (g.2.2 o2)), (3, .int x3)]) hx hb dX2_measure_9 hl (by decide) rfl (fun ls hl => ?_)
  refine lv_iconst (v := 0) hx hb dX2_measure_11 (by decide) ?_
  refine lv_istore (lv' := [(5, .int 0), (4, .int 0), (0, .ref (g.2.2 45)), (1, .ref (g.2.2 o1)), (2, .ref (g.2.2 o2)), (3, .int x3)]) hx hb dX2_measure_12 hl (by decide) rfl (fun ls hl => ?_)
  exact lb_X2_measure_14 g o1 ho1 o2 ho2 E hret x3  6000 u_12 0 0 H locs ls h hZ (lv_sub hl [2, 3, 4, 5, 1, 0] rfl)
theorem c_X2_measure (l : Launch) (g : zG) (M : zM) (o1 : Nat) (ho1 : xk o1 = 8) (o2 : Nat) (ho2 : xk o2 = 20) (x3 : Int32) {r : zM} (h : f_X2_measure M o1 o2 x3 = some r) : zMv l g xE 125 yX2_measure (zWs yX2_measure cX2_measure 8 none) 7 [.ref (g.2.2 45), .ref (g.2.2 o1), .ref (g.2.2 o2), .int x3] M (fun M1 => M1 = r) :=
  zMv_of (by decide +kernel) (Nat.le_of_ble_eq_true rfl) (fun p e s m args below meth c Q ls E hret hZ hl => w_X2_measure g o1 ho1 o2 ho2 E hret M x3 _ _ ls h hZ hl)
theorem v_X2_measure : zYV yX2_measure cX2_measure 8 none 3 := ⟨kw_1172, kw_13, kw_1171, kp_32, by decide +kernel⟩

def f_X2_hoursBy (M : zM) (x1 : Int32) (x2 : Int32) (x3 : Int32) : Option (Int32) :=
  zbn (f_X10_at M 46 ((x2 * 6) + x3)) (fun u_1 => zbn (f_X10_at M 47 (x1 ||| ((1 : Int32) <<< (x3 &&& 31)))) (fun u_2 => some (u_1 + u_2)))
set_option maxRecDepth 100000 in
set_option maxHeartbeats 4000000 in
theorem w_X2_hoursBy (g : zG)  {r : Int32} {M0 : zM} (E : zX g p m c cX2_hoursBy 4 s args (zWs yX2_hoursBy cX2_hoursBy 4 (some .int)) RX2) (hret : zRi g xE 125 p l e (zrm 3 0 0) s m args below meth c 0 0 Q cX2_hoursBy .int (fun v M1 => v = r ∧ M1 = M0)) (M : zM) (hM : M = M0) (x1 : Int32) (x2 : Int32) (x3 : Int32) (H : Heap) (locs : List Loc) (ls : Array Slot) (h : f_X2_hoursBy M x1 x2 x3 = some r) (hZ : zS g xE 125 s H locs M) (hl : lv_has ls 4 [(0, .ref (g.2.2 45)), (1, .int x1), (2, .int x2), (3, .int x3)]) : W p l e (zrm 3 0 0) s m args below meth c H locs 0 0 Q (F0 m 0 ls []) := by
  have hx := E.1.1
  have hb := E.1.2.1
  unfold f_X2_hoursBy at h
  refine lv_aload_n hx hb dX2_hoursBy_0 rfl (lv_at hl 0 rfl) ?_
  refine zg (v := .ref (g.2.2 46)) E hZ (xb_X2 xs_45) ((xe_X2 xs_45) _) kc_X2 1 (by decide) kw_311 rfl rfl dX2_hoursBy_1 ?_
  refine lv_iload_n hx hb dX2_hoursBy_4 rfl (lv_at hl 2 rfl) ?_
  refine lv_bipush (v := 6) hx hb dX2_hoursBy_5 (by decide) ?_
  refine lv_imul hx hb dX2_hoursBy_7 ?_
  refine lv_iload_n hx hb dX2_hoursBy_8 rfl (lv_at hl 3 rfl) ?_
  refine lv_iadd hx hb dX2_hoursBy_9 ?_
  obtain ⟨u_1, qu_1, h⟩ := zbn_some h
  refine zciR (zrunSN E hZ v_X10_at kw_1175 (c_X10_at l g M 46 xs_46.1 ((x2 * 6) + x3) qu_1 _) rfl hl.1 rfl (Nat.le_of_ble_eq_true rfl) ⟨by decide, by decide⟩ ⟨by decide, by decide⟩ dX2_hoursBy_10) hZ (fun H locs hZ => ?_)
  refine lv_aload_n hx hb dX2_hoursBy_13 rfl (lv_at hl 0 rfl) ?_
  refine zg (v := .ref (g.2.2 47)) E hZ (xb_X2 xs_45) ((xe_X2 xs_45) _) kc_X2 2 (by decide) kw_312 rfl rfl dX2_hoursBy_14 ?_
  refine lv_iload_n hx hb dX2_hoursBy_17 rfl (lv_at hl 1 rfl) ?_
  refine lv_iconst (v := 1) hx hb dX2_hoursBy_18 (by decide) ?_
  refine lv_iload_n hx hb dX2_hoursBy_19 rfl (lv_at hl 3 rfl) ?_
  refine lv_ishl hx hb dX2_hoursBy_20 ?_
  refine lv_ior hx hb dX2_hoursBy_21 ?_
  obtain ⟨u_2, qu_2, h⟩ := zbn_some h
  refine zciR (zrunSN E hZ v_X10_at kw_1175 (c_X10_at l g M 47 xs_47.1 (x1 ||| ((1 : Int32) <<< (x3 &&& 31))) qu_2 _) rfl hl.1 rfl (Nat.le_of_ble_eq_true rfl) ⟨by decide, by decide⟩ ⟨by decide, by decide⟩ dX2_hoursBy_22) hZ (fun H locs hZ => ?_)
  refine lv_iadd hx hb dX2_hoursBy_25 ?_
  exact hret _ _ _ _ _ _ ⟨Option.some.inj h, hM⟩ rfl hZ dX2_hoursBy_26
theorem c_X2_hoursBy (l : Launch) (g : zG) (M : zM)  (x1 : Int32) (x2 : Int32) (x3 : Int32) {r : Int32} (h : f_X2_hoursBy M x1 x2 x3 = some r) : zMi l g xE 125 yX2_hoursBy (zWs yX2_hoursBy cX2_hoursBy 4 (some .int)) 3 [.ref (g.2.2 45), .int x1, .int x2, .int x3] M (fun v M1 => v = r ∧ M1 = M) :=
  zMi_of (by decide +kernel) (Nat.le_of_ble_eq_true rfl) (fun p e s m args below meth c Q ls E hret hZ hl => w_X2_hoursBy g  E hret M rfl x1 x2 x3 _ _ ls h hZ hl)
theorem v_X2_hoursBy : zYV yX2_hoursBy cX2_hoursBy 4 (some .int) 3 := ⟨kw_1184, kw_13, kw_1183, kp_33, by decide +kernel⟩

def b_X2_leastPlace_40 (K3 : Int32 → Option (Int32)) (M : zM) (x1 : Int32) (x2 : Int32) (x3 : Int32) (x4 : Int32) : Option (Int32) :=
  znm (x4 + 1) (fun x4_1 => K3 x4_1)
set_option maxRecDepth 100000 in
set_option maxHeartbeats 4000000 in
theorem lb_X2_leastPlace_40 (g : zG)  {r : Int32} {M0 : zM} (E : zX g p m c cX2_leastPlace 5 s args (zWs yX2_leastPlace cX2_leastPlace 5 (some .int)) RX2) (hret : zRi g xE 125 p l e (zrm 4 0 0) s m args below meth c 0 0 Q cX2_leastPlace .int (fun v M1 => v = r ∧ M1 = M0)) (M : zM) (x1 : Int32) (x2 : Int32) (x3 : Int32) (x4 : Int32) (hM : M = M0) (K3 : Int32 → Option (Int32)) (hK3 : ∀ (x4 : Int32) (H : Heap) (locs : List Loc) (ls : Array Slot), K3 x4 = some r → zS g xE 125 s H locs M → lv_has ls 5 [(0, .ref (g.2.2 45)), (1, .int x1), (2, .int x2), (3, .int x3), (4, .int x4)] → W p l e (zrm 4 0 0) s m args below meth c H locs 0 0 Q (F0 m 3 ls [])) (H : Heap) (locs : List Loc) (ls : Array Slot) (h : b_X2_leastPlace_40 K3 M x1 x2 x3 x4 = some r) (hZ : zS g xE 125 s H locs M) (hl : lv_has ls 5 [(0, .ref (g.2.2 45)), (1, .int x1), (2, .int x2), (3, .int x3), (4, .int x4)]) : W p l e (zrm 4 0 0) s m args below meth c H locs 0 0 Q (F0 m 40 ls []) := by
  have hx := E.1.1
  have hb := E.1.2.1
  unfold b_X2_leastPlace_40 at h
  obtain ⟨x4_1, ex4_1, h⟩ := znm_ex h
  refine lv_iinc (v := x4_1) (lv' := [(4, .int x4_1), (0, .ref (g.2.2 45)), (1, .int x1), (2, .int x2), (3, .int x3)]) hx hb dX2_leastPlace_40 hl (k := 4) rfl (by rw [ex4_1]; rfl) (by decide) rfl (fun ls hl => ?_)
  refine lv_goto (tgt := 3) hx hb dX2_leastPlace_43 (by decide) ?_
  exact hK3 x4_1 H locs ls h hZ (lv_sub hl [1, 2, 3, 4, 0] rfl)
def b_X2_leastPlace_3  (M : zM) (x1 : Int32) (x2 : Int32) (x3 : Int32) : Nat → Int32 → Option (Int32)
  | 0, _ => none
  | n + 1, x4 =>
    if x3 ≤ x4 then (some 0) else (zbn (f_X10_has M x1 x4) (fun u_2 => if u_2 = 0 then (zbn (f_X2_hoursBy M x1 x2 x4) (fun u_3 => zbn (f_X10_at M 47 x1) (fun u_4 => if u_3 = u_4 then (some x4) else (b_X2_leastPlace_40 (fun x4 => b_X2_leastPlace_3  M x1 x2 x3 n x4) M x1 x2 x3 x4)))) else (b_X2_leastPlace_40 (fun x4 => b_X2_leastPlace_3  M x1 x2 x3 n x4) M x1 x2 x3 x4)))
set_option maxRecDepth 100000 in
set_option maxHeartbeats 4000000 in
theorem lb_X2_leastPlace_3 (g : zG)  {r : Int32} {M0 : zM} (E : zX g p m c cX2_leastPlace 5 s args (zWs yX2_leastPlace cX2_leastPlace 5 (some .int)) RX2) (hret : zRi g xE 125 p l e (zrm 4 0 0) s m args below meth c 0 0 Q cX2_leastPlace .int (fun v M1 => v = r ∧ M1 = M0)) (M : zM) (x1 : Int32) (x2 : Int32) (x3 : Int32) (hM : M = M0)  : ∀ (n : Nat) (x4 : Int32) (H : Heap) (locs : List Loc) (ls : Array Slot), b_X2_leastPlace_3  M x1 x2 x3 n x4 = some r → zS g xE 125 s H locs M → lv_has ls 5 [(0, .ref (g.2.2 45)), (1, .int x1), (2, .int x2), (3, .int x3), (4, .int x4)] → W p l e (zrm 4 0 0) s m args below meth c H locs 0 0 Q (F0 m 3 ls []) := by
  have hx := E.1.1
  have hb := E.1.2.1
  intro n
  induction n with
  | zero => intro x4 H locs ls h hZ hl; cases h
  | succ n ih =>
    intro x4 H locs ls h hZ hl
    rw [b_X2_leastPlace_3] at h
    refine lv_iload hx hb dX2_leastPlace_3 (lv_at hl 4 rfl) ?_
    refine lv_iload_n hx hb dX2_leastPlace_5 rfl (lv_at hl 3 rfl) ?_
    refine zic_ge (tgt := 46) h E dX2_leastPlace_6 (by decide) (fun c_7 h => ?_) (fun c_7 h => ?_)
    · refine lv_iconst (v := 0) hx hb dX2_leastPlace_46 (by decide) ?_
      exact hret _ _ _ _ _ _ ⟨Option.some.inj h, hM⟩ rfl hZ dX2_leastPlace_47
    · refine lv_iload_n hx hb dX2_leastPlace_9 rfl (lv_at hl 1 rfl) ?_
      refine lv_iload hx hb dX2_leastPlace_10 (lv_at hl 4 rfl) ?_
      obtain ⟨u_2, qu_2, h⟩ := zbn_some h
      refine zciR (zrunSN E hZ v_X10_has kw_1180 (c_X10_has l g M  x1 x4 qu_2 _) rfl hl.1 rfl (Nat.le_of_ble_eq_true rfl) ⟨by decide, by decide⟩ ⟨by decide, by decide⟩ dX2_leastPlace_12) hZ (fun H locs hZ => ?_)
      refine zif_ne (tgt := 40) h E dX2_leastPlace_15 (by decide) (fun c_6 h => ?_) (fun c_6 h => ?_)
      · exact lb_X2_leastPlace_40 g  E hret M x1 x2 x3 x4 hM (fun x4 => b_X2_leastPlace_3  M x1 x2 x3 n x4) ih H locs ls h hZ (lv_sub hl [0, 1, 2, 3, 4] rfl)
      · refine lv_aload_n hx hb dX2_leastPlace_18 rfl (lv_at hl 0 rfl) ?_
        refine lv_iload_n hx hb dX2_leastPlace_19 rfl (lv_at hl 1 rfl) ?_
        refine lv_iload_n hx hb dX2_leastPlace_20 rfl (lv_at hl 2 rfl) ?_
        refine lv_iload hx hb dX2_leastPlace_21 (lv_at hl 4 rfl) ?_
        obtain ⟨u_3, qu_3, h⟩ := zbn_some h
        refine zciR (zrunV E hZ (xb_X2 xs_45) ((xe_X2 xs_45) _) rfl rfl v_X2_hoursBy kw_1181 (c_X2_hoursBy l g M  x1 x2 x4 qu_3 _) rfl hl.1 rfl (Nat.le_of_ble_eq_true rfl) ⟨by decide, by decide⟩ ⟨by decide, by decide⟩ dX2_leastPlace_23) hZ (fun H locs hZ => ?_)
        refine lv_aload_n hx hb dX2_leastPlace_26 rfl (lv_at hl 0 rfl) ?_
        refine zg (v := .ref (g.2.2 47)) E hZ (xb_X2 xs_45) ((xe_X2 xs_45) _) kc_X2 2 (by decide) kw_312 rfl rfl dX2_leastPlace_27 ?_
        refine lv_iload_n hx hb dX2_leastPlace_30 rfl (lv_at hl 1 rfl) ?_
        obtain ⟨u_4, qu_4, h⟩ := zbn_some h
        refine zciR (zrunSN E hZ v_X10_at kw_1175 (c_X10_at l g M 47 xs_47.1 x1 qu_4 _) rfl hl.1 rfl (Nat.le_of_ble_eq_true rfl) ⟨by decide, by decide⟩ ⟨by decide, by decide⟩ dX2_leastPlace_31) hZ (fun H locs hZ => ?_)
        refine zic_ne (tgt := 40) h E dX2_leastPlace_34 (by decide) (fun c_5 h => ?_) (fun c_5 h => ?_)
        · exact lb_X2_leastPlace_40 g  E hret M x1 x2 x3 x4 hM (fun x4 => b_X2_leastPlace_3  M x1 x2 x3 n x4) ih H locs ls h hZ (lv_sub hl [0, 1, 2, 3, 4] rfl)
        · refine lv_iload hx hb dX2_leastPlace_37 (lv_at hl 4 rfl) ?_
          exact hret _ _ _ _ _ _ ⟨Option.some.inj h, hM⟩ rfl hZ dX2_leastPlace_39
def f_X2_leastPlace (M : zM) (x1 : Int32) (x2 : Int32) (x3 : Int32) : Option (Int32) :=
  b_X2_leastPlace_3  M x1 x2 x3 6000 0
set_option maxRecDepth 100000 in
set_option maxHeartbeats 4000000 in
theorem w_X2_leastPlace (g : zG)  {r : Int32} {M0 : zM} (E : zX g p m c cX2_leastPlace 5 s args (zWs yX2_leastPlace cX2_leastPlace 5 (some .int)) RX2) (hret : zRi g xE 125 p l e (zrm 4 0 0) s m args below meth c 0 0 Q cX2_leastPlace .int (fun v M1 => v = r ∧ M1 = M0)) (M : zM) (hM : M = M0) (x1 : Int32) (x2 : Int32) (x3 : Int32) (H : Heap) (locs : List Loc) (ls : Array Slot) (h : f_X2_leastPlace M x1 x2 x3 = some r) (hZ : zS g xE 125 s H locs M) (hl : lv_has ls 5 [(0, .ref (g.2.2 45)), (1, .int x1), (2, .int x2), (3, .int x3)]) : W p l e (zrm 4 0 0) s m args below meth c H locs 0 0 Q (F0 m 0 ls []) := by
  have hx := E.1.1
  have hb := E.1.2.1
  unfold f_X2_leastPlace at h
  refine lv_iconst (v := 0) hx hb dX2_leastPlace_0 (by decide) ?_
  refine lv_istore (lv' := [(4, .int 0), (0, .ref (g.2.2 45)), (1, .int x1), (2, .int x2), (3, .int x3)]) hx hb dX2_leastPlace_1 hl (by decide) rfl (fun ls hl => ?_)
  exact lb_X2_leastPlace_3 g  E hret M x1 x2 x3 hM  6000 0 H locs ls h hZ (lv_sub hl [1, 2, 3, 4, 0] rfl)
theorem c_X2_leastPlace (l : Launch) (g : zG) (M : zM)  (x1 : Int32) (x2 : Int32) (x3 : Int32) {r : Int32} (h : f_X2_leastPlace M x1 x2 x3 = some r) : zMi l g xE 125 yX2_leastPlace (zWs yX2_leastPlace cX2_leastPlace 5 (some .int)) 4 [.ref (g.2.2 45), .int x1, .int x2, .int x3] M (fun v M1 => v = r ∧ M1 = M) :=
  zMi_of (by decide +kernel) (Nat.le_of_ble_eq_true rfl) (fun p e s m args below meth c Q ls E hret hZ hl => w_X2_leastPlace g  E hret M rfl x1 x2 x3 _ _ ls h hZ hl)
theorem v_X2_leastPlace : zYV yX2_leastPlace cX2_leastPlace 5 (some .int) 3 := ⟨kw_1193, kw_13, kw_1192, kp_35, by decide +kernel⟩

def b_X2_choose_67 (K8 : zM → Int32 → Int32 → Int32 → Option (zM)) (o1 : Nat) (M : zM) (x2 : Int32) (x3 : Int32) (x4 : Int32) (x5 : Int32) : Option (zM) :=
  znm (x5 + 1) (fun x5_1 => K8 M x3 x4 x5_1)
set_option maxRecDepth 100000 in
set_option maxHeartbeats 4000000 in
theorem lb_X2_choose_67 (g : zG)  (o1 : Nat) (ho1 : xk o1 = 8) {r : zM} (E : zX g p m c cX2_choose 7 s args (zWs yX2_choose cX2_choose 7 none) RX2) (hret : zRv g xE 125 p l e (zrm 5 0 0) s m args below meth c 0 0 Q cX2_choose (fun M1 => M1 = r)) (M : zM) (x2 : Int32) (x3 : Int32) (x4 : Int32) (x5 : Int32) (K8 : zM → Int32 → Int32 → Int32 → Option (zM)) (hK8 : ∀ (M : zM) (x3 : Int32) (x4 : Int32) (x5 : Int32) (H : Heap) (locs : List Loc) (ls : Array Slot), K8 M x3 x4 x5 = some r → zS g xE 125 s H locs M → lv_has ls 7 [(0, .ref (g.2.2 45)), (1, .ref (g.2.2 o1)), (2, .int x2), (3, .int x3), (4, .int x4), (5, .int x5)] → W p l e (zrm 5 0 0) s m args below meth c H locs 0 0 Q (F0 m 8 ls [])) (H : Heap) (locs : List Loc) (ls : Array Slot) (h : b_X2_choose_67 K8 o1 M x2 x3 x4 x5 = some r) (hZ : zS g xE 125 s H locs M) (hl : lv_has ls 7 [(0, .ref (g.2.2 45)), (1, .ref (g.2.2 o1)), (2, .int x2), (3, .int x3), (4, .int x4), (5, .int x5)]) : W p l e (zrm 5 0 0) s m args below meth c H locs 0 0 Q (F0 m 67 ls []) := by
  have hx := E.1.1
  have hb := E.1.2.1
  unfold b_X2_choose_67 at h
  obtain ⟨x5_1, ex5_1, h⟩ := znm_ex h
  refine lv_iinc (v := x5_1) (lv' := [(5, .int x5_1), (0, .ref (g.2.2 45)), (1, .ref (g.2.2 o1)), (2, .int x2), (3, .int x3), (4, .int x4)]) hx hb dX2_choose_67 hl (k := 5) rfl (by rw [ex5_1]; rfl) (by decide) rfl (fun ls hl => ?_)
  refine lv_goto (tgt := 8) hx hb dX2_choose_70 (by decide) ?_
  exact hK8 M x3 x4 x5_1 H locs ls h hZ (lv_sub hl [1, 2, 3, 4, 5, 0] rfl)
def b_X2_choose_8  (o1 : Nat) (x2 : Int32) : Nat → zM → Int32 → Int32 → Int32 → Option (zM)
  | 0, _, _, _, _ => none
  | n + 1, M, x3, x4, x5 =>
    if (M o1 10) ≤ x5 then (some M) else (zbn (f_X10_put M 48 x5 ((-1))) (fun u_2 => zbn (f_X9_isDrowned u_2 o1 x5) (fun u_3 => if u_3 = 0 then (zbn (f_X2_leastPlace u_2 x3 x4 x2) (fun u_4 => zbn (f_X10_put u_2 48 x5 u_4) (fun u_5 => znm (x3 ||| ((1 : Int32) <<< (u_4 &&& 31))) (fun x3_6 => znm (x4 + 1) (fun x4_7 => b_X2_choose_67 (fun M x3 x4 x5 => b_X2_choose_8  o1 x2 n M x3 x4 x5) o1 u_5 x2 x3_6 x4_7 x5))))) else (b_X2_choose_67 (fun M x3 x4 x5 => b_X2_choose_8  o1 x2 n M x3 x4 x5) o1 u_2 x2 x3 x4 x5))))
set_option maxRecDepth 100000 in
set_option maxHeartbeats 4000000 in
theorem lb_X2_choose_8 (g : zG)  (o1 : Nat) (ho1 : xk o1 = 8) {r : zM} (E : zX g p m c cX2_choose 7 s args (zWs yX2_choose cX2_choose 7 none) RX2) (hret : zRv g xE 125 p l e (zrm 5 0 0) s m args below meth c 0 0 Q cX2_choose (fun M1 => M1 = r)) (x2 : Int32)  : ∀ (n : Nat) (M : zM) (x3 : Int32) (x4 : Int32) (x5 : Int32) (H : Heap) (locs : List Loc) (ls : Array Slot), b_X2_choose_8  o1 x2 n M x3 x4 x5 = some r → zS g xE 125 s H locs M → lv_has ls 7 [(0, .ref (g.2.2 45)), (1, .ref (g.2.2 o1)), (2, .int x2), (3, .int x3), (4, .int x4), (5, .int x5)] → W p l e (zrm 5 0 0) s m args below meth c H locs 0 0 Q (F0 m 8 ls []) := by
  have hx := E.1.1
  have hb := E.1.2.1
  intro n
  induction n with
  | zero => intro M x3 x4 x5 H locs ls h hZ hl; cases h
  | succ n ih =>
    intro M x3 x4 x5 H locs ls h hZ hl
    rw [b_X2_choose_8] at h
    refine lv_iload hx hb dX2_choose_8 (lv_at hl 5 rfl) ?_
    refine lv_aload_n hx hb dX2_choose_10 rfl (lv_at hl 1 rfl) ?_
    refine zg (v := .int (M o1 10)) E hZ (xb_X9 ho1) ((xe_X9 ho1) _) kc_X9 10 (by decide) kw_95 rfl rfl dX2_choose_11 ?_
    refine zic_ge (tgt := 73) h E dX2_choose_14 (by decide) (fun c_9 h => ?_) (fun c_9 h => ?_)
    · exact hret _ _ _ _ _ (Option.some.inj h) hZ dX2_choose_73
    · refine lv_aload_n hx hb dX2_choose_17 rfl (lv_at hl 0 rfl) ?_
      refine zg (v := .ref (g.2.2 48)) E hZ (xb_X2 xs_45) ((xe_X2 xs_45) _) kc_X2 3 (by decide) kw_313 rfl rfl dX2_choose_18 ?_
      refine lv_iload hx hb dX2_choose_21 (lv_at hl 5 rfl) ?_
      refine lv_iconst (v := (-1)) hx hb dX2_choose_23 (by decide) ?_
      obtain ⟨u_2, qu_2, h⟩ := zbn_some h
      refine zcvS (zrunSN E hZ v_X10_put kw_1178 (c_X10_put l g M 48 xs_48.1 x5 ((-1)) qu_2 _) rfl hl.1 rfl (Nat.le_of_ble_eq_true rfl) ⟨by decide, by decide⟩ ⟨by decide, by decide⟩ dX2_choose_24) hZ (fun H locs hZ => ?_)
      refine lv_aload_n hx hb dX2_choose_27 rfl (lv_at hl 1 rfl) ?_
      refine lv_iload hx hb dX2_choose_28 (lv_at hl 5 rfl) ?_
      obtain ⟨u_3, qu_3, h⟩ := zbn_some h
      refine zciR (zrunV E hZ (xb_X9 ho1) ((xe_X9 ho1) _) rfl rfl v_X9_isDrowned kw_1174 (c_X9_isDrowned l g u_2 o1 ho1 x5 qu_3 _) rfl hl.1 rfl (Nat.le_of_ble_eq_true rfl) ⟨by decide, by decide⟩ ⟨by decide, by decide⟩ dX2_choose_30) hZ (fun H locs hZ => ?_)
      refine zif_ne (tgt := 67) h E dX2_choose_33 (by decide) (fun c_8 h => ?_) (fun c_8 h => ?_)
      · exact lb_X2_choose_67 g o1 ho1 E hret u_2 x2 x3 x4 x5 (fun M x3 x4 x5 => b_X2_choose_8  o1 x2 n M x3 x4 x5) ih H locs ls h hZ (lv_sub hl [0, 1, 2, 3, 4, 5] rfl)
      · refine lv_aload_n hx hb dX2_choose_36 rfl (lv_at hl 0 rfl) ?_
        refine lv_iload_n hx hb dX2_choose_37 rfl (lv_at hl 3 rfl) ?_
        refine lv_iload hx hb dX2_choose_38 (lv_at hl 4 rfl) ?_
        refine lv_iload_n hx hb dX2_choose_40 rfl (lv_at hl 2 rfl) ?_
        obtain ⟨u_4, qu_4, h⟩ := zbn_some h
        refine zciR (zrunV E hZ (xb_X2 xs_45) ((xe_X2 xs_45) _) rfl rfl v_X2_leastPlace kw_1190 (c_X2_leastPlace l g u_2  x3 x4 x2 qu_4 _) rfl hl.1 rfl (Nat.le_of_ble_eq_true rfl) ⟨by decide, by decide⟩ ⟨by decide, by decide⟩ dX2_choose_41) hZ (fun H locs hZ => ?_)
        refine lv_istore (lv' := [(6, .int u_4), (0, .ref (g.2.2 45)), (1, .ref (g.2.2 o1)), (2, .int x2), (3, .int x3), (4, .int x4), (5, .int x5)]) hx hb dX2_choose_44 hl (by decide) rfl (fun ls hl => ?_)
        refine lv_aload_n hx hb dX2_choose_46 rfl (lv_at hl 1 rfl) ?_
        refine zg (v := .ref (g.2.2 48)) E hZ (xb_X2 xs_45) ((xe_X2 xs_45) _) kc_X2 3 (by decide) kw_313 rfl rfl dX2_choose_47 ?_
        refine lv_iload hx hb dX2_choose_50 (lv_at hl 6 rfl) ?_
        refine lv_iload hx hb dX2_choose_52 (lv_at hl 0 rfl) ?_
        obtain ⟨u_5, qu_5, h⟩ := zbn_some h
        refine zcvS (zrunSN E hZ v_X10_put kw_1178 (c_X10_put l g u_2 48 xs_48.1 x5 u_4 qu_5 _) rfl hl.1 rfl (Nat.le_of_ble_eq_true rfl) ⟨by decide, by decide⟩ ⟨by decide, by decide⟩ dX2_choose_54) hZ (fun H locs hZ => ?_)
        refine lv_iload_n hx hb dX2_choose_57 rfl (lv_at hl 4 rfl) ?_
        refine lv_iconst (v := 1) hx hb dX2_choose_58 (by decide) ?_
        refine lv_iload hx hb dX2_choose_59 (lv_at hl 0 rfl) ?_
        refine lv_ishl hx hb dX2_choose_61 ?_
        refine lv_ior hx hb dX2_choose_62 ?_
        refine zni h (fun x3_6 ex3_6 h => ?_)
        refine lv_istore_n (lv' := [(3, .int x3_6), (6, .int u_4), (0, .ref (g.2.2 45)), (1, .ref (g.2.2 o1)), (2, .int x2), (4, .int x4), (5, .int x5)]) hx hb dX2_choose_63 rfl hl (by decide) rfl (fun ls hl => ?_)
        obtain ⟨x4_7, ex4_7, h⟩ := znm_ex h
        refine lv_iinc (v := x4_7) (lv' := [(4, .int x4_7), (3, .int x3_6), (6, .int u_4), (0, .ref (g.2.2 45)), (1, .ref (g.2.2 o1)), (2, .int x2), (5, .int x5)]) hx hb dX2_choose_64 hl (k := 5) rfl (by rw [ex4_7]; rfl) (by decide) rfl (fun ls hl => ?_)
        exact lb_X2_choose_67 g o1 ho1 E hret u_5 x2 x3_6 x4_7 x5 (fun M x3 x4 x5 => b_X2_choose_8  o1 x2 n M x3 x4 x5) ih H locs ls h hZ (lv_sub hl [3, 4, 5, 1, 0, 6] rfl)
def f_X2_choose (M : zM) (o1 : Nat) (x2 : Int32) : Option (zM) :=
  b_X2_choose_8  o1 x2 6000 M 0 0 0
set_option maxRecDepth 100000 in
set_option maxHeartbeats 4000000 in
theorem w_X2_choose (g : zG)  (o1 : Nat) (ho1 : xk o1 = 8) {r : zM} (E : zX g p m c cX2_choose 7 s args (zWs yX2_choose cX2_choose 7 none) RX2) (hret : zRv g xE 125 p l e (zrm 5 0 0) s m args below meth c 0 0 Q cX2_choose (fun M1 => M1 = r)) (M : zM) (x2 : Int32) (H : Heap) (locs : List Loc) (ls : Array Slot) (h : f_X2_choose M o1 x2 = some r) (hZ : zS g xE 125 s H locs M) (hl : lv_has ls 7 [(0, .ref (g.2.2 45)), (1, .ref (g.2.2 o1)), (2, .int x2)]) : W p l e (zrm 5 0 0) s m args below meth c H locs 0 0 Q (F0 m 0 ls []) := by
  have hx := E.1.1
  have hb := E.1.2.1
  unfold f_X2_choose at h
  refine lv_iconst (v := 0) hx hb dX2_choose_0 (by decide) ?_
  refine lv_istore_n (lv' := [(3, .int 0), (0, .ref (g.2.2 45)), (1, .ref (g.2.2 o1)), (2, .int x2)]) hx hb dX2_choose_1 rfl hl (by decide) rfl (fun ls hl => ?_)
  refine lv_iconst (v := 0) hx hb dX2_choose_2 (by decide) ?_
  refine lv_istore (lv' := [(4, .int 0), (3, .int 0), (0, .ref (g.2.2 45)), (1, .ref (g.2.2 o1)), (2, .int x2)]) hx hb dX2_choose_3 hl (by decide) rfl (fun ls hl => ?_)
  refine lv_iconst (v := 0) hx hb dX2_choose_5 (by decide) ?_
  refine lv_istore (lv' := [(5, .int 0), (4, .int 0), (3, .int 0), (0, .ref (g.2.2 45)), (1, .ref (g.2.2 o1)), (2, .int x2)]) hx hb dX2_choose_6 hl (by decide) rfl (fun ls hl => ?_)
  exact lb_X2_choose_8 g o1 ho1 E hret x2  6000 M 0 0 0 H locs ls h hZ (lv_sub hl [3, 4, 5, 2, 1, 0] rfl)
theorem c_X2_choose (l : Launch) (g : zG) (M : zM) (o1 : Nat) (ho1 : xk o1 = 8) (x2 : Int32) {r : zM} (h : f_X2_choose M o1 x2 = some r) : zMv l g xE 125 yX2_choose (zWs yX2_choose cX2_choose 7 none) 5 [.ref (g.2.2 45), .ref (g.2.2 o1), .int x2] M (fun M1 => M1 = r) :=
  zMv_of (by decide +kernel) (Nat.le_of_ble_eq_true rfl) (fun p e s m args below meth c Q ls E hret hZ hl => w_X2_choose g o1 ho1 E hret M x2 _ _ ls h hZ hl)
theorem v_X2_choose : zYV yX2_choose cX2_choose 7 none 2 := ⟨kw_1189, kw_13, kw_1188, kp_34, by decide +kernel⟩

def b_X2_sendAll_105  (o1 : Nat) (o2 : Nat) (M : zM) (x3 : Int32) : Option (Int32 × zM) :=
  zbn (f_X10_at M 47 0) (fun u_1 => if u_1 < 100000 then (zbn (f_X2_choose M o1 x3) (fun u_2 => zbn (f_X10_at u_2 47 0) (fun u_3 => some (u_3, u_2)))) else (some ((-1), M)))
set_option maxRecDepth 100000 in
set_option maxHeartbeats 4000000 in
theorem lb_X2_sendAll_105 (g : zG)  (o1 : Nat) (ho1 : xk o1 = 8) (o2 : Nat) (ho2 : xk o2 = 20) {r : Int32 × zM} (E : zX g p m c cX2_sendAll 9 s args (zWs yX2_sendAll cX2_sendAll 9 (some .int)) RX2) (hret : zRi g xE 125 p l e (zrm 8 0 0) s m args below meth c 0 0 Q cX2_sendAll .int (fun v M1 => r = (v, M1))) (M : zM) (x3 : Int32)  (H : Heap) (locs : List Loc) (ls : Array Slot) (h : b_X2_sendAll_105  o1 o2 M x3 = some r) (hZ : zS g xE 125 s H locs M) (hl : lv_has ls 9 [(0, .ref (g.2.2 45)), (1, .ref (g.2.2 o1)), (3, .int x3)]) : W p l e (zrm 8 0 0) s m args below meth c H locs 0 0 Q (F0 m 105 ls []) := by
  have hx := E.1.1
  have hb := E.1.2.1
  unfold b_X2_sendAll_105 at h
  refine lv_aload_n hx hb dX2_sendAll_105 rfl (lv_at hl 0 rfl) ?_
  refine zg (v := .ref (g.2.2 47)) E hZ (xb_X2 xs_45) ((xe_X2 xs_45) _) kc_X2 2 (by decide) kw_312 rfl rfl dX2_sendAll_106 ?_
  refine lv_iconst (v := 0) hx hb dX2_sendAll_109 (by decide) ?_
  obtain ⟨u_1, qu_1, h⟩ := zbn_some h
  refine zciR (zrunSN E hZ v_X10_at kw_1175 (c_X10_at l g M 47 xs_47.1 0 qu_1 _) rfl hl.1 rfl (Nat.le_of_ble_eq_true rfl) ⟨by decide, by decide⟩ ⟨by decide, by decide⟩ dX2_sendAll_110) hZ (fun H locs hZ => ?_)
  refine lv_ldc (v := 100000) hx hb E.1.2.2.2.1 (E.w kw_1177) dX2_sendAll_113 ?_
  refine zic_lt (tgt := 120) h E dX2_sendAll_115 (by decide) (fun c_4 h => ?_) (fun c_4 h => ?_)
  · refine lv_aload_n hx hb dX2_sendAll_120 rfl (lv_at hl 0 rfl) ?_
    refine lv_aload_n hx hb dX2_sendAll_121 rfl (lv_at hl 1 rfl) ?_
    refine lv_iload_n hx hb dX2_sendAll_122 rfl (lv_at hl 2 rfl) ?_
    obtain ⟨u_2, qu_2, h⟩ := zbn_some h
    refine zcvS (zrunV E hZ (xb_X2 xs_45) ((xe_X2 xs_45) _) rfl rfl v_X2_choose kw_1186 (c_X2_choose l g M o1 ho1 x3 qu_2 _) rfl hl.1 rfl (Nat.le_of_ble_eq_true rfl) ⟨by decide, by decide⟩ ⟨by decide, by decide⟩ dX2_sendAll_123) hZ (fun H locs hZ => ?_)
    refine lv_aload_n hx hb dX2_sendAll_126 rfl (lv_at hl 0 rfl) ?_
    refine zg (v := .ref (g.2.2 47)) E hZ (xb_X2 xs_45) ((xe_X2 xs_45) _) kc_X2 2 (by decide) kw_312 rfl rfl dX2_sendAll_127 ?_
    refine lv_iconst (v := 0) hx hb dX2_sendAll_130 (by decide) ?_
    obtain ⟨u_3, qu_3, h⟩ := zbn_some h
    refine zciR (zrunSN E hZ v_X10_at kw_1175 (c_X10_at l g u_2 47 xs_47.1 0 qu_3 _) rfl hl.1 rfl (Nat.le_of_ble_eq_true rfl) ⟨by decide, by decide⟩ ⟨by decide, by decide⟩ dX2_sendAll_131) hZ (fun H locs hZ => ?_)
    exact hret _ _ _ _ _ _ (Option.some.inj h).symm rfl hZ dX2_sendAll_134
  · refine lv_iconst (v := (-1)) hx hb dX2_sendAll_118 (by decide) ?_
    exact hret _ _ _ _ _ _ (Option.some.inj h).symm rfl hZ dX2_sendAll_119
def b_X2_sendAll_88 (K30 : zM → Int32 → Option (Int32 × zM)) (o1 : Nat) (o2 : Nat) (M : zM) (x3 : Int32) (x5 : Int32) (x7 : Int32) : Option (Int32 × zM) :=
  zbn (f_X10_put M 47 x5 x7) (fun u_5 => znm (x5 + (-1)) (fun x5_6 => K30 u_5 x5_6))
set_option maxRecDepth 100000 in
set_option maxHeartbeats 4000000 in
theorem lb_X2_sendAll_88 (g : zG)  (o1 : Nat) (ho1 : xk o1 = 8) (o2 : Nat) (ho2 : xk o2 = 20) {r : Int32 × zM} (E : zX g p m c cX2_sendAll 9 s args (zWs yX2_sendAll cX2_sendAll 9 (some .int)) RX2) (hret : zRi g xE 125 p l e (zrm 8 0 0) s m args below meth c 0 0 Q cX2_sendAll .int (fun v M1 => r = (v, M1))) (M : zM) (x3 : Int32) (x5 : Int32) (x7 : Int32) (K30 : zM → Int32 → Option (Int32 × zM)) (hK30 : ∀ (M : zM) (x5 : Int32) (H : Heap) (locs : List Loc) (ls : Array Slot), K30 M x5 = some r → zS g xE 125 s H locs M → lv_has ls 9 [(0, .ref (g.2.2 45)), (1, .ref (g.2.2 o1)), (3, .int x3), (5, .int x5)] → W p l e (zrm 8 0 0) s m args below meth c H locs 0 0 Q (F0 m 30 ls [])) (H : Heap) (locs : List Loc) (ls : Array Slot) (h : b_X2_sendAll_88 K30 o1 o2 M x3 x5 x7 = some r) (hZ : zS g xE 125 s H locs M) (hl : lv_has ls 9 [(0, .ref (g.2.2 45)), (1, .ref (g.2.2 o1)), (3, .int x3), (5, .int x5), (7, .int x7)]) : W p l e (zrm 8 0 0) s m args below meth c H locs 0 0 Q (F0 m 88 ls []) := by
  have hx := E.1.1
  have hb := E.1.2.1
  unfold b_X2_sendAll_88 at h
  refine lv_aload_n hx hb dX2_sendAll_88 rfl (lv_at hl 0 rfl) ?_
  refine zg (v := .ref (g.2.2 47)) E hZ (xb_X2 xs_45) ((xe_X2 xs_45) _) kc_X2 2 (by decide) kw_312 rfl rfl dX2_sendAll_89 ?_
  refine lv_iload hx hb dX2_sendAll_92 (lv_at hl 3 rfl) ?_
  refine lv_iload hx hb dX2_sendAll_94 (lv_at hl 4 rfl) ?_
  obtain ⟨u_5, qu_5, h⟩ := zbn_some h
  refine zcvS (zrunSN E hZ v_X10_put kw_1178 (c_X10_put l g M 47 xs_47.1 x5 x7 qu_5 _) rfl hl.1 rfl (Nat.le_of_ble_eq_true rfl) ⟨by decide, by decide⟩ ⟨by decide, by decide⟩ dX2_sendAll_96) hZ (fun H locs hZ => ?_)
  obtain ⟨x5_6, ex5_6, h⟩ := znm_ex h
  refine lv_iinc (v := x5_6) (lv' := [(5, .int x5_6), (0, .ref (g.2.2 45)), (1, .ref (g.2.2 o1)), (3, .int x3), (7, .int x7)]) hx hb dX2_sendAll_99 hl (k := 3) rfl (by rw [ex5_6]; rfl) (by decide) rfl (fun ls hl => ?_)
  refine lv_goto (tgt := 30) hx hb dX2_sendAll_102 (by decide) ?_
  exact hK30 u_5 x5_6 H locs ls h hZ (lv_sub hl [1, 2, 3, 0] rfl)
def b_X2_sendAll_82 (K49 : Int32 → Int32 → Option (Int32 × zM)) (o1 : Nat) (o2 : Nat) (M : zM) (x3 : Int32) (x5 : Int32) (x6 : Int32) (x7 : Int32) (x8 : Int32) : Option (Int32 × zM) :=
  znm (x8 + 1) (fun x8_7 => K49 x7 x8_7)
set_option maxRecDepth 100000 in
set_option maxHeartbeats 4000000 in
theorem lb_X2_sendAll_82 (g : zG)  (o1 : Nat) (ho1 : xk o1 = 8) (o2 : Nat) (ho2 : xk o2 = 20) {r : Int32 × zM} (E : zX g p m c cX2_sendAll 9 s args (zWs yX2_sendAll cX2_sendAll 9 (some .int)) RX2) (hret : zRi g xE 125 p l e (zrm 8 0 0) s m args below meth c 0 0 Q cX2_sendAll .int (fun v M1 => r = (v, M1))) (M : zM) (x3 : Int32) (x5 : Int32) (x6 : Int32) (x7 : Int32) (x8 : Int32) (K49 : Int32 → Int32 → Option (Int32 × zM)) (hK49 : ∀ (x7 : Int32) (x8 : Int32) (H : Heap) (locs : List Loc) (ls : Array Slot), K49 x7 x8 = some r → zS g xE 125 s H locs M → lv_has ls 9 [(0, .ref (g.2.2 45)), (1, .ref (g.2.2 o1)), (3, .int x3), (5, .int x5), (6, .int x6), (7, .int x7), (8, .int x8)] → W p l e (zrm 8 0 0) s m args below meth c H locs 0 0 Q (F0 m 49 ls [])) (H : Heap) (locs : List Loc) (ls : Array Slot) (h : b_X2_sendAll_82 K49 o1 o2 M x3 x5 x6 x7 x8 = some r) (hZ : zS g xE 125 s H locs M) (hl : lv_has ls 9 [(0, .ref (g.2.2 45)), (1, .ref (g.2.2 o1)), (3, .int x3), (5, .int x5), (6, .int x6), (7, .int x7), (8, .int x8)]) : W p l e (zrm 8 0 0) s m args below meth c H locs 0 0 Q (F0 m 82 ls []) := by
  have hx := E.1.1
  have hb := E.1.2.1
  unfold b_X2_sendAll_82 at h
  obtain ⟨x8_7, ex8_7, h⟩ := znm_ex h
  refine lv_iinc (v := x8_7) (lv' := [(8, .int x8_7), (0, .ref (g.2.2 45)), (1, .ref (g.2.2 o1)), (3, .int x3), (5, .int x5), (6, .int x6), (7, .int x7)]) hx hb dX2_sendAll_82 hl (k := 6) rfl (by rw [ex8_7]; rfl) (by decide) rfl (fun ls hl => ?_)
  refine lv_goto (tgt := 49) hx hb dX2_sendAll_85 (by decide) ?_
  exact hK49 x7 x8_7 H locs ls h hZ (lv_sub hl [1, 2, 3, 4, 5, 6, 0] rfl)
def b_X2_sendAll_49 (K30 : zM → Int32 → Option (Int32 × zM)) (o1 : Nat) (o2 : Nat) (M : zM) (x3 : Int32) (x5 : Int32) (x6 : Int32) : Nat → Int32 → Int32 → Option (Int32 × zM)
  | 0, _, _ => none
  | n + 1, x7, x8 =>
    if x3 ≤ x8 then (b_X2_sendAll_88 K30 o1 o2 M x3 x5 x7) else (zbn (f_X10_has M x5 x8) (fun u_8 => if u_8 = 0 then (zbn (f_X2_hoursBy M x5 x6 x8) (fun u_9 => znm (if u_9 < x7 then u_9 else x7) (fun v_10 => b_X2_sendAll_82 (fun x7 x8 => b_X2_sendAll_49 K30 o1 o2 M x3 x5 x6 n x7 x8) o1 o2 M x3 x5 x6 v_10 x8))) else (b_X2_sendAll_82 (fun x7 x8 => b_X2_sendAll_49 K30 o1 o2 M x3 x5 x6 n x7 x8) o1 o2 M x3 x5 x6 x7 x8)))
set_option maxRecDepth 100000 in
set_option maxHeartbeats 4000000 in
theorem lb_X2_sendAll_49 (g : zG)  (o1 : Nat) (ho1 : xk o1 = 8) (o2 : Nat) (ho2 : xk o2 = 20) {r : Int32 × zM} (E : zX g p m c cX2_sendAll 9 s args (zWs yX2_sendAll cX2_sendAll 9 (some .int)) RX2) (hret : zRi g xE 125 p l e (zrm 8 0 0) s m args below meth c 0 0 Q cX2_sendAll .int (fun v M1 => r = (v, M1))) (M : zM) (x3 : Int32) (x5 : Int32) (x6 : Int32) (K30 : zM → Int32 → Option (Int32 × zM)) (hK30 : ∀ (M : zM) (x5 : Int32) (H : Heap) (locs : List Loc) (ls : Array Slot), K30 M x5 = some r → zS g xE 125 s H locs M → lv_has ls 9 [(0, .ref (g.2.2 45)), (1, .ref (g.2.2 o1)), (3, .int x3), (5, .int x5)] → W p l e (zrm 8 0 0) s m args below meth c H locs 0 0 Q (F0 m 30 ls [])) : ∀ (n : Nat) (x7 : Int32) (x8 : Int32) (H : Heap) (locs : List Loc) (ls : Array Slot), b_X2_sendAll_49 K30 o1 o2 M x3 x5 x6 n x7 x8 = some r → zS g xE 125 s H locs M → lv_has ls 9 [(0, .ref (g.2.2 45)), (1, .ref (g.2.2 o1)), (3, .int x3), (5, .int x5), (6, .int x6), (7, .int x7), (8, .int x8)] → W p l e (zrm 8 0 0) s m args below meth c H locs 0 0 Q (F0 m 49 ls []) := by
  have hx := E.1.1
  have hb := E.1.2.1
  intro n
  induction n with
  | zero => intro x7 x8 H locs ls h hZ hl; cases h
  | succ n ih =>
    intro x7 x8 H locs ls h hZ hl
    rw [b_X2_sendAll_49] at h
    refine lv_iload hx hb dX2_sendAll_49 (lv_at hl 6 rfl) ?_
    refine lv_iload_n hx hb dX2_sendAll_51 rfl (lv_at hl 2 rfl) ?_
    refine zic_ge (tgt := 88) h E dX2_sendAll_52 (by decide) (fun c_12 h => ?_) (fun c_12 h => ?_)
    · exact lb_X2_sendAll_88 g o1 ho1 o2 ho2 E hret M x3 x5 x7 K30 hK30 H locs ls h hZ (lv_sub hl [0, 1, 2, 3, 5] rfl)
    · refine lv_iload hx hb dX2_sendAll_55 (lv_at hl 3 rfl) ?_
      refine lv_iload hx hb dX2_sendAll_57 (lv_at hl 6 rfl) ?_
      obtain ⟨u_8, qu_8, h⟩ := zbn_some h
      refine zciR (zrunSN E hZ v_X10_has kw_1180 (c_X10_has l g M  x5 x8 qu_8 _) rfl hl.1 rfl (Nat.le_of_ble_eq_true rfl) ⟨by decide, by decide⟩ ⟨by decide, by decide⟩ dX2_sendAll_59) hZ (fun H locs hZ => ?_)
      refine zif_ne (tgt := 82) h E dX2_sendAll_62 (by decide) (fun c_11 h => ?_) (fun c_11 h => ?_)
      · exact lb_X2_sendAll_82 g o1 ho1 o2 ho2 E hret M x3 x5 x6 x7 x8 (fun x7 x8 => b_X2_sendAll_49 K30 o1 o2 M x3 x5 x6 n x7 x8) ih H locs ls h hZ (lv_sub hl [0, 1, 2, 3, 4, 5, 6] rfl)
      · refine lv_iload hx hb dX2_sendAll_65 (lv_at hl 5 rfl) ?_
        refine lv_aload_n hx hb dX2_sendAll_67 rfl (lv_at hl 0 rfl) ?_
        refine lv_iload hx hb dX2_sendAll_68 (lv_at hl 3 rfl) ?_
        refine lv_iload hx hb dX2_sendAll_70 (lv_at hl 4 rfl) ?_
        refine lv_iload hx hb dX2_sendAll_72 (lv_at hl 6 rfl) ?_
        obtain ⟨u_9, qu_9, h⟩ := zbn_some h
        refine zciR (zrunV E hZ (xb_X2 xs_45) ((xe_X2 xs_45) _) rfl rfl v_X2_hoursBy kw_1181 (c_X2_hoursBy l g M  x5 x6 x8 qu_9 _) rfl hl.1 rfl (Nat.le_of_ble_eq_true rfl) ⟨by decide, by decide⟩ ⟨by decide, by decide⟩ dX2_sendAll_74) hZ (fun H locs hZ => ?_)
        refine va_mmin hx hb (E.1.2.2.1.trans hl.1.symm) E.1.2.2.2.1 (E.w kw_1185) (E.w kw_540) (E.w kw_16) (E.w kw_541) (Nat.le_of_ble_eq_true rfl) (Nat.le_of_ble_eq_true rfl) (Nat.le_of_ble_eq_true rfl) (Nat.le_of_ble_eq_true rfl) dX2_sendAll_77 ?_
        refine zni h (fun v_10 ev_10 h => ?_)
        refine lv_istore (lv' := [(7, .int v_10), (0, .ref (g.2.2 45)), (1, .ref (g.2.2 o1)), (3, .int x3), (5, .int x5), (6, .int x6), (8, .int x8)]) hx hb dX2_sendAll_80 hl (by decide) rfl (fun ls hl => ?_)
        exact lb_X2_sendAll_82 g o1 ho1 o2 ho2 E hret M x3 x5 x6 v_10 x8 (fun x7 x8 => b_X2_sendAll_49 K30 o1 o2 M x3 x5 x6 n x7 x8) ih H locs ls h hZ (lv_sub hl [1, 2, 3, 4, 5, 0, 6] rfl)
def b_X2_sendAll_30  (o1 : Nat) (o2 : Nat) (x3 : Int32) : Nat → zM → Int32 → Option (Int32 × zM)
  | 0, _, _ => none
  | n + 1, M, x5 =>
    if x5 < 0 then (b_X2_sendAll_105  o1 o2 M x3) else (zbn (f_J6_bitCount_0f7a4 x5) (fun u_13 => b_X2_sendAll_49 (fun M x5 => b_X2_sendAll_30  o1 o2 x3 n M x5) o1 o2 M x3 x5 u_13 6000 100000 0))
set_option maxRecDepth 100000 in
set_option maxHeartbeats 4000000 in
theorem lb_X2_sendAll_30 (g : zG)  (o1 : Nat) (ho1 : xk o1 = 8) (o2 : Nat) (ho2 : xk o2 = 20) {r : Int32 × zM} (E : zX g p m c cX2_sendAll 9 s args (zWs yX2_sendAll cX2_sendAll 9 (some .int)) RX2) (hret : zRi g xE 125 p l e (zrm 8 0 0) s m args below meth c 0 0 Q cX2_sendAll .int (fun v M1 => r = (v, M1))) (x3 : Int32)  : ∀ (n : Nat) (M : zM) (x5 : Int32) (H : Heap) (locs : List Loc) (ls : Array Slot), b_X2_sendAll_30  o1 o2 x3 n M x5 = some r → zS g xE 125 s H locs M → lv_has ls 9 [(0, .ref (g.2.2 45)), (1, .ref (g.2.2 o1)), (3, .int x3), (5, .int x5)] → W p l e (zrm 8 0 0) s m args below meth c H locs 0 0 Q (F0 m 30 ls []) := by
  have hx := E.1.1
  have hb := E.1.2.1
  intro n
  induction n with
  | zero => intro M x5 H locs ls h hZ hl; cases h
  | succ n ih =>
    intro M x5 H locs ls h hZ hl
    rw [b_X2_sendAll_30] at h
    refine lv_iload hx hb dX2_sendAll_30 (lv_at hl 3 rfl) ?_
    refine zif_lt (tgt := 105) h E dX2_sendAll_32 (by decide) (fun c_14 h => ?_) (fun c_14 h => ?_)
    · exact lb_X2_sendAll_105 g o1 ho1 o2 ho2 E hret M x3  H locs ls h hZ (lv_sub hl [0, 1, 2] rfl)
    · refine lv_iload hx hb dX2_sendAll_35 (lv_at hl 3 rfl) ?_
      obtain ⟨u_13, qu_13, h⟩ := zbn_some h
      refine zciR (zrunS E hZ v_J6_bitCount_0f7a4 kw_1179 (c_J6_bitCount_0f7a4 l g xE 125 M  x5 qu_13 _) rfl hl.1 rfl (Nat.le_of_ble_eq_true rfl) ⟨by decide, by decide⟩ ⟨by decide, by decide⟩ dX2_sendAll_37) hZ (fun H locs hZ => ?_)
      refine lv_istore (lv' := [(6, .int u_13), (0, .ref (g.2.2 45)), (1, .ref (g.2.2 o1)), (3, .int x3), (5, .int x5)]) hx hb dX2_sendAll_40 hl (by decide) rfl (fun ls hl => ?_)
      refine lv_ldc (v := 100000) hx hb E.1.2.2.2.1 (E.w kw_1177) dX2_sendAll_42 ?_
      refine lv_istore (lv' := [(7, .int 100000), (6, .int u_13), (0, .ref (g.2.2 45)), (1, .ref (g.2.2 o1)), (3, .int x3), (5, .int x5)]) hx hb dX2_sendAll_44 hl (by decide) rfl (fun ls hl => ?_)
      refine lv_iconst (v := 0) hx hb dX2_sendAll_46 (by decide) ?_
      refine lv_istore (lv' := [(8, .int 0), (7, .int 100000), (6, .int u_13), (0, .ref (g.2.2 45)), (1, .ref (g.2.2 o1)), (3, .int x3), (5, .int x5)]) hx hb dX2_sendAll_47 hl (by decide) rfl (fun ls hl => ?_)
      exact lb_X2_sendAll_49 g o1 ho1 o2 ho2 E hret M x3 x5 u_13 (fun M x5 => b_X2_sendAll_30  o1 o2 x3 n M x5) ih 6000 100000 0 H locs ls h hZ (lv_sub hl [3, 4, 5, 6, 2, 1, 0] rfl)
def f_X2_sendAll (M : zM) (o1 : Nat) (o2 : Nat) (x3 : Int32) : Option (Int32 × zM) :=
  zbn (f_X2_measure M o1 o2 x3) (fun u_15 => znm (((1 : Int32) <<< (x3 &&& 31)) - 1) (fun x4_16 => zbn (f_X10_put u_15 47 x4_16 0) (fun u_17 => znm (x4_16 - 1) (fun x5_18 => b_X2_sendAll_30  o1 o2 x3 6000 u_17 x5_18))))
set_option maxRecDepth 100000 in
set_option maxHeartbeats 4000000 in
theorem w_X2_sendAll (g : zG)  (o1 : Nat) (ho1 : xk o1 = 8) (o2 : Nat) (ho2 : xk o2 = 20) {r : Int32 × zM} (E : zX g p m c cX2_sendAll 9 s args (zWs yX2_sendAll cX2_sendAll 9 (some .int)) RX2) (hret : zRi g xE 125 p l e (zrm 8 0 0) s m args below meth c 0 0 Q cX2_sendAll .int (fun v M1 => r = (v, M1))) (M : zM) (x3 : Int32) (H : Heap) (locs : List Loc) (ls : Array Slot) (h : f_X2_sendAll M o1 o2 x3 = some r) (hZ : zS g xE 125 s H locs M) (hl : lv_has ls 9 [(0, .ref (g.2.2 45)), (1, .ref (g.2.2 o1)), (2, .ref (g.2.2 o2)), (3, .int x3)]) : W p l e (zrm 8 0 0) s m args below meth c H locs 0 0 Q (F0 m 0 ls []) := by
  have hx := E.1.1
  have hb := E.1.2.1
  unfold f_X2_sendAll at h
  refine lv_aload_n hx hb dX2_sendAll_0 rfl (lv_at hl 0 rfl) ?_
  refine lv_aload_n hx hb dX2_sendAll_1 rfl (lv_at hl 1 rfl) ?_
  refine lv_aload_n hx hb dX2_sendAll_2 rfl (lv_at hl 2 rfl) ?_
  refine lv_iload_n hx hb dX2_sendAll_3 rfl (lv_at hl 3 rfl) ?_
  obtain ⟨u_15, qu_15, h⟩ := zbn_some h
  refine zcvS (zrunV E hZ (xb_X2 xs_45) ((xe_X2 xs_45) _) rfl rfl v_X2_measure kw_1169 (c_X2_measure l g M o1 ho1 o2 ho2 x3 qu_15 _) rfl hl.1 rfl (Nat.le_of_ble_eq_true rfl) ⟨by decide, by decide⟩ ⟨by decide, by decide⟩ dX2_sendAll_4) hZ (fun H locs hZ => ?_)
  refine lv_iconst (v := 1) hx hb dX2_sendAll_7 (by decide) ?_
  refine lv_iload_n hx hb dX2_sendAll_8 rfl (lv_at hl 3 rfl) ?_
  refine lv_ishl hx hb dX2_sendAll_9 ?_
  refine lv_iconst (v := 1) hx hb dX2_sendAll_10 (by decide) ?_
  refine lv_isub hx hb dX2_sendAll_11 ?_
  refine zni h (fun x4_16 ex4_16 h => ?_)
  refine lv_istore (lv' := [(4, .int x4_16), (0, .ref (g.2.2 45)), (1, .ref (g.2.2 o1)), (2, .ref (g.2.2 o2)), (3, .int x3)]) hx hb dX2_sendAll_12 hl (by decide) rfl (fun ls hl => ?_)
  refine lv_aload_n hx hb dX2_sendAll_14 rfl (lv_at hl 1 rfl) ?_
  refine zg (v := .ref (g.2.2 47)) E hZ (xb_X2 xs_45) ((xe_X2 xs_45) _) kc_X2 2 (by decide) kw_312 rfl rfl dX2_sendAll_15 ?_
  refine lv_iload hx hb dX2_sendAll_18 (lv_at hl 0 rfl) ?_
  refine lv_iconst (v := 0) hx hb dX2_sendAll_20 (by decide) ?_
  obtain ⟨u_17, qu_17, h⟩ := zbn_some h
  refine zcvS (zrunSN E hZ v_X10_put kw_1178 (c_X10_put l g u_15 47 xs_47.1 x4_16 0 qu_17 _) rfl hl.1 rfl (Nat.le_of_ble_eq_true rfl) ⟨by decide, by decide⟩ ⟨by decide, by decide⟩ dX2_sendAll_21) hZ (fun H locs hZ => ?_)
  refine lv_iload hx hb dX2_sendAll_24 (lv_at hl 0 rfl) ?_
  refine lv_iconst (v := 1) hx hb dX2_sendAll_26 (by decide) ?_
  refine lv_isub hx hb dX2_sendAll_27 ?_
  refine zni h (fun x5_18 ex5_18 h => ?_)
  refine lv_istore (lv' := [(5, .int x5_18), (4, .int x4_16), (0, .ref (g.2.2 45)), (1, .ref (g.2.2 o1)), (2, .ref (g.2.2 o2)), (3, .int x3)]) hx hb dX2_sendAll_28 hl (by decide) rfl (fun ls hl => ?_)
  exact lb_X2_sendAll_30 g o1 ho1 o2 ho2 E hret x3  6000 u_17 x5_18 H locs ls h hZ (lv_sub hl [2, 3, 5, 0] rfl)
theorem c_X2_sendAll (l : Launch) (g : zG) (M : zM) (o1 : Nat) (ho1 : xk o1 = 8) (o2 : Nat) (ho2 : xk o2 = 20) (x3 : Int32) {r : Int32 × zM} (h : f_X2_sendAll M o1 o2 x3 = some r) : zMi l g xE 125 yX2_sendAll (zWs yX2_sendAll cX2_sendAll 9 (some .int)) 8 [.ref (g.2.2 45), .ref (g.2.2 o1), .ref (g.2.2 o2), .int x3] M (fun v M1 => r = (v, M1)) :=
  zMi_of (by decide +kernel) (Nat.le_of_ble_eq_true rfl) (fun p e s m args below meth c Q ls E hret hZ hl => w_X2_sendAll g o1 ho1 o2 ho2 E hret M x3 _ _ ls h hZ hl)
theorem v_X2_sendAll : zYV yX2_sendAll cX2_sendAll 9 (some .int) 3 := ⟨kw_1168, kw_13, kw_1166, kw_1167, by decide +kernel⟩

def f_X2_sentTo (M : zM) (x1 : Int32) : Option (Int32) :=
  zbn (f_X10_at M 48 x1) (fun u_1 => some u_1)
set_option maxRecDepth 100000 in
set_option maxHeartbeats 4000000 in
theorem w_X2_sentTo (g : zG)  {r : Int32} {M0 : zM} (E : zX g p m c cX2_sentTo 2 s args (zWs yX2_sentTo cX2_sentTo 2 (some .int)) RX2) (hret : zRi g xE 125 p l e (zrm 3 0 0) s m args below meth c 0 0 Q cX2_sentTo .int (fun v M1 => v = r ∧ M1 = M0)) (M : zM) (hM : M = M0) (x1 : Int32) (H : Heap) (locs : List Loc) (ls : Array Slot) (h : f_X2_sentTo M x1 = some r) (hZ : zS g xE 125 s H locs M) (hl : lv_has ls 2 [(0, .ref (g.2.2 45)), (1, .int x1)]) : W p l e (zrm 3 0 0) s m args below meth c H locs 0 0 Q (F0 m 0 ls []) := by
  have hx := E.1.1
  have hb := E.1.2.1
  unfold f_X2_sentTo at h
  refine lv_aload_n hx hb dX2_sentTo_0 rfl (lv_at hl 0 rfl) ?_
  refine zg (v := .ref (g.2.2 48)) E hZ (xb_X2 xs_45) ((xe_X2 xs_45) _) kc_X2 3 (by decide) kw_313 rfl rfl dX2_sentTo_1 ?_
  refine lv_iload_n hx hb dX2_sentTo_4 rfl (lv_at hl 1 rfl) ?_
  obtain ⟨u_1, qu_1, h⟩ := zbn_some h
  refine zciR (zrunSN E hZ v_X10_at kw_1175 (c_X10_at l g M 48 xs_48.1 x1 qu_1 _) rfl hl.1 rfl (Nat.le_of_ble_eq_true rfl) ⟨by decide, by decide⟩ ⟨by decide, by decide⟩ dX2_sentTo_5) hZ (fun H locs hZ => ?_)
  exact hret _ _ _ _ _ _ ⟨Option.some.inj h, hM⟩ rfl hZ dX2_sentTo_8
theorem c_X2_sentTo (l : Launch) (g : zG) (M : zM)  (x1 : Int32) {r : Int32} (h : f_X2_sentTo M x1 = some r) : zMi l g xE 125 yX2_sentTo (zWs yX2_sentTo cX2_sentTo 2 (some .int)) 3 [.ref (g.2.2 45), .int x1] M (fun v M1 => v = r ∧ M1 = M) :=
  zMi_of (by decide +kernel) (Nat.le_of_ble_eq_true rfl) (fun p e s m args below meth c Q ls E hret hZ hl => w_X2_sentTo g  E hret M rfl x1 _ _ ls h hZ hl)
theorem v_X2_sentTo : zYV yX2_sentTo cX2_sentTo 2 (some .int) 1 := ⟨kw_1197, kw_13, kw_1195, kw_1196, by decide +kernel⟩

theorem v_X2_tryRows : zYV yX2_tryRows cX2_tryRows 11 none 6 := ⟨kw_1213, kw_13, kw_1212, kp_36, by decide +kernel⟩
def b_X2_tryRows_149 (R_X2_tryRows : zM → Nat → Int32 → Int32 → Int32 → Int32 → Int32 → Option (zM)) (K37 : zM → Int32 → Option (zM)) (o1 : Nat) (M : zM) (x2 : Int32) (x3 : Int32) (x4 : Int32) (x5 : Int32) (x6 : Int32) (x7 : Int32) : Option (zM) :=
  znm (x7 + 1) (fun x7_1 => K37 M x7_1)
set_option maxRecDepth 100000 in
set_option maxHeartbeats 4000000 in
theorem lb_X2_tryRows_149 (g : zG) (dn : Nat) (R_X2_tryRows : zM → Nat → Int32 → Int32 → Int32 → Int32 → Int32 → Option (zM)) (hR_X2_tryRows : ∀ (M : zM) (o1 : Nat) (ho1 : xk o1 = 8) (x2 : Int32) (x3 : Int32) (x4 : Int32) (x5 : Int32) (x6 : Int32) (r : zM), R_X2_tryRows M o1 x2 x3 x4 x5 x6 = some r → zMv l g xE 125 yX2_tryRows (zWs yX2_tryRows cX2_tryRows 11 none) dn [.ref (g.2.2 45), .ref (g.2.2 o1), .int x2, .int x3, .int x4, .int x5, .int x6] M (fun M1 => M1 = r))  (o1 : Nat) (ho1 : xk o1 = 8) {r : zM} (E : zX g p m c cX2_tryRows 11 s args (zWs yX2_tryRows cX2_tryRows 11 none) RX2) (hret : zRv g xE 125 p l e (zrm (dn + 9) 0 0) s m args below meth c 0 0 Q cX2_tryRows (fun M1 => M1 = r)) (M : zM) (x2 : Int32) (x3 : Int32) (x4 : Int32) (x5 : Int32) (x6 : Int32) (x7 : Int32) (K37 : zM → Int32 → Option (zM)) (hK37 : ∀ (M : zM) (x7 : Int32) (H : Heap) (locs : List Loc) (ls : Array Slot), K37 M x7 = some r → zS g xE 125 s H locs M → lv_has ls 11 [(0, .ref (g.2.2 45)), (1, .ref (g.2.2 o1)), (2, .int x2), (3, .int x3), (4, .int x4), (5, .int x5), (6, .int x6), (7, .int x7)] → W p l e (zrm (dn + 9) 0 0) s m args below meth c H locs 0 0 Q (F0 m 37 ls [])) (H : Heap) (locs : List Loc) (ls : Array Slot) (h : b_X2_tryRows_149 R_X2_tryRows K37 o1 M x2 x3 x4 x5 x6 x7 = some r) (hZ : zS g xE 125 s H locs M) (hl : lv_has ls 11 [(0, .ref (g.2.2 45)), (1, .ref (g.2.2 o1)), (2, .int x2), (3, .int x3), (4, .int x4), (5, .int x5), (6, .int x6), (7, .int x7)]) : W p l e (zrm (dn + 9) 0 0) s m args below meth c H locs 0 0 Q (F0 m 149 ls []) := by
  have hx := E.1.1
  have hb := E.1.2.1
  unfold b_X2_tryRows_149 at h
  obtain ⟨x7_1, ex7_1, h⟩ := znm_ex h
  refine lv_iinc (v := x7_1) (lv' := [(7, .int x7_1), (0, .ref (g.2.2 45)), (1, .ref (g.2.2 o1)), (2, .int x2), (3, .int x3), (4, .int x4), (5, .int x5), (6, .int x6)]) hx hb dX2_tryRows_149 hl (k := 7) rfl (by rw [ex7_1]; rfl) (by decide) rfl (fun ls hl => ?_)
  refine lv_goto (tgt := 37) hx hb dX2_tryRows_152 (by decide) ?_
  exact hK37 M x7_1 H locs ls h hZ (lv_sub hl [1, 2, 3, 4, 5, 6, 7, 0] rfl)
def b_X2_tryRows_37 (R_X2_tryRows : zM → Nat → Int32 → Int32 → Int32 → Int32 → Int32 → Option (zM))  (o1 : Nat) (x2 : Int32) (x3 : Int32) (x4 : Int32) (x5 : Int32) (x6 : Int32) : Nat → zM → Int32 → Option (zM)
  | 0, _, _ => none
  | n + 1, M, x7 =>
    if (M o1 11) ≤ x7 then (some M) else (zbn (f_X10_has M x5 x7) (fun u_2 => if u_2 = 0 then (zbn (f_X9_dutyCell M o1 x7 0) (fun u_3 => zbn (f_X8_fewestHours M o1 x3 u_3 x2 1 x4) (fun u_4 => zbn (f_X9_dutyCell M o1 x7 1) (fun u_5 => znm (if (x4 + u_4) < u_5 then u_5 else (x4 + u_4)) (fun v_6 => if u_4 = ((-1)) then (b_X2_tryRows_149 R_X2_tryRows (fun M x7 => b_X2_tryRows_37 R_X2_tryRows  o1 x2 x3 x4 x5 x6 n M x7) o1 M x2 x3 x4 x5 x6 x7) else (zbn (f_X9_dutyCell M o1 x7 2) (fun u_7 => if u_7 < v_6 then (b_X2_tryRows_149 R_X2_tryRows (fun M x7 => b_X2_tryRows_37 R_X2_tryRows  o1 x2 x3 x4 x5 x6 n M x7) o1 M x2 x3 x4 x5 x6 x7) else (zbn (f_X10_put M 49 x6 x7) (fun u_8 => zbn (R_X2_tryRows u_8 o1 x2 u_3 v_6 (x5 ||| ((1 : Int32) <<< (x7 &&& 31))) (x6 + 1)) (fun u_9 => b_X2_tryRows_149 R_X2_tryRows (fun M x7 => b_X2_tryRows_37 R_X2_tryRows  o1 x2 x3 x4 x5 x6 n M x7) o1 u_9 x2 x3 x4 x5 x6 x7)))))))))) else (b_X2_tryRows_149 R_X2_tryRows (fun M x7 => b_X2_tryRows_37 R_X2_tryRows  o1 x2 x3 x4 x5 x6 n M x7) o1 M x2 x3 x4 x5 x6 x7)))
set_option maxRecDepth 100000 in
set_option maxHeartbeats 4000000 in
theorem lb_X2_tryRows_37 (g : zG) (dn : Nat) (R_X2_tryRows : zM → Nat → Int32 → Int32 → Int32 → Int32 → Int32 → Option (zM)) (hR_X2_tryRows : ∀ (M : zM) (o1 : Nat) (ho1 : xk o1 = 8) (x2 : Int32) (x3 : Int32) (x4 : Int32) (x5 : Int32) (x6 : Int32) (r : zM), R_X2_tryRows M o1 x2 x3 x4 x5 x6 = some r → zMv l g xE 125 yX2_tryRows (zWs yX2_tryRows cX2_tryRows 11 none) dn [.ref (g.2.2 45), .ref (g.2.2 o1), .int x2, .int x3, .int x4, .int x5, .int x6] M (fun M1 => M1 = r))  (o1 : Nat) (ho1 : xk o1 = 8) {r : zM} (E : zX g p m c cX2_tryRows 11 s args (zWs yX2_tryRows cX2_tryRows 11 none) RX2) (hret : zRv g xE 125 p l e (zrm (dn + 9) 0 0) s m args below meth c 0 0 Q cX2_tryRows (fun M1 => M1 = r)) (x2 : Int32) (x3 : Int32) (x4 : Int32) (x5 : Int32) (x6 : Int32)  : ∀ (n : Nat) (M : zM) (x7 : Int32) (H : Heap) (locs : List Loc) (ls : Array Slot), b_X2_tryRows_37 R_X2_tryRows  o1 x2 x3 x4 x5 x6 n M x7 = some r → zS g xE 125 s H locs M → lv_has ls 11 [(0, .ref (g.2.2 45)), (1, .ref (g.2.2 o1)), (2, .int x2), (3, .int x3), (4, .int x4), (5, .int x5), (6, .int x6), (7, .int x7)] → W p l e (zrm (dn + 9) 0 0) s m args below meth c H locs 0 0 Q (F0 m 37 ls []) := by
  have hx := E.1.1
  have hb := E.1.2.1
  intro n
  induction n with
  | zero => intro M x7 H locs ls h hZ hl; cases h
  | succ n ih =>
    intro M x7 H locs ls h hZ hl
    rw [b_X2_tryRows_37] at h
    refine lv_iload hx hb dX2_tryRows_37 (lv_at hl 7 rfl) ?_
    refine lv_aload_n hx hb dX2_tryRows_39 rfl (lv_at hl 1 rfl) ?_
    refine zg (v := .int (M o1 11)) E hZ (xb_X9 ho1) ((xe_X9 ho1) _) kc_X9 11 (by decide) kw_100 rfl rfl dX2_tryRows_40 ?_
    refine zic_ge (tgt := 155) h E dX2_tryRows_43 (by decide) (fun c_13 h => ?_) (fun c_13 h => ?_)
    · exact hret _ _ _ _ _ (Option.some.inj h) hZ dX2_tryRows_155
    · refine lv_iload hx hb dX2_tryRows_46 (lv_at hl 5 rfl) ?_
      refine lv_iload hx hb dX2_tryRows_48 (lv_at hl 7 rfl) ?_
      obtain ⟨u_2, qu_2, h⟩ := zbn_some h
      refine zciR (zrunSN E hZ v_X10_has kw_1180 (c_X10_has l g M  x5 x7 qu_2 _) rfl hl.1 rfl (Nat.le_of_ble_eq_true rfl) ⟨by simp only [zrm]; omega, by simp only [zrm]; omega⟩ ⟨Nat.le_refl _, Nat.le_refl _⟩ dX2_tryRows_50) hZ (fun H locs hZ => ?_)
      refine zif_ne (tgt := 149) h E dX2_tryRows_53 (by decide) (fun c_12 h => ?_) (fun c_12 h => ?_)
      · exact lb_X2_tryRows_149 g dn R_X2_tryRows hR_X2_tryRows o1 ho1 E hret M x2 x3 x4 x5 x6 x7 (fun M x7 => b_X2_tryRows_37 R_X2_tryRows  o1 x2 x3 x4 x5 x6 n M x7) ih H locs ls h hZ (lv_sub hl [0, 1, 2, 3, 4, 5, 6, 7] rfl)
      · refine lv_aload_n hx hb dX2_tryRows_56 rfl (lv_at hl 1 rfl) ?_
        refine lv_iload hx hb dX2_tryRows_57 (lv_at hl 7 rfl) ?_
        refine lv_iconst (v := 0) hx hb dX2_tryRows_59 (by decide) ?_
        obtain ⟨u_3, qu_3, h⟩ := zbn_some h
        refine zciR (zrunV E hZ (xb_X9 ho1) ((xe_X9 ho1) _) rfl rfl v_X9_dutyCell kw_1215 (c_X9_dutyCell l g M o1 ho1 x7 0 qu_3 _) rfl hl.1 rfl (Nat.le_of_ble_eq_true rfl) ⟨by simp only [zrm]; omega, by simp only [zrm]; omega⟩ ⟨Nat.le_refl _, Nat.le_refl _⟩ dX2_tryRows_60) hZ (fun H locs hZ => ?_)
        refine lv_istore (lv' := [(8, .int u_3), (0, .ref (g.2.2 45)), (1, .ref (g.2.2 o1)), (2, .int x2), (3, .int x3), (4, .int x4), (5, .int x5), (6, .int x6), (7, .int x7)]) hx hb dX2_tryRows_63 hl (by decide) rfl (fun ls hl => ?_)
        refine lv_aload_n hx hb dX2_tryRows_65 rfl (lv_at hl 1 rfl) ?_
        refine zg (v := .ref (g.2.2 43)) E hZ (xb_X2 xs_45) ((xe_X2 xs_45) _) kc_X2 0 (by decide) kw_310 rfl rfl dX2_tryRows_66 ?_
        refine lv_aload_n hx hb dX2_tryRows_69 rfl (lv_at hl 2 rfl) ?_
        refine lv_iload_n hx hb dX2_tryRows_70 rfl (lv_at hl 4 rfl) ?_
        refine lv_iload hx hb dX2_tryRows_71 (lv_at hl 0 rfl) ?_
        refine lv_iload_n hx hb dX2_tryRows_73 rfl (lv_at hl 3 rfl) ?_
        refine lv_iconst (v := 1) hx hb dX2_tryRows_74 (by decide) ?_
        refine lv_iload hx hb dX2_tryRows_75 (lv_at hl 5 rfl) ?_
        obtain ⟨u_4, qu_4, h⟩ := zbn_some h
        refine zciR (zrunV E hZ (xb_X8 xs_43) ((xe_X8 xs_43) _) rfl rfl v_X8_fewestHours kw_1216 (c_X8_fewestHours l g M o1 ho1 x3 u_3 x2 1 x4 qu_4 _) rfl hl.1 rfl (Nat.le_of_ble_eq_true rfl) ⟨by simp only [zrm]; omega, by simp only [zrm]; omega⟩ ⟨Nat.le_refl _, Nat.le_refl _⟩ dX2_tryRows_77) hZ (fun H locs hZ => ?_)
        refine lv_istore (lv' := [(9, .int u_4), (8, .int u_3), (0, .ref (g.2.2 45)), (1, .ref (g.2.2 o1)), (2, .int x2), (3, .int x3), (4, .int x4), (5, .int x5), (6, .int x6), (7, .int x7)]) hx hb dX2_tryRows_80 hl (by decide) rfl (fun ls hl => ?_)
        refine lv_iload hx hb dX2_tryRows_82 (lv_at hl 6 rfl) ?_
        refine lv_iload hx hb dX2_tryRows_84 (lv_at hl 0 rfl) ?_
        refine lv_iadd hx hb dX2_tryRows_86 ?_
        refine lv_aload_n hx hb dX2_tryRows_87 rfl (lv_at hl 3 rfl) ?_
        refine lv_iload hx hb dX2_tryRows_88 (lv_at hl 9 rfl) ?_
        refine lv_iconst (v := 1) hx hb dX2_tryRows_90 (by decide) ?_
        obtain ⟨u_5, qu_5, h⟩ := zbn_some h
        refine zciR (zrunV E hZ (xb_X9 ho1) ((xe_X9 ho1) _) rfl rfl v_X9_dutyCell kw_1215 (c_X9_dutyCell l g M o1 ho1 x7 1 qu_5 _) rfl hl.1 rfl (Nat.le_of_ble_eq_true rfl) ⟨by simp only [zrm]; omega, by simp only [zrm]; omega⟩ ⟨Nat.le_refl _, Nat.le_refl _⟩ dX2_tryRows_91) hZ (fun H locs hZ => ?_)
        refine va_mmax hx hb (E.1.2.2.1.trans hl.1.symm) E.1.2.2.2.1 (E.w kw_1217) (E.w kw_453) (E.w kw_16) (E.w kw_454) (by simp only [zrm]; omega) (Nat.le_trans (m := 21) (Nat.le_of_ble_eq_true rfl) (by simp only [zrm]; omega)) (Nat.le_of_ble_eq_true rfl) (Nat.le_of_ble_eq_true rfl) dX2_tryRows_94 ?_
        refine zni h (fun v_6 ev_6 h => ?_)
        refine lv_istore (lv' := [(10, .int v_6), (9, .int u_4), (8, .int u_3), (0, .ref (g.2.2 45)), (1, .ref (g.2.2 o1)), (2, .int x2), (3, .int x3), (4, .int x4), (5, .int x5), (6, .int x6), (7, .int x7)]) hx hb dX2_tryRows_97 hl (by decide) rfl (fun ls hl => ?_)
        refine lv_iload hx hb dX2_tryRows_99 (lv_at hl 1 rfl) ?_
        refine lv_iconst (v := (-1)) hx hb dX2_tryRows_101 (by decide) ?_
        refine zic_eq (tgt := 149) h E dX2_tryRows_102 (by decide) (fun c_11 h => ?_) (fun c_11 h => ?_)
        · exact lb_X2_tryRows_149 g dn R_X2_tryRows hR_X2_tryRows o1 ho1 E hret M x2 x3 x4 x5 x6 x7 (fun M x7 => b_X2_tryRows_37 R_X2_tryRows  o1 x2 x3 x4 x5 x6 n M x7) ih H locs ls h hZ (lv_sub hl [3, 4, 5, 6, 7, 8, 9, 10] rfl)
        · refine lv_iload hx hb dX2_tryRows_105 (lv_at hl 0 rfl) ?_
          refine lv_aload_n hx hb dX2_tryRows_107 rfl (lv_at hl 4 rfl) ?_
          refine lv_iload hx hb dX2_tryRows_108 (lv_at hl 10 rfl) ?_
          refine lv_iconst (v := 2) hx hb dX2_tryRows_110 (by decide) ?_
          obtain ⟨u_7, qu_7, h⟩ := zbn_some h
          refine zciR (zrunV E hZ (xb_X9 ho1) ((xe_X9 ho1) _) rfl rfl v_X9_dutyCell kw_1215 (c_X9_dutyCell l g M o1 ho1 x7 2 qu_7 _) rfl hl.1 rfl (Nat.le_of_ble_eq_true rfl) ⟨by simp only [zrm]; omega, by simp only [zrm]; omega⟩ ⟨Nat.le_refl _, Nat.le_refl _⟩ dX2_tryRows_111) hZ (fun H locs hZ => ?_)
          refine zic_gt (tgt := 149) h E dX2_tryRows_114 (by decide) (fun c_10 h => ?_) (fun c_10 h => ?_)
          · exact lb_X2_tryRows_149 g dn R_X2_tryRows hR_X2_tryRows o1 ho1 E hret M x2 x3 x4 x5 x6 x7 (fun M x7 => b_X2_tryRows_37 R_X2_tryRows  o1 x2 x3 x4 x5 x6 n M x7) ih H locs ls h hZ (lv_sub hl [3, 4, 5, 6, 7, 8, 9, 10] rfl)
          · refine lv_aload_n hx hb dX2_tryRows_117 rfl (lv_at hl 3 rfl) ?_
            refine zg (v := .ref (g.2.2 49)) E hZ (xb_X2 xs_45) ((xe_X2 xs_45) _) kc_X2 4 (by decide) kw_314 rfl rfl dX2_tryRows_118 ?_
            refine lv_iload hx hb dX2_tryRows_121 (lv_at hl 9 rfl) ?_
            refine lv_iload hx hb dX2_tryRows_123 (lv_at hl 10 rfl) ?_
            obtain ⟨u_8, qu_8, h⟩ := zbn_some h
            refine zcvS (zrunSN E hZ v_X10_put kw_1178 (c_X10_put l g M 49 xs_49.1 x6 x7 qu_8 _) rfl hl.1 rfl (Nat.le_of_ble_eq_true rfl) ⟨by simp only [zrm]; omega, by simp only [zrm]; omega⟩ ⟨Nat.le_refl _, Nat.le_refl _⟩ dX2_tryRows_125) hZ (fun H locs hZ => ?_)
            refine lv_aload_n hx hb dX2_tryRows_128 rfl (lv_at hl 3 rfl) ?_
            refine lv_aload_n hx hb dX2_tryRows_129 rfl (lv_at hl 4 rfl) ?_
            refine lv_iload_n hx hb dX2_tryRows_130 rfl (lv_at hl 5 rfl) ?_
            refine lv_iload hx hb dX2_tryRows_131 (lv_at hl 2 rfl) ?_
            refine lv_iload hx hb dX2_tryRows_133 (lv_at hl 0 rfl) ?_
            refine lv_iload hx hb dX2_tryRows_135 (lv_at hl 8 rfl) ?_
            refine lv_iconst (v := 1) hx hb dX2_tryRows_137 (by decide) ?_
            refine lv_iload hx hb dX2_tryRows_138 (lv_at hl 10 rfl) ?_
            refine lv_ishl hx hb dX2_tryRows_140 ?_
            refine lv_ior hx hb dX2_tryRows_141 ?_
            refine lv_iload hx hb dX2_tryRows_142 (lv_at hl 9 rfl) ?_
            refine lv_iconst (v := 1) hx hb dX2_tryRows_144 (by decide) ?_
            refine lv_iadd hx hb dX2_tryRows_145 ?_
            obtain ⟨u_9, qu_9, h⟩ := zbn_some h
            refine zcvS (zrunV E hZ (xb_X2 xs_45) ((xe_X2 xs_45) _) rfl rfl v_X2_tryRows kw_1210 (hR_X2_tryRows u_8 o1 ho1 x2 u_3 v_6 (x5 ||| ((1 : Int32) <<< (x7 &&& 31))) (x6 + 1) _ qu_9 _) rfl hl.1 rfl (Nat.le_of_ble_eq_true rfl) ⟨by simp only [zrm]; omega, by simp only [zrm]; omega⟩ ⟨Nat.le_refl _, Nat.le_refl _⟩ dX2_tryRows_146) hZ (fun H locs hZ => ?_)
            exact lb_X2_tryRows_149 g dn R_X2_tryRows hR_X2_tryRows o1 ho1 E hret u_9 x2 x3 x4 x5 x6 x7 (fun M x7 => b_X2_tryRows_37 R_X2_tryRows  o1 x2 x3 x4 x5 x6 n M x7) ih H locs ls h hZ (lv_sub hl [3, 4, 5, 6, 7, 8, 9, 10] rfl)
def b_X2_tryRows_26 (R_X2_tryRows : zM → Nat → Int32 → Int32 → Int32 → Int32 → Int32 → Option (zM))  (o1 : Nat) (M : zM) (x2 : Int32) (x3 : Int32) (x4 : Int32) (x5 : Int32) (x6 : Int32) : Option (zM) :=
  if x6 < 6 then (b_X2_tryRows_37 R_X2_tryRows  o1 x2 x3 x4 x5 x6 6000 M 0) else (some M)
set_option maxRecDepth 100000 in
set_option maxHeartbeats 4000000 in
theorem lb_X2_tryRows_26 (g : zG) (dn : Nat) (R_X2_tryRows : zM → Nat → Int32 → Int32 → Int32 → Int32 → Int32 → Option (zM)) (hR_X2_tryRows : ∀ (M : zM) (o1 : Nat) (ho1 : xk o1 = 8) (x2 : Int32) (x3 : Int32) (x4 : Int32) (x5 : Int32) (x6 : Int32) (r : zM), R_X2_tryRows M o1 x2 x3 x4 x5 x6 = some r → zMv l g xE 125 yX2_tryRows (zWs yX2_tryRows cX2_tryRows 11 none) dn [.ref (g.2.2 45), .ref (g.2.2 o1), .int x2, .int x3, .int x4, .int x5, .int x6] M (fun M1 => M1 = r))  (o1 : Nat) (ho1 : xk o1 = 8) {r : zM} (E : zX g p m c cX2_tryRows 11 s args (zWs yX2_tryRows cX2_tryRows 11 none) RX2) (hret : zRv g xE 125 p l e (zrm (dn + 9) 0 0) s m args below meth c 0 0 Q cX2_tryRows (fun M1 => M1 = r)) (M : zM) (x2 : Int32) (x3 : Int32) (x4 : Int32) (x5 : Int32) (x6 : Int32)  (H : Heap) (locs : List Loc) (ls : Array Slot) (h : b_X2_tryRows_26 R_X2_tryRows  o1 M x2 x3 x4 x5 x6 = some r) (hZ : zS g xE 125 s H locs M) (hl : lv_has ls 11 [(0, .ref (g.2.2 45)), (1, .ref (g.2.2 o1)), (2, .int x2), (3, .int x3), (4, .int x4), (5, .int x5), (6, .int x6)]) : W p l e (zrm (dn + 9) 0 0) s m args below meth c H locs 0 0 Q (F0 m 26 ls []) := by
  have hx := E.1.1
  have hb := E.1.2.1
  unfold b_X2_tryRows_26 at h
  refine lv_iload hx hb dX2_tryRows_26 (lv_at hl 6 rfl) ?_
  refine lv_bipush (v := 6) hx hb dX2_tryRows_28 (by decide) ?_
  refine zic_lt (tgt := 34) h E dX2_tryRows_30 (by decide) (fun c_14 h => ?_) (fun c_14 h => ?_)
  · refine lv_iconst (v := 0) hx hb dX2_tryRows_34 (by decide) ?_
    refine lv_istore (lv' := [(7, .int 0), (0, .ref (g.2.2 45)), (1, .ref (g.2.2 o1)), (2, .int x2), (3, .int x3), (4, .int x4), (5, .int x5), (6, .int x6)]) hx hb dX2_tryRows_35 hl (by decide) rfl (fun ls hl => ?_)
    exact lb_X2_tryRows_37 g dn R_X2_tryRows hR_X2_tryRows o1 ho1 E hret x2 x3 x4 x5 x6  6000 M 0 H locs ls h hZ (lv_sub hl [1, 2, 3, 4, 5, 6, 7, 0] rfl)
  · exact hret _ _ _ _ _ (Option.some.inj h) hZ dX2_tryRows_33
def g_X2_tryRows (R_X2_tryRows : zM → Nat → Int32 → Int32 → Int32 → Int32 → Int32 → Option (zM)) (M : zM) (o1 : Nat) (x2 : Int32) (x3 : Int32) (x4 : Int32) (x5 : Int32) (x6 : Int32) : Option (zM) :=
  if x6 ≤ (M 45 6) then (b_X2_tryRows_26 R_X2_tryRows  o1 M x2 x3 x4 x5 x6) else (znm (zu M 45 6 x6) (fun M_15 => zbn (f_X10_copyRow M_15 49 50) (fun u_16 => b_X2_tryRows_26 R_X2_tryRows  o1 u_16 x2 x3 x4 x5 x6)))
set_option maxRecDepth 100000 in
set_option maxHeartbeats 4000000 in
theorem w_X2_tryRows (g : zG) (dn : Nat) (R_X2_tryRows : zM → Nat → Int32 → Int32 → Int32 → Int32 → Int32 → Option (zM)) (hR_X2_tryRows : ∀ (M : zM) (o1 : Nat) (ho1 : xk o1 = 8) (x2 : Int32) (x3 : Int32) (x4 : Int32) (x5 : Int32) (x6 : Int32) (r : zM), R_X2_tryRows M o1 x2 x3 x4 x5 x6 = some r → zMv l g xE 125 yX2_tryRows (zWs yX2_tryRows cX2_tryRows 11 none) dn [.ref (g.2.2 45), .ref (g.2.2 o1), .int x2, .int x3, .int x4, .int x5, .int x6] M (fun M1 => M1 = r))  (o1 : Nat) (ho1 : xk o1 = 8) {r : zM} (E : zX g p m c cX2_tryRows 11 s args (zWs yX2_tryRows cX2_tryRows 11 none) RX2) (hret : zRv g xE 125 p l e (zrm (dn + 9) 0 0) s m args below meth c 0 0 Q cX2_tryRows (fun M1 => M1 = r)) (M : zM) (x2 : Int32) (x3 : Int32) (x4 : Int32) (x5 : Int32) (x6 : Int32) (H : Heap) (locs : List Loc) (ls : Array Slot) (h : g_X2_tryRows R_X2_tryRows M o1 x2 x3 x4 x5 x6 = some r) (hZ : zS g xE 125 s H locs M) (hl : lv_has ls 11 [(0, .ref (g.2.2 45)), (1, .ref (g.2.2 o1)), (2, .int x2), (3, .int x3), (4, .int x4), (5, .int x5), (6, .int x6)]) : W p l e (zrm (dn + 9) 0 0) s m args below meth c H locs 0 0 Q (F0 m 0 ls []) := by
  have hx := E.1.1
  have hb := E.1.2.1
  unfold g_X2_tryRows at h
  refine lv_iload hx hb dX2_tryRows_0 (lv_at hl 6 rfl) ?_
  refine lv_aload_n hx hb dX2_tryRows_2 rfl (lv_at hl 0 rfl) ?_
  refine zg (v := .int (M 45 6)) E hZ (xb_X2 xs_45) ((xe_X2 xs_45) _) kc_X2 6 (by decide) kw_316 rfl rfl dX2_tryRows_3 ?_
  refine zic_le (tgt := 26) h E dX2_tryRows_6 (by decide) (fun c_17 h => ?_) (fun c_17 h => ?_)
  · exact lb_X2_tryRows_26 g dn R_X2_tryRows hR_X2_tryRows o1 ho1 E hret M x2 x3 x4 x5 x6  H locs ls h hZ (lv_sub hl [0, 1, 2, 3, 4, 5, 6] rfl)
  · refine lv_aload_n hx hb dX2_tryRows_9 rfl (lv_at hl 0 rfl) ?_
    refine lv_iload hx hb dX2_tryRows_10 (lv_at hl 6 rfl) ?_
    refine zp h E hZ (xb_X2 xs_45) ((xe_X2 xs_45) _) (((xe_X2 xs_45) _).trans (congrArg (fun z => Sum.inr (1, z)) (fs_X2_6 g _ _ _))) kc_X2 (by decide) kw_316 rfl rfl rfl (Nat.le_of_ble_eq_true rfl) dX2_tryRows_12 (fun M_15 H locs eM_15 h hZ => ?_)
    refine lv_aload_n hx hb dX2_tryRows_15 rfl (lv_at hl 0 rfl) ?_
    refine zg (v := .ref (g.2.2 49)) E hZ (xb_X2 xs_45) ((xe_X2 xs_45) _) kc_X2 4 (by decide) kw_314 rfl rfl dX2_tryRows_16 ?_
    refine lv_aload_n hx hb dX2_tryRows_19 rfl (lv_at hl 0 rfl) ?_
    refine zg (v := .ref (g.2.2 50)) E hZ (xb_X2 xs_45) ((xe_X2 xs_45) _) kc_X2 5 (by decide) kw_315 rfl rfl dX2_tryRows_20 ?_
    obtain ⟨u_16, qu_16, h⟩ := zbn_some h
    refine zcvS (zrunSN E hZ v_X10_copyRow kw_1214 (c_X10_copyRow l g M_15 49 xs_49.1 50 xs_50.1  qu_16 _) rfl hl.1 rfl (Nat.le_of_ble_eq_true rfl) ⟨by simp only [zrm]; omega, by simp only [zrm]; omega⟩ ⟨Nat.le_refl _, Nat.le_refl _⟩ dX2_tryRows_23) hZ (fun H locs hZ => ?_)
    exact lb_X2_tryRows_26 g dn R_X2_tryRows hR_X2_tryRows o1 ho1 E hret u_16 x2 x3 x4 x5 x6  H locs ls h hZ (lv_sub hl [0, 1, 2, 3, 4, 5, 6] rfl)
theorem oc_X2_tryRows (l : Launch) (g : zG) (dn : Nat) (R_X2_tryRows : zM → Nat → Int32 → Int32 → Int32 → Int32 → Int32 → Option (zM)) (hR_X2_tryRows : ∀ (M : zM) (o1 : Nat) (ho1 : xk o1 = 8) (x2 : Int32) (x3 : Int32) (x4 : Int32) (x5 : Int32) (x6 : Int32) (r : zM), R_X2_tryRows M o1 x2 x3 x4 x5 x6 = some r → zMv l g xE 125 yX2_tryRows (zWs yX2_tryRows cX2_tryRows 11 none) dn [.ref (g.2.2 45), .ref (g.2.2 o1), .int x2, .int x3, .int x4, .int x5, .int x6] M (fun M1 => M1 = r)) (M : zM) (o1 : Nat) (ho1 : xk o1 = 8) (x2 : Int32) (x3 : Int32) (x4 : Int32) (x5 : Int32) (x6 : Int32) {r : zM} (h : g_X2_tryRows R_X2_tryRows M o1 x2 x3 x4 x5 x6 = some r) : zMv l g xE 125 yX2_tryRows (zWs yX2_tryRows cX2_tryRows 11 none) (dn + 9) [.ref (g.2.2 45), .ref (g.2.2 o1), .int x2, .int x3, .int x4, .int x5, .int x6] M (fun M1 => M1 = r) :=
  zMv_of (by decide +kernel) (Nat.le_of_ble_eq_true rfl) (fun p e s m args below meth c Q ls E hret hZ hl => w_X2_tryRows g dn R_X2_tryRows hR_X2_tryRows o1 ho1 E hret M x2 x3 x4 x5 x6 _ _ ls h hZ hl)
def fr_X2 : Nat → (zM → Nat → Int32 → Int32 → Int32 → Int32 → Int32 → Option (zM))
  | 0 => (fun _ _ _ _ _ _ _ => none)
  | n + 1 => (g_X2_tryRows (fr_X2 n))
def f_X2_tryRows (M : zM) (o1 : Nat) (x2 : Int32) (x3 : Int32) (x4 : Int32) (x5 : Int32) (x6 : Int32) : Option (zM) := (fr_X2 9) M o1 x2 x3 x4 x5 x6
theorem cr_X2 (l : Launch) (g : zG) : ∀ n : Nat, (∀ (M : zM) (o1 : Nat) (ho1 : xk o1 = 8) (x2 : Int32) (x3 : Int32) (x4 : Int32) (x5 : Int32) (x6 : Int32) (r : zM), (fr_X2 n) M o1 x2 x3 x4 x5 x6 = some r → zMv l g xE 125 yX2_tryRows (zWs yX2_tryRows cX2_tryRows 11 none) (9 * n) [.ref (g.2.2 45), .ref (g.2.2 o1), .int x2, .int x3, .int x4, .int x5, .int x6] M (fun M1 => M1 = r)) := by
  intro n
  induction n with
  | zero => exact by intros; rename_i h; cases h
  | succ n ih =>
    have h0 := ih
    exact fun M o1 ho1 x2 x3 x4 x5 x6 r h => oc_X2_tryRows l g (9 * n) _ h0 M o1 ho1 x2 x3 x4 x5 x6 h
theorem c_X2_tryRows (l : Launch) (g : zG) (M : zM) (o1 : Nat) (ho1 : xk o1 = 8) (x2 : Int32) (x3 : Int32) (x4 : Int32) (x5 : Int32) (x6 : Int32) {r : zM} (h : f_X2_tryRows M o1 x2 x3 x4 x5 x6 = some r) : zMv l g xE 125 yX2_tryRows (zWs yX2_tryRows cX2_tryRows 11 none) 81 [.ref (g.2.2 45), .ref (g.2.2 o1), .int x2, .int x3, .int x4, .int x5, .int x6] M (fun M1 => M1 = r) := (cr_X2 l g 9) M o1 ho1 x2 x3 x4 x5 x6 _ h

def f_X2_keepMost (M : zM) (o1 : Nat) (x2 : Int32) : Option (Int32 × zM) :=
  zbn (f_X8_look M o1) (fun u_1 => znm (zu u_1 45 6 0) (fun M_2 => zbn (f_X9_monkCell M_2 o1 x2 0) (fun u_3 => zbn (f_X9_monkCell M_2 o1 x2 2) (fun u_4 => zbn (f_X2_tryRows M_2 o1 u_4 u_3 (M_2 o1 0) (M_2 o1 13) 0) (fun u_5 => some (u_5 45 6, u_5))))))
set_option maxRecDepth 100000 in
set_option maxHeartbeats 4000000 in
theorem w_X2_keepMost (g : zG)  (o1 : Nat) (ho1 : xk o1 = 8) {r : Int32 × zM} (E : zX g p m c cX2_keepMost 4 s args (zWs yX2_keepMost cX2_keepMost 4 (some .int)) RX2) (hret : zRi g xE 125 p l e (zrm 82 0 0) s m args below meth c 0 0 Q cX2_keepMost .int (fun v M1 => r = (v, M1))) (M : zM) (x2 : Int32) (H : Heap) (locs : List Loc) (ls : Array Slot) (h : f_X2_keepMost M o1 x2 = some r) (hZ : zS g xE 125 s H locs M) (hl : lv_has ls 4 [(0, .ref (g.2.2 45)), (1, .ref (g.2.2 o1)), (2, .int x2)]) : W p l e (zrm 82 0 0) s m args below meth c H locs 0 0 Q (F0 m 0 ls []) := by
  have hx := E.1.1
  have hb := E.1.2.1
  unfold f_X2_keepMost at h
  refine lv_aload_n hx hb dX2_keepMost_0 rfl (lv_at hl 0 rfl) ?_
  refine zg (v := .ref (g.2.2 43)) E hZ (xb_X2 xs_45) ((xe_X2 xs_45) _) kc_X2 0 (by decide) kw_310 rfl rfl dX2_keepMost_1 ?_
  refine lv_aload_n hx hb dX2_keepMost_4 rfl (lv_at hl 1 rfl) ?_
  obtain ⟨u_1, qu_1, h⟩ := zbn_some h
  refine zcvS (zrunV E hZ (xb_X8 xs_43) ((xe_X8 xs_43) _) rfl rfl v_X8_look kw_1173 (c_X8_look l g M o1 ho1  qu_1 _) rfl hl.1 rfl (Nat.le_of_ble_eq_true rfl) ⟨by decide, by decide⟩ ⟨by decide, by decide⟩ dX2_keepMost_5) hZ (fun H locs hZ => ?_)
  refine lv_aload_n hx hb dX2_keepMost_8 rfl (lv_at hl 0 rfl) ?_
  refine lv_iconst (v := 0) hx hb dX2_keepMost_9 (by decide) ?_
  refine zp h E hZ (xb_X2 xs_45) ((xe_X2 xs_45) _) (((xe_X2 xs_45) _).trans (congrArg (fun z => Sum.inr (1, z)) (fs_X2_6 g _ _ _))) kc_X2 (by decide) kw_316 rfl rfl rfl (Nat.le_of_ble_eq_true rfl) dX2_keepMost_10 (fun M_2 H locs eM_2 h hZ => ?_)
  refine lv_aload_n hx hb dX2_keepMost_13 rfl (lv_at hl 1 rfl) ?_
  refine lv_iload_n hx hb dX2_keepMost_14 rfl (lv_at hl 2 rfl) ?_
  refine lv_iconst (v := 0) hx hb dX2_keepMost_15 (by decide) ?_
  obtain ⟨u_3, qu_3, h⟩ := zbn_some h
  refine zciR (zrunV E hZ (xb_X9 ho1) ((xe_X9 ho1) _) rfl rfl v_X9_monkCell kw_1209 (c_X9_monkCell l g M_2 o1 ho1 x2 0 qu_3 _) rfl hl.1 rfl (Nat.le_of_ble_eq_true rfl) ⟨by decide, by decide⟩ ⟨by decide, by decide⟩ dX2_keepMost_16) hZ (fun H locs hZ => ?_)
  refine lv_istore_n (lv' := [(3, .int u_3), (0, .ref (g.2.2 45)), (1, .ref (g.2.2 o1)), (2, .int x2)]) hx hb dX2_keepMost_19 rfl hl (by decide) rfl (fun ls hl => ?_)
  refine lv_aload_n hx hb dX2_keepMost_20 rfl (lv_at hl 1 rfl) ?_
  refine lv_aload_n hx hb dX2_keepMost_21 rfl (lv_at hl 2 rfl) ?_
  refine lv_aload_n hx hb dX2_keepMost_22 rfl (lv_at hl 2 rfl) ?_
  refine lv_iload_n hx hb dX2_keepMost_23 rfl (lv_at hl 3 rfl) ?_
  refine lv_iconst (v := 2) hx hb dX2_keepMost_24 (by decide) ?_
  obtain ⟨u_4, qu_4, h⟩ := zbn_some h
  refine zciR (zrunV E hZ (xb_X9 ho1) ((xe_X9 ho1) _) rfl rfl v_X9_monkCell kw_1209 (c_X9_monkCell l g M_2 o1 ho1 x2 2 qu_4 _) rfl hl.1 rfl (Nat.le_of_ble_eq_true rfl) ⟨by decide, by decide⟩ ⟨by decide, by decide⟩ dX2_keepMost_25) hZ (fun H locs hZ => ?_)
  refine lv_iload_n hx hb dX2_keepMost_28 rfl (lv_at hl 0 rfl) ?_
  refine lv_aload_n hx hb dX2_keepMost_29 rfl (lv_at hl 2 rfl) ?_
  refine zg (v := .int (M_2 o1 0)) E hZ (xb_X9 ho1) ((xe_X9 ho1) _) kc_X9 0 (by decide) kw_64 rfl rfl dX2_keepMost_30 ?_
  refine lv_aload_n hx hb dX2_keepMost_33 rfl (lv_at hl 2 rfl) ?_
  refine zg (v := .int (M_2 o1 13)) E hZ (xb_X9 ho1) ((xe_X9 ho1) _) kc_X9 13 (by decide) kw_107 rfl rfl dX2_keepMost_34 ?_
  refine lv_iconst (v := 0) hx hb dX2_keepMost_37 (by decide) ?_
  obtain ⟨u_5, qu_5, h⟩ := zbn_some h
  refine zcvS (zrunV E hZ (xb_X2 xs_45) ((xe_X2 xs_45) _) rfl rfl v_X2_tryRows kw_1210 (c_X2_tryRows l g M_2 o1 ho1 u_4 u_3 (M_2 o1 0) (M_2 o1 13) 0 qu_5 _) rfl hl.1 rfl (Nat.le_of_ble_eq_true rfl) ⟨by decide, by decide⟩ ⟨by decide, by decide⟩ dX2_keepMost_38) hZ (fun H locs hZ => ?_)
  refine lv_aload_n hx hb dX2_keepMost_41 rfl (lv_at hl 1 rfl) ?_
  refine zg (v := .int (u_5 45 6)) E hZ (xb_X2 xs_45) ((xe_X2 xs_45) _) kc_X2 6 (by decide) kw_316 rfl rfl dX2_keepMost_42 ?_
  exact hret _ _ _ _ _ _ (Option.some.inj h).symm rfl hZ dX2_keepMost_45
theorem c_X2_keepMost (l : Launch) (g : zG) (M : zM) (o1 : Nat) (ho1 : xk o1 = 8) (x2 : Int32) {r : Int32 × zM} (h : f_X2_keepMost M o1 x2 = some r) : zMi l g xE 125 yX2_keepMost (zWs yX2_keepMost cX2_keepMost 4 (some .int)) 82 [.ref (g.2.2 45), .ref (g.2.2 o1), .int x2] M (fun v M1 => r = (v, M1)) :=
  zMi_of (by decide +kernel) (Nat.le_of_ble_eq_true rfl) (fun p e s m args below meth c Q ls E hret hZ hl => w_X2_keepMost g o1 ho1 E hret M x2 _ _ ls h hZ hl)
theorem v_X2_keepMost : zYV yX2_keepMost cX2_keepMost 4 (some .int) 2 := ⟨kw_1208, kw_13, kw_1206, kw_1207, by decide +kernel⟩

def f_X2_keptAs (M : zM) (x1 : Int32) : Option (Int32) :=
  zbn (f_X10_at M 50 x1) (fun u_1 => some u_1)
set_option maxRecDepth 100000 in
set_option maxHeartbeats 4000000 in
theorem w_X2_keptAs (g : zG)  {r : Int32} {M0 : zM} (E : zX g p m c cX2_keptAs 2 s args (zWs yX2_keptAs cX2_keptAs 2 (some .int)) RX2) (hret : zRi g xE 125 p l e (zrm 3 0 0) s m args below meth c 0 0 Q cX2_keptAs .int (fun v M1 => v = r ∧ M1 = M0)) (M : zM) (hM : M = M0) (x1 : Int32) (H : Heap) (locs : List Loc) (ls : Array Slot) (h : f_X2_keptAs M x1 = some r) (hZ : zS g xE 125 s H locs M) (hl : lv_has ls 2 [(0, .ref (g.2.2 45)), (1, .int x1)]) : W p l e (zrm 3 0 0) s m args below meth c H locs 0 0 Q (F0 m 0 ls []) := by
  have hx := E.1.1
  have hb := E.1.2.1
  unfold f_X2_keptAs at h
  refine lv_aload_n hx hb dX2_keptAs_0 rfl (lv_at hl 0 rfl) ?_
  refine zg (v := .ref (g.2.2 50)) E hZ (xb_X2 xs_45) ((xe_X2 xs_45) _) kc_X2 5 (by decide) kw_315 rfl rfl dX2_keptAs_1 ?_
  refine lv_iload_n hx hb dX2_keptAs_4 rfl (lv_at hl 1 rfl) ?_
  obtain ⟨u_1, qu_1, h⟩ := zbn_some h
  refine zciR (zrunSN E hZ v_X10_at kw_1175 (c_X10_at l g M 50 xs_50.1 x1 qu_1 _) rfl hl.1 rfl (Nat.le_of_ble_eq_true rfl) ⟨by decide, by decide⟩ ⟨by decide, by decide⟩ dX2_keptAs_5) hZ (fun H locs hZ => ?_)
  exact hret _ _ _ _ _ _ ⟨Option.some.inj h, hM⟩ rfl hZ dX2_keptAs_8
theorem c_X2_keptAs (l : Launch) (g : zG) (M : zM)  (x1 : Int32) {r : Int32} (h : f_X2_keptAs M x1 = some r) : zMi l g xE 125 yX2_keptAs (zWs yX2_keptAs cX2_keptAs 2 (some .int)) 3 [.ref (g.2.2 45), .int x1] M (fun v M1 => v = r ∧ M1 = M) :=
  zMi_of (by decide +kernel) (Nat.le_of_ble_eq_true rfl) (fun p e s m args below meth c Q ls E hret hZ hl => w_X2_keptAs g  E hret M rfl x1 _ _ ls h hZ hl)
theorem v_X2_keptAs : zYV yX2_keptAs cX2_keptAs 2 (some .int) 1 := ⟨kw_1221, kw_13, kw_1219, kw_1220, by decide +kernel⟩

def b_X4_sum_131  (M : zM) : Option (Int32 × zM) :=
  zbn (f_X7_miss M ) (fun u_1 => zck (zbl u_1.1) (some (u_1.1, u_1.2)))
set_option maxRecDepth 100000 in
set_option maxHeartbeats 4000000 in
theorem lb_X4_sum_131 (g : zG)  {r : Int32 × zM} (E : zX g p m c cX4_sum 5 s args (zWs yX4_sum cX4_sum 5 (some .boolean)) RX4) (hret : zRi g xE 125 p l e (zrm 4 0 0) s m args below meth c 0 0 Q cX4_sum .boolean (fun v M1 => r = (v, M1))) (M : zM)  (H : Heap) (locs : List Loc) (ls : Array Slot) (h : b_X4_sum_131  M = some r) (hZ : zS g xE 125 s H locs M) (hl : lv_has ls 5 [(0, .ref (g.2.2 42))]) : W p l e (zrm 4 0 0) s m args below meth c H locs 0 0 Q (F0 m 131 ls []) := by
  have hx := E.1.1
  have hb := E.1.2.1
  unfold b_X4_sum_131 at h
  refine lv_aload_n hx hb dX4_sum_131 rfl (lv_at hl 0 rfl) ?_
  refine zg (v := .ref (g.2.2 39)) E hZ (xb_X4 xs_42) ((xe_X4 xs_42) _) kc_X4 0 (by decide) kw_287 rfl rfl dX4_sum_132 ?_
  obtain ⟨u_1, qu_1, h⟩ := zbn_some h
  refine zciS (zrunV E hZ (xb_X7 xs_39) ((xe_X7 xs_39) _) rfl rfl v_X7_miss kw_803 (c_X7_miss l g M   qu_1 _) rfl hl.1 rfl (Nat.le_of_ble_eq_true rfl) ⟨by decide, by decide⟩ ⟨by decide, by decide⟩ dX4_sum_135) hZ (fun H locs hZ => ?_)
  obtain ⟨hbl, h⟩ := zck_some h
  exact hret _ _ _ _ _ _ (Option.some.inj h).symm (zbl_n hbl) hZ dX4_sum_138
def b_X4_sum_104 (K2 : zM → Int32 → Option (Int32 × zM)) (M : zM) (x1 : Int32) : Option (Int32 × zM) :=
  zbn (f_X7_isSign M 43) (fun u_2 => if u_2 = 0 then (some (1, M)) else (zbn (f_X7_next M ) (fun u_3 => znm (x1 + 1) (fun x1_4 => K2 u_3 x1_4))))
set_option maxRecDepth 100000 in
set_option maxHeartbeats 4000000 in
theorem lb_X4_sum_104 (g : zG)  {r : Int32 × zM} (E : zX g p m c cX4_sum 5 s args (zWs yX4_sum cX4_sum 5 (some .boolean)) RX4) (hret : zRi g xE 125 p l e (zrm 4 0 0) s m args below meth c 0 0 Q cX4_sum .boolean (fun v M1 => r = (v, M1))) (M : zM) (x1 : Int32) (K2 : zM → Int32 → Option (Int32 × zM)) (hK2 : ∀ (M : zM) (x1 : Int32) (H : Heap) (locs : List Loc) (ls : Array Slot), K2 M x1 = some r → zS g xE 125 s H locs M → lv_has ls 5 [(0, .ref (g.2.2 42)), (1, .int x1)] → W p l e (zrm 4 0 0) s m args below meth c H locs 0 0 Q (F0 m 2 ls [])) (H : Heap) (locs : List Loc) (ls : Array Slot) (h : b_X4_sum_104 K2 M x1 = some r) (hZ : zS g xE 125 s H locs M) (hl : lv_has ls 5 [(0, .ref (g.2.2 42)), (1, .int x1)]) : W p l e (zrm 4 0 0) s m args below meth c H locs 0 0 Q (F0 m 104 ls []) := by
  have hx := E.1.1
  have hb := E.1.2.1
  unfold b_X4_sum_104 at h
  refine lv_aload_n hx hb dX4_sum_104 rfl (lv_at hl 0 rfl) ?_
  refine zg (v := .ref (g.2.2 39)) E hZ (xb_X4 xs_42) ((xe_X4 xs_42) _) kc_X4 0 (by decide) kw_287 rfl rfl dX4_sum_105 ?_
  refine lv_bipush (v := 43) hx hb dX4_sum_108 (by decide) ?_
  obtain ⟨u_2, qu_2, h⟩ := zbn_some h
  refine zciR (zrunV E hZ (xb_X7 xs_39) ((xe_X7 xs_39) _) rfl rfl v_X7_isSign kw_820 (c_X7_isSign l g M  43 qu_2 _) rfl hl.1 rfl (Nat.le_of_ble_eq_true rfl) ⟨by decide, by decide⟩ ⟨by decide, by decide⟩ dX4_sum_110) hZ (fun H locs hZ => ?_)
  refine zif_ne (tgt := 118) h E dX4_sum_113 (by decide) (fun c_5 h => ?_) (fun c_5 h => ?_)
  · refine lv_aload_n hx hb dX4_sum_118 rfl (lv_at hl 0 rfl) ?_
    refine zg (v := .ref (g.2.2 39)) E hZ (xb_X4 xs_42) ((xe_X4 xs_42) _) kc_X4 0 (by decide) kw_287 rfl rfl dX4_sum_119 ?_
    obtain ⟨u_3, qu_3, h⟩ := zbn_some h
    refine zcvS (zrunV E hZ (xb_X7 xs_39) ((xe_X7 xs_39) _) rfl rfl v_X7_next kw_809 (c_X7_next l g M   qu_3 _) rfl hl.1 rfl (Nat.le_of_ble_eq_true rfl) ⟨by decide, by decide⟩ ⟨by decide, by decide⟩ dX4_sum_122) hZ (fun H locs hZ => ?_)
    obtain ⟨x1_4, ex1_4, h⟩ := znm_ex h
    refine lv_iinc (v := x1_4) (lv' := [(1, .int x1_4), (0, .ref (g.2.2 42))]) hx hb dX4_sum_125 hl (k := 1) rfl (by rw [ex1_4]; rfl) (by decide) rfl (fun ls hl => ?_)
    refine lv_goto (tgt := 2) hx hb dX4_sum_128 (by decide) ?_
    exact hK2 u_3 x1_4 H locs ls h hZ (lv_sub hl [1, 0] rfl)
  · refine lv_iconst (v := 1) hx hb dX4_sum_116 (by decide) ?_
    exact hret _ _ _ _ _ _ (Option.some.inj h).symm rfl hZ dX4_sum_117
def b_X4_sum_80 (K2 : zM → Int32 → Option (Int32 × zM)) (M : zM) (x1 : Int32) (t0 : Int32) : Option (Int32 × zM) :=
  zbn (f_X3_addStep M 27 t0) (fun u_6 => zbn (f_X7_next u_6 ) (fun u_7 => if x1 ≤ 0 then (b_X4_sum_104 K2 u_7 x1) else (zbn (f_X3_addStep u_7 27 1043) (fun u_8 => b_X4_sum_104 K2 u_8 x1))))
set_option maxRecDepth 100000 in
set_option maxHeartbeats 4000000 in
theorem lb_X4_sum_80 (g : zG)  {r : Int32 × zM} (E : zX g p m c cX4_sum 5 s args (zWs yX4_sum cX4_sum 5 (some .boolean)) RX4) (hret : zRi g xE 125 p l e (zrm 4 0 0) s m args below meth c 0 0 Q cX4_sum .boolean (fun v M1 => r = (v, M1))) (M : zM) (x1 : Int32) (t0 : Int32) (K2 : zM → Int32 → Option (Int32 × zM)) (hK2 : ∀ (M : zM) (x1 : Int32) (H : Heap) (locs : List Loc) (ls : Array Slot), K2 M x1 = some r → zS g xE 125 s H locs M → lv_has ls 5 [(0, .ref (g.2.2 42)), (1, .int x1)] → W p l e (zrm 4 0 0) s m args below meth c H locs 0 0 Q (F0 m 2 ls [])) (H : Heap) (locs : List Loc) (ls : Array Slot) (h : b_X4_sum_80 K2 M x1 t0 = some r) (hZ : zS g xE 125 s H locs M) (hl : lv_has ls 5 [(0, .ref (g.2.2 42)), (1, .int x1)]) : W p l e (zrm 4 0 0) s m args below meth c H locs 0 0 Q (F0 m 80 ls [.int t0, .ref (g.2.2 27)]) := by
  have hx := E.1.1
  have hb := E.1.2.1
  unfold b_X4_sum_80 at h
  obtain ⟨u_6, qu_6, h⟩ := zbn_some h
  refine zcvS (zrunV E hZ (xb_X3 xs_27) ((xe_X3 xs_27) _) rfl rfl v_X3_addStep kw_822 (c_X3_addStep l g M 27 xs_27 t0 qu_6 _) rfl hl.1 rfl (Nat.le_of_ble_eq_true rfl) ⟨by decide, by decide⟩ ⟨by decide, by decide⟩ dX4_sum_80) hZ (fun H locs hZ => ?_)
  refine lv_aload_n hx hb dX4_sum_83 rfl (lv_at hl 0 rfl) ?_
  refine zg (v := .ref (g.2.2 39)) E hZ (xb_X4 xs_42) ((xe_X4 xs_42) _) kc_X4 0 (by decide) kw_287 rfl rfl dX4_sum_84 ?_
  obtain ⟨u_7, qu_7, h⟩ := zbn_some h
  refine zcvS (zrunV E hZ (xb_X7 xs_39) ((xe_X7 xs_39) _) rfl rfl v_X7_next kw_809 (c_X7_next l g u_6   qu_7 _) rfl hl.1 rfl (Nat.le_of_ble_eq_true rfl) ⟨by decide, by decide⟩ ⟨by decide, by decide⟩ dX4_sum_87) hZ (fun H locs hZ => ?_)
  refine lv_iload_n hx hb dX4_sum_90 rfl (lv_at hl 1 rfl) ?_
  refine zif_le (tgt := 104) h E dX4_sum_91 (by decide) (fun c_9 h => ?_) (fun c_9 h => ?_)
  · exact lb_X4_sum_104 g  E hret u_7 x1 K2 hK2 H locs ls h hZ (lv_sub hl [0, 1] rfl)
  · refine lv_aload_n hx hb dX4_sum_94 rfl (lv_at hl 0 rfl) ?_
    refine zg (v := .ref (g.2.2 27)) E hZ (xb_X4 xs_42) ((xe_X4 xs_42) _) kc_X4 1 (by decide) kw_288 rfl rfl dX4_sum_95 ?_
    refine lv_sipush (v := 1043) hx hb dX4_sum_98 (by decide) ?_
    obtain ⟨u_8, qu_8, h⟩ := zbn_some h
    refine zcvS (zrunV E hZ (xb_X3 xs_27) ((xe_X3 xs_27) _) rfl rfl v_X3_addStep kw_822 (c_X3_addStep l g u_7 27 xs_27 1043 qu_8 _) rfl hl.1 rfl (Nat.le_of_ble_eq_true rfl) ⟨by decide, by decide⟩ ⟨by decide, by decide⟩ dX4_sum_101) hZ (fun H locs hZ => ?_)
    exact lb_X4_sum_104 g  E hret u_8 x1 K2 hK2 H locs ls h hZ (lv_sub hl [0, 1] rfl)
def b_X4_sum_62 (K2 : zM → Int32 → Option (Int32 × zM)) (M : zM) (x1 : Int32) (x2 : Int32) (x3 : Int32) (x4 : Int32) : Option (Int32 × zM) :=
  if x4 = 0 then (b_X4_sum_80 K2 M x1 x2) else (b_X4_sum_80 K2 M x1 (1000 + x3))
set_option maxRecDepth 100000 in
set_option maxHeartbeats 4000000 in
theorem lb_X4_sum_62 (g : zG)  {r : Int32 × zM} (E : zX g p m c cX4_sum 5 s args (zWs yX4_sum cX4_sum 5 (some .boolean)) RX4) (hret : zRi g xE 125 p l e (zrm 4 0 0) s m args below meth c 0 0 Q cX4_sum .boolean (fun v M1 => r = (v, M1))) (M : zM) (x1 : Int32) (x2 : Int32) (x3 : Int32) (x4 : Int32) (K2 : zM → Int32 → Option (Int32 × zM)) (hK2 : ∀ (M : zM) (x1 : Int32) (H : Heap) (locs : List Loc) (ls : Array Slot), K2 M x1 = some r → zS g xE 125 s H locs M → lv_has ls 5 [(0, .ref (g.2.2 42)), (1, .int x1)] → W p l e (zrm 4 0 0) s m args below meth c H locs 0 0 Q (F0 m 2 ls [])) (H : Heap) (locs : List Loc) (ls : Array Slot) (h : b_X4_sum_62 K2 M x1 x2 x3 x4 = some r) (hZ : zS g xE 125 s H locs M) (hl : lv_has ls 5 [(0, .ref (g.2.2 42)), (1, .int x1), (2, .int x2), (3, .int x3), (4, .int x4)]) : W p l e (zrm 4 0 0) s m args below meth c H locs 0 0 Q (F0 m 62 ls []) := by
  have hx := E.1.1
  have hb := E.1.2.1
  unfold b_X4_sum_62 at h
  refine lv_aload_n hx hb dX4_sum_62 rfl (lv_at hl 0 rfl) ?_
  refine zg (v := .ref (g.2.2 27)) E hZ (xb_X4 xs_42) ((xe_X4 xs_42) _) kc_X4 1 (by decide) kw_288 rfl rfl dX4_sum_63 ?_
  refine lv_iload hx hb dX4_sum_66 (lv_at hl 4 rfl) ?_
  refine zif_eq (tgt := 79) h E dX4_sum_68 (by decide) (fun c_10 h => ?_) (fun c_10 h => ?_)
  · refine lv_iload_n hx hb dX4_sum_79 rfl (lv_at hl 2 rfl) ?_
    exact lb_X4_sum_80 g  E hret M x1 x2 K2 hK2 H locs ls h hZ (lv_sub hl [0, 1] rfl)
  · refine lv_sipush (v := 1000) hx hb dX4_sum_71 (by decide) ?_
    refine lv_iload_n hx hb dX4_sum_74 rfl (lv_at hl 3 rfl) ?_
    refine lv_iadd hx hb dX4_sum_75 ?_
    refine lv_goto (tgt := 80) hx hb dX4_sum_76 (by decide) ?_
    exact lb_X4_sum_80 g  E hret M x1 (1000 + x3) K2 hK2 H locs ls h hZ (lv_sub hl [0, 1] rfl)
def b_X4_sum_54  (M : zM) : Option (Int32 × zM) :=
  zbn (f_X7_miss M ) (fun u_11 => zck (zbl u_11.1) (some (u_11.1, u_11.2)))
set_option maxRecDepth 100000 in
set_option maxHeartbeats 4000000 in
theorem lb_X4_sum_54 (g : zG)  {r : Int32 × zM} (E : zX g p m c cX4_sum 5 s args (zWs yX4_sum cX4_sum 5 (some .boolean)) RX4) (hret : zRi g xE 125 p l e (zrm 4 0 0) s m args below meth c 0 0 Q cX4_sum .boolean (fun v M1 => r = (v, M1))) (M : zM)  (H : Heap) (locs : List Loc) (ls : Array Slot) (h : b_X4_sum_54  M = some r) (hZ : zS g xE 125 s H locs M) (hl : lv_has ls 5 [(0, .ref (g.2.2 42))]) : W p l e (zrm 4 0 0) s m args below meth c H locs 0 0 Q (F0 m 54 ls []) := by
  have hx := E.1.1
  have hb := E.1.2.1
  unfold b_X4_sum_54 at h
  refine lv_aload_n hx hb dX4_sum_54 rfl (lv_at hl 0 rfl) ?_
  refine zg (v := .ref (g.2.2 39)) E hZ (xb_X4 xs_42) ((xe_X4 xs_42) _) kc_X4 0 (by decide) kw_287 rfl rfl dX4_sum_55 ?_
  obtain ⟨u_11, qu_11, h⟩ := zbn_some h
  refine zciS (zrunV E hZ (xb_X7 xs_39) ((xe_X7 xs_39) _) rfl rfl v_X7_miss kw_803 (c_X7_miss l g M   qu_11 _) rfl hl.1 rfl (Nat.le_of_ble_eq_true rfl) ⟨by decide, by decide⟩ ⟨by decide, by decide⟩ dX4_sum_58) hZ (fun H locs hZ => ?_)
  obtain ⟨hbl, h⟩ := zck_some h
  exact hret _ _ _ _ _ _ (Option.some.inj h).symm (zbl_n hbl) hZ dX4_sum_61
def b_X4_sum_42 (K2 : zM → Int32 → Option (Int32 × zM)) (M : zM) (x1 : Int32) (x2 : Int32) (x3 : Int32) (t0 : Int32) : Option (Int32 × zM) :=
  if x2 = ((-1)) then (if t0 = 0 then (b_X4_sum_54  M) else (b_X4_sum_62 K2 M x1 x2 x3 t0)) else (b_X4_sum_62 K2 M x1 x2 x3 t0)
set_option maxRecDepth 100000 in
set_option maxHeartbeats 4000000 in
theorem lb_X4_sum_42 (g : zG)  {r : Int32 × zM} (E : zX g p m c cX4_sum 5 s args (zWs yX4_sum cX4_sum 5 (some .boolean)) RX4) (hret : zRi g xE 125 p l e (zrm 4 0 0) s m args below meth c 0 0 Q cX4_sum .boolean (fun v M1 => r = (v, M1))) (M : zM) (x1 : Int32) (x2 : Int32) (x3 : Int32) (t0 : Int32) (K2 : zM → Int32 → Option (Int32 × zM)) (hK2 : ∀ (M : zM) (x1 : Int32) (H : Heap) (locs : List Loc) (ls : Array Slot), K2 M x1 = some r → zS g xE 125 s H locs M → lv_has ls 5 [(0, .ref (g.2.2 42)), (1, .int x1)] → W p l e (zrm 4 0 0) s m args below meth c H locs 0 0 Q (F0 m 2 ls [])) (H : Heap) (locs : List Loc) (ls : Array Slot) (h : b_X4_sum_42 K2 M x1 x2 x3 t0 = some r) (hZ : zS g xE 125 s H locs M) (hl : lv_has ls 5 [(0, .ref (g.2.2 42)), (1, .int x1), (2, .int x2), (3, .int x3)]) : W p l e (zrm 4 0 0) s m args below meth c H locs 0 0 Q (F0 m 42 ls [.int t0]) := by
  have hx := E.1.1
  have hb := E.1.2.1
  unfold b_X4_sum_42 at h
  refine lv_istore (lv' := [(4, .int t0), (0, .ref (g.2.2 42)), (1, .int x1), (2, .int x2), (3, .int x3)]) hx hb dX4_sum_42 hl (by decide) rfl (fun ls hl => ?_)
  refine lv_iload_n hx hb dX4_sum_44 rfl (lv_at hl 3 rfl) ?_
  refine lv_iconst (v := (-1)) hx hb dX4_sum_45 (by decide) ?_
  refine zic_ne (tgt := 62) h E dX4_sum_46 (by decide) (fun c_13 h => ?_) (fun c_13 h => ?_)
  · exact lb_X4_sum_62 g  E hret M x1 x2 x3 t0 K2 hK2 H locs ls h hZ (lv_sub hl [1, 2, 3, 4, 0] rfl)
  · refine lv_iload hx hb dX4_sum_49 (lv_at hl 0 rfl) ?_
    refine zif_ne (tgt := 62) h E dX4_sum_51 (by decide) (fun c_12 h => ?_) (fun c_12 h => ?_)
    · exact lb_X4_sum_62 g  E hret M x1 x2 x3 t0 K2 hK2 H locs ls h hZ (lv_sub hl [1, 2, 3, 4, 0] rfl)
    · exact lb_X4_sum_54 g  E hret M  H locs ls h hZ (lv_sub hl [1] rfl)
def b_X4_sum_41 (K2 : zM → Int32 → Option (Int32 × zM)) (M : zM) (x1 : Int32) (x2 : Int32) (x3 : Int32) : Option (Int32 × zM) :=
  b_X4_sum_42 K2 M x1 x2 x3 0
set_option maxRecDepth 100000 in
set_option maxHeartbeats 4000000 in
theorem lb_X4_sum_41 (g : zG)  {r : Int32 × zM} (E : zX g p m c cX4_sum 5 s args (zWs yX4_sum cX4_sum 5 (some .boolean)) RX4) (hret : zRi g xE 125 p l e (zrm 4 0 0) s m args below meth c 0 0 Q cX4_sum .boolean (fun v M1 => r = (v, M1))) (M : zM) (x1 : Int32) (x2 : Int32) (x3 : Int32) (K2 : zM → Int32 → Option (Int32 × zM)) (hK2 : ∀ (M : zM) (x1 : Int32) (H : Heap) (locs : List Loc) (ls : Array Slot), K2 M x1 = some r → zS g xE 125 s H locs M → lv_has ls 5 [(0, .ref (g.2.2 42)), (1, .int x1)] → W p l e (zrm 4 0 0) s m args below meth c H locs 0 0 Q (F0 m 2 ls [])) (H : Heap) (locs : List Loc) (ls : Array Slot) (h : b_X4_sum_41 K2 M x1 x2 x3 = some r) (hZ : zS g xE 125 s H locs M) (hl : lv_has ls 5 [(0, .ref (g.2.2 42)), (1, .int x1), (2, .int x2), (3, .int x3)]) : W p l e (zrm 4 0 0) s m args below meth c H locs 0 0 Q (F0 m 41 ls []) := by
  have hx := E.1.1
  have hb := E.1.2.1
  unfold b_X4_sum_41 at h
  refine lv_iconst (v := 0) hx hb dX4_sum_41 (by decide) ?_
  exact lb_X4_sum_42 g  E hret M x1 x2 x3 0 K2 hK2 H locs ls h hZ (lv_sub hl [0, 1, 2, 3] rfl)
def b_X4_sum_2   : Nat → zM → Int32 → Option (Int32 × zM)
  | 0, _, _ => none
  | n + 1, M, x1 =>
    if 400 ≤ x1 then (b_X4_sum_131  M) else (zbn (f_X7_plainNumber M ) (fun u_14 => zbn (f_X7_word M ) (fun u_15 => if u_15 < 21 then (b_X4_sum_41 (fun M x1 => b_X4_sum_2   n M x1) M x1 u_14 u_15) else (if 26 < u_15 then (b_X4_sum_41 (fun M x1 => b_X4_sum_2   n M x1) M x1 u_14 u_15) else (b_X4_sum_42 (fun M x1 => b_X4_sum_2   n M x1) M x1 u_14 u_15 1)))))
set_option maxRecDepth 100000 in
set_option maxHeartbeats 4000000 in
theorem lb_X4_sum_2 (g : zG)  {r : Int32 × zM} (E : zX g p m c cX4_sum 5 s args (zWs yX4_sum cX4_sum 5 (some .boolean)) RX4) (hret : zRi g xE 125 p l e (zrm 4 0 0) s m args below meth c 0 0 Q cX4_sum .boolean (fun v M1 => r = (v, M1)))   : ∀ (n : Nat) (M : zM) (x1 : Int32) (H : Heap) (locs : List Loc) (ls : Array Slot), b_X4_sum_2   n M x1 = some r → zS g xE 125 s H locs M → lv_has ls 5 [(0, .ref (g.2.2 42)), (1, .int x1)] → W p l e (zrm 4 0 0) s m args below meth c H locs 0 0 Q (F0 m 2 ls []) := by
  have hx := E.1.1
  have hb := E.1.2.1
  intro n
  induction n with
  | zero => intro M x1 H locs ls h hZ hl; cases h
  | succ n ih =>
    intro M x1 H locs ls h hZ hl
    rw [b_X4_sum_2] at h
    refine lv_iload_n hx hb dX4_sum_2 rfl (lv_at hl 1 rfl) ?_
    refine lv_sipush (v := 400) hx hb dX4_sum_3 (by decide) ?_
    refine zic_ge (tgt := 131) h E dX4_sum_6 (by decide) (fun c_18 h => ?_) (fun c_18 h => ?_)
    · exact lb_X4_sum_131 g  E hret M  H locs ls h hZ (lv_sub hl [0] rfl)
    · refine lv_aload_n hx hb dX4_sum_9 rfl (lv_at hl 0 rfl) ?_
      refine zg (v := .ref (g.2.2 39)) E hZ (xb_X4 xs_42) ((xe_X4 xs_42) _) kc_X4 0 (by decide) kw_287 rfl rfl dX4_sum_10 ?_
      obtain ⟨u_14, qu_14, h⟩ := zbn_some h
      refine zciR (zrunV E hZ (xb_X7 xs_39) ((xe_X7 xs_39) _) rfl rfl v_X7_plainNumber kw_831 (c_X7_plainNumber l g M   qu_14 _) rfl hl.1 rfl (Nat.le_of_ble_eq_true rfl) ⟨by decide, by decide⟩ ⟨by decide, by decide⟩ dX4_sum_13) hZ (fun H locs hZ => ?_)
      refine lv_istore_n (lv' := [(2, .int u_14), (0, .ref (g.2.2 42)), (1, .int x1)]) hx hb dX4_sum_16 rfl hl (by decide) rfl (fun ls hl => ?_)
      refine lv_aload_n hx hb dX4_sum_17 rfl (lv_at hl 1 rfl) ?_
      refine zg (v := .ref (g.2.2 39)) E hZ (xb_X4 xs_42) ((xe_X4 xs_42) _) kc_X4 0 (by decide) kw_287 rfl rfl dX4_sum_18 ?_
      obtain ⟨u_15, qu_15, h⟩ := zbn_some h
      refine zciR (zrunV E hZ (xb_X7 xs_39) ((xe_X7 xs_39) _) rfl rfl v_X7_word kw_808 (c_X7_word l g M   qu_15 _) rfl hl.1 rfl (Nat.le_of_ble_eq_true rfl) ⟨by decide, by decide⟩ ⟨by decide, by decide⟩ dX4_sum_21) hZ (fun H locs hZ => ?_)
      refine lv_istore_n (lv' := [(3, .int u_15), (2, .int u_14), (0, .ref (g.2.2 42)), (1, .int x1)]) hx hb dX4_sum_24 rfl hl (by decide) rfl (fun ls hl => ?_)
      refine lv_iload_n hx hb dX4_sum_25 rfl (lv_at hl 0 rfl) ?_
      refine lv_bipush (v := 21) hx hb dX4_sum_26 (by decide) ?_
      refine zic_lt (tgt := 41) h E dX4_sum_28 (by decide) (fun c_17 h => ?_) (fun c_17 h => ?_)
      · exact lb_X4_sum_41 g  E hret M x1 u_14 u_15 (fun M x1 => b_X4_sum_2   n M x1) ih H locs ls h hZ (lv_sub hl [2, 3, 1, 0] rfl)
      · refine lv_iload_n hx hb dX4_sum_31 rfl (lv_at hl 0 rfl) ?_
        refine lv_bipush (v := 26) hx hb dX4_sum_32 (by decide) ?_
        refine zic_gt (tgt := 41) h E dX4_sum_34 (by decide) (fun c_16 h => ?_) (fun c_16 h => ?_)
        · exact lb_X4_sum_41 g  E hret M x1 u_14 u_15 (fun M x1 => b_X4_sum_2   n M x1) ih H locs ls h hZ (lv_sub hl [2, 3, 1, 0] rfl)
        · refine lv_iconst (v := 1) hx hb dX4_sum_37 (by decide) ?_
          refine lv_goto (tgt := 42) hx hb dX4_sum_38 (by decide) ?_
          exact lb_X4_sum_42 g  E hret M x1 u_14 u_15 1 (fun M x1 => b_X4_sum_2   n M x1) ih H locs ls h hZ (lv_sub hl [2, 3, 1, 0] rfl)
def f_X4_sum (M : zM)  : Option (Int32 × zM) :=
  b_X4_sum_2   6000 M 0
set_option maxRecDepth 100000 in
set_option maxHeartbeats 4000000 in
theorem w_X4_sum (g : zG)  {r : Int32 × zM} (E : zX g p m c cX4_sum 5 s args (zWs yX4_sum cX4_sum 5 (some .boolean)) RX4) (hret : zRi g xE 125 p l e (zrm 4 0 0) s m args below meth c 0 0 Q cX4_sum .boolean (fun v M1 => r = (v, M1))) (M : zM)  (H : Heap) (locs : List Loc) (ls : Array Slot) (h : f_X4_sum M  = some r) (hZ : zS g xE 125 s H locs M) (hl : lv_has ls 5 [(0, .ref (g.2.2 42))]) : W p l e (zrm 4 0 0) s m args below meth c H locs 0 0 Q (F0 m 0 ls []) := by
  have hx := E.1.1
  have hb := E.1.2.1
  unfold f_X4_sum at h
  refine lv_iconst (v := 0) hx hb dX4_sum_0 (by decide) ?_
  refine lv_istore_n (lv' := [(1, .int 0), (0, .ref (g.2.2 42))]) hx hb dX4_sum_1 rfl hl (by decide) rfl (fun ls hl => ?_)
  exact lb_X4_sum_2 g  E hret   6000 M 0 H locs ls h hZ (lv_sub hl [1, 0] rfl)
theorem c_X4_sum (l : Launch) (g : zG) (M : zM)   {r : Int32 × zM} (h : f_X4_sum M  = some r) : zMi l g xE 125 yX4_sum (zWs yX4_sum cX4_sum 5 (some .boolean)) 4 [.ref (g.2.2 42)] M (fun v M1 => r = (v, M1)) :=
  zMi_of (by decide +kernel) (Nat.le_of_ble_eq_true rfl) (fun p e s m args below meth c Q ls E hret hZ hl => w_X4_sum g  E hret M  _ _ ls h hZ hl)
theorem v_X4_sum : zYV yX4_sum cX4_sum 5 (some .boolean) 0 := ⟨kw_830, kw_11, kw_829, kp_24, by decide +kernel⟩

theorem v_X4_atom : zYV yX4_atom cX4_atom 5 (some .boolean) 1 := ⟨kw_819, kw_11, kw_818, kp_23, by decide +kernel⟩
theorem v_X4_condition : zYV yX4_condition cX4_condition 5 (some .boolean) 1 := ⟨kw_815, kw_11, kw_814, kp_22, by decide +kernel⟩
def b_X4_atom_26 (R_X4_atom : zM → Int32 → Option (Int32 × zM)) (R_X4_condition : zM → Int32 → Option (Int32 × zM))  (M : zM) (x1 : Int32) (x2 : Int32) : Option (Int32 × zM) :=
  if x1 < 6 then (zbn (f_X7_next M ) (fun u_1 => if x2 = 20 then (zbn (R_X4_atom u_1 (x1 + 1)) (fun u_2 => zbn (f_X3_addStep u_2.2 27 1020) (fun u_3 => zck (zbl u_2.1) (some (u_2.1, u_3))))) else (zbn (R_X4_condition u_1 (x1 + 1)) (fun u_4 => if u_4.1 = 0 then (some (0, u_4.2)) else (zbn (f_X7_takeSign u_4.2 41) (fun u_5 => if u_5.1 = 0 then (some (0, u_5.2)) else (some (1, u_5.2)))))))) else (zbn (f_X7_miss M ) (fun u_9 => zck (zbl u_9.1) (some (u_9.1, u_9.2))))
set_option maxRecDepth 100000 in
set_option maxHeartbeats 4000000 in
theorem lb_X4_atom_26 (g : zG) (dn : Nat) (R_X4_atom : zM → Int32 → Option (Int32 × zM)) (R_X4_condition : zM → Int32 → Option (Int32 × zM)) (hR_X4_atom : ∀ (M : zM)  (x1 : Int32) (r : Int32 × zM), R_X4_atom M x1 = some r → zMi l g xE 125 yX4_atom (zWs yX4_atom cX4_atom 5 (some .boolean)) dn [.ref (g.2.2 42), .int x1] M (fun v M1 => r = (v, M1))) (hR_X4_condition : ∀ (M : zM)  (x1 : Int32) (r : Int32 × zM), R_X4_condition M x1 = some r → zMi l g xE 125 yX4_condition (zWs yX4_condition cX4_condition 5 (some .boolean)) dn [.ref (g.2.2 42), .int x1] M (fun v M1 => r = (v, M1)))  {r : Int32 × zM} (E : zX g p m c cX4_atom 5 s args (zWs yX4_atom cX4_atom 5 (some .boolean)) RX4) (hret : zRi g xE 125 p l e (zrm (dn + 9) 0 0) s m args below meth c 0 0 Q cX4_atom .boolean (fun v M1 => r = (v, M1))) (M : zM) (x1 : Int32) (x2 : Int32)  (H : Heap) (locs : List Loc) (ls : Array Slot) (h : b_X4_atom_26 R_X4_atom R_X4_condition  M x1 x2 = some r) (hZ : zS g xE 125 s H locs M) (hl : lv_has ls 5 [(0, .ref (g.2.2 42)), (1, .int x1), (2, .int x2)]) : W p l e (zrm (dn + 9) 0 0) s m args below meth c H locs 0 0 Q (F0 m 26 ls []) := by
  have hx := E.1.1
  have hb := E.1.2.1
  unfold b_X4_atom_26 at h
  refine lv_iload_n hx hb dX4_atom_26 rfl (lv_at hl 1 rfl) ?_
  refine lv_bipush (v := 6) hx hb dX4_atom_27 (by decide) ?_
  refine zic_lt (tgt := 40) h E dX4_atom_29 (by decide) (fun c_10 h => ?_) (fun c_10 h => ?_)
  · refine lv_aload_n hx hb dX4_atom_40 rfl (lv_at hl 0 rfl) ?_
    refine zg (v := .ref (g.2.2 39)) E hZ (xb_X4 xs_42) ((xe_X4 xs_42) _) kc_X4 0 (by decide) kw_287 rfl rfl dX4_atom_41 ?_
    obtain ⟨u_1, qu_1, h⟩ := zbn_some h
    refine zcvS (zrunV E hZ (xb_X7 xs_39) ((xe_X7 xs_39) _) rfl rfl v_X7_next kw_809 (c_X7_next l g M   qu_1 _) rfl hl.1 rfl (Nat.le_of_ble_eq_true rfl) ⟨by simp only [zrm]; omega, by simp only [zrm]; omega⟩ ⟨Nat.le_refl _, Nat.le_refl _⟩ dX4_atom_44) hZ (fun H locs hZ => ?_)
    refine lv_iload_n hx hb dX4_atom_47 rfl (lv_at hl 2 rfl) ?_
    refine lv_bipush (v := 20) hx hb dX4_atom_48 (by decide) ?_
    refine zic_eq (tgt := 81) h E dX4_atom_50 (by decide) (fun c_8 h => ?_) (fun c_8 h => ?_)
    · refine lv_aload_n hx hb dX4_atom_81 rfl (lv_at hl 0 rfl) ?_
      refine lv_iload_n hx hb dX4_atom_82 rfl (lv_at hl 1 rfl) ?_
      refine lv_iconst (v := 1) hx hb dX4_atom_83 (by decide) ?_
      refine lv_iadd hx hb dX4_atom_84 ?_
      obtain ⟨u_2, qu_2, h⟩ := zbn_some h
      refine zciS (zrunV E hZ (xb_X4 xs_42) ((xe_X4 xs_42) _) rfl rfl v_X4_atom kw_816 (hR_X4_atom u_1  (x1 + 1) _ qu_2 _) rfl hl.1 rfl (Nat.le_of_ble_eq_true rfl) ⟨by simp only [zrm]; omega, by simp only [zrm]; omega⟩ ⟨Nat.le_refl _, Nat.le_refl _⟩ dX4_atom_85) hZ (fun H locs hZ => ?_)
      refine lv_istore_n (lv' := [(3, .int u_2.1), (0, .ref (g.2.2 42)), (1, .int x1), (2, .int x2)]) hx hb dX4_atom_88 rfl hl (by decide) rfl (fun ls hl => ?_)
      refine lv_aload_n hx hb dX4_atom_89 rfl (lv_at hl 1 rfl) ?_
      refine zg (v := .ref (g.2.2 27)) E hZ (xb_X4 xs_42) ((xe_X4 xs_42) _) kc_X4 1 (by decide) kw_288 rfl rfl dX4_atom_90 ?_
      refine lv_sipush (v := 1020) hx hb dX4_atom_93 (by decide) ?_
      obtain ⟨u_3, qu_3, h⟩ := zbn_some h
      refine zcvS (zrunV E hZ (xb_X3 xs_27) ((xe_X3 xs_27) _) rfl rfl v_X3_addStep kw_822 (c_X3_addStep l g u_2.2 27 xs_27 1020 qu_3 _) rfl hl.1 rfl (Nat.le_of_ble_eq_true rfl) ⟨by simp only [zrm]; omega, by simp only [zrm]; omega⟩ ⟨Nat.le_refl _, Nat.le_refl _⟩ dX4_atom_96) hZ (fun H locs hZ => ?_)
      refine lv_iload_n hx hb dX4_atom_99 rfl (lv_at hl 0 rfl) ?_
      obtain ⟨hbl, h⟩ := zck_some h
      exact hret _ _ _ _ _ _ (Option.some.inj h).symm (zbl_n hbl) hZ dX4_atom_100
    · refine lv_aload_n hx hb dX4_atom_53 rfl (lv_at hl 0 rfl) ?_
      refine lv_iload_n hx hb dX4_atom_54 rfl (lv_at hl 1 rfl) ?_
      refine lv_iconst (v := 1) hx hb dX4_atom_55 (by decide) ?_
      refine lv_iadd hx hb dX4_atom_56 ?_
      obtain ⟨u_4, qu_4, h⟩ := zbn_some h
      refine zciS (zrunV E hZ (xb_X4 xs_42) ((xe_X4 xs_42) _) rfl rfl v_X4_condition kw_812 (hR_X4_condition u_1  (x1 + 1) _ qu_4 _) rfl hl.1 rfl (Nat.le_of_ble_eq_true rfl) ⟨by simp only [zrm]; omega, by simp only [zrm]; omega⟩ ⟨Nat.le_refl _, Nat.le_refl _⟩ dX4_atom_57) hZ (fun H locs hZ => ?_)
      refine zif_eq (tgt := 79) h E dX4_atom_60 (by decide) (fun c_7 h => ?_) (fun c_7 h => ?_)
      · refine lv_iconst (v := 0) hx hb dX4_atom_79 (by decide) ?_
        exact hret _ _ _ _ _ _ (Option.some.inj h).symm rfl hZ dX4_atom_80
      · refine lv_aload_n hx hb dX4_atom_63 rfl (lv_at hl 0 rfl) ?_
        refine zg (v := .ref (g.2.2 39)) E hZ (xb_X4 xs_42) ((xe_X4 xs_42) _) kc_X4 0 (by decide) kw_287 rfl rfl dX4_atom_64 ?_
        refine lv_bipush (v := 41) hx hb dX4_atom_67 (by decide) ?_
        obtain ⟨u_5, qu_5, h⟩ := zbn_some h
        refine zciS (zrunV E hZ (xb_X7 xs_39) ((xe_X7 xs_39) _) rfl rfl v_X7_takeSign kw_821 (c_X7_takeSign l g u_4.2  41 qu_5 _) rfl hl.1 rfl (Nat.le_of_ble_eq_true rfl) ⟨by simp only [zrm]; omega, by simp only [zrm]; omega⟩ ⟨Nat.le_refl _, Nat.le_refl _⟩ dX4_atom_69) hZ (fun H locs hZ => ?_)
        refine zif_eq (tgt := 79) h E dX4_atom_72 (by decide) (fun c_6 h => ?_) (fun c_6 h => ?_)
        · refine lv_iconst (v := 0) hx hb dX4_atom_79 (by decide) ?_
          exact hret _ _ _ _ _ _ (Option.some.inj h).symm rfl hZ dX4_atom_80
        · refine lv_iconst (v := 1) hx hb dX4_atom_75 (by decide) ?_
          refine lv_goto (tgt := 80) hx hb dX4_atom_76 (by decide) ?_
          exact hret _ _ _ _ _ _ (Option.some.inj h).symm rfl hZ dX4_atom_80
  · refine lv_aload_n hx hb dX4_atom_32 rfl (lv_at hl 0 rfl) ?_
    refine zg (v := .ref (g.2.2 39)) E hZ (xb_X4 xs_42) ((xe_X4 xs_42) _) kc_X4 0 (by decide) kw_287 rfl rfl dX4_atom_33 ?_
    obtain ⟨u_9, qu_9, h⟩ := zbn_some h
    refine zciS (zrunV E hZ (xb_X7 xs_39) ((xe_X7 xs_39) _) rfl rfl v_X7_miss kw_803 (c_X7_miss l g M   qu_9 _) rfl hl.1 rfl (Nat.le_of_ble_eq_true rfl) ⟨by simp only [zrm]; omega, by simp only [zrm]; omega⟩ ⟨Nat.le_refl _, Nat.le_refl _⟩ dX4_atom_36) hZ (fun H locs hZ => ?_)
    obtain ⟨hbl, h⟩ := zck_some h
    exact hret _ _ _ _ _ _ (Option.some.inj h).symm (zbl_n hbl) hZ dX4_atom_39
def b_X4_atom_113 (R_X4_atom : zM → Int32 → Option (Int32 × zM)) (R_X4_condition : zM → Int32 → Option (Int32 × zM))  (M : zM) (x2 : Int32) : Option (Int32 × zM) :=
  zbn (f_X3_addStep M 27 (1000 + x2)) (fun u_11 => zbn (f_X7_next u_11 ) (fun u_12 => some (1, u_12)))
set_option maxRecDepth 100000 in
set_option maxHeartbeats 4000000 in
theorem lb_X4_atom_113 (g : zG) (dn : Nat) (R_X4_atom : zM → Int32 → Option (Int32 × zM)) (R_X4_condition : zM → Int32 → Option (Int32 × zM)) (hR_X4_atom : ∀ (M : zM)  (x1 : Int32) (r : Int32 × zM), R_X4_atom M x1 = some r → zMi l g xE 125 yX4_atom (zWs yX4_atom cX4_atom 5 (some .boolean)) dn [.ref (g.2.2 42), .int x1] M (fun v M1 => r = (v, M1))) (hR_X4_condition : ∀ (M : zM)  (x1 : Int32) (r : Int32 × zM), R_X4_condition M x1 = some r → zMi l g xE 125 yX4_condition (zWs yX4_condition cX4_condition 5 (some .boolean)) dn [.ref (g.2.2 42), .int x1] M (fun v M1 => r = (v, M1)))  {r : Int32 × zM} (E : zX g p m c cX4_atom 5 s args (zWs yX4_atom cX4_atom 5 (some .boolean)) RX4) (hret : zRi g xE 125 p l e (zrm (dn + 9) 0 0) s m args below meth c 0 0 Q cX4_atom .boolean (fun v M1 => r = (v, M1))) (M : zM) (x2 : Int32)  (H : Heap) (locs : List Loc) (ls : Array Slot) (h : b_X4_atom_113 R_X4_atom R_X4_condition  M x2 = some r) (hZ : zS g xE 125 s H locs M) (hl : lv_has ls 5 [(0, .ref (g.2.2 42)), (2, .int x2)]) : W p l e (zrm (dn + 9) 0 0) s m args below meth c H locs 0 0 Q (F0 m 113 ls []) := by
  have hx := E.1.1
  have hb := E.1.2.1
  unfold b_X4_atom_113 at h
  refine lv_aload_n hx hb dX4_atom_113 rfl (lv_at hl 0 rfl) ?_
  refine zg (v := .ref (g.2.2 27)) E hZ (xb_X4 xs_42) ((xe_X4 xs_42) _) kc_X4 1 (by decide) kw_288 rfl rfl dX4_atom_114 ?_
  refine lv_sipush (v := 1000) hx hb dX4_atom_117 (by decide) ?_
  refine lv_iload_n hx hb dX4_atom_120 rfl (lv_at hl 1 rfl) ?_
  refine lv_iadd hx hb dX4_atom_121 ?_
  obtain ⟨u_11, qu_11, h⟩ := zbn_some h
  refine zcvS (zrunV E hZ (xb_X3 xs_27) ((xe_X3 xs_27) _) rfl rfl v_X3_addStep kw_822 (c_X3_addStep l g M 27 xs_27 (1000 + x2) qu_11 _) rfl hl.1 rfl (Nat.le_of_ble_eq_true rfl) ⟨by simp only [zrm]; omega, by simp only [zrm]; omega⟩ ⟨Nat.le_refl _, Nat.le_refl _⟩ dX4_atom_122) hZ (fun H locs hZ => ?_)
  refine lv_aload_n hx hb dX4_atom_125 rfl (lv_at hl 0 rfl) ?_
  refine zg (v := .ref (g.2.2 39)) E hZ (xb_X4 xs_42) ((xe_X4 xs_42) _) kc_X4 0 (by decide) kw_287 rfl rfl dX4_atom_126 ?_
  obtain ⟨u_12, qu_12, h⟩ := zbn_some h
  refine zcvS (zrunV E hZ (xb_X7 xs_39) ((xe_X7 xs_39) _) rfl rfl v_X7_next kw_809 (c_X7_next l g u_11   qu_12 _) rfl hl.1 rfl (Nat.le_of_ble_eq_true rfl) ⟨by simp only [zrm]; omega, by simp only [zrm]; omega⟩ ⟨Nat.le_refl _, Nat.le_refl _⟩ dX4_atom_129) hZ (fun H locs hZ => ?_)
  refine lv_iconst (v := 1) hx hb dX4_atom_132 (by decide) ?_
  exact hret _ _ _ _ _ _ (Option.some.inj h).symm rfl hZ dX4_atom_133
def b_X4_atom_186 (R_X4_atom : zM → Int32 → Option (Int32 × zM)) (R_X4_condition : zM → Int32 → Option (Int32 × zM))  (M : zM) (x3 : Int32) (t0 : Int32) : Option (Int32 × zM) :=
  zbn (f_X3_addStep M 27 (1000 + x3)) (fun u_13 => zck (zbl t0) (some (t0, u_13)))
set_option maxRecDepth 100000 in
set_option maxHeartbeats 4000000 in
theorem lb_X4_atom_186 (g : zG) (dn : Nat) (R_X4_atom : zM → Int32 → Option (Int32 × zM)) (R_X4_condition : zM → Int32 → Option (Int32 × zM)) (hR_X4_atom : ∀ (M : zM)  (x1 : Int32) (r : Int32 × zM), R_X4_atom M x1 = some r → zMi l g xE 125 yX4_atom (zWs yX4_atom cX4_atom 5 (some .boolean)) dn [.ref (g.2.2 42), .int x1] M (fun v M1 => r = (v, M1))) (hR_X4_condition : ∀ (M : zM)  (x1 : Int32) (r : Int32 × zM), R_X4_condition M x1 = some r → zMi l g xE 125 yX4_condition (zWs yX4_condition cX4_condition 5 (some .boolean)) dn [.ref (g.2.2 42), .int x1] M (fun v M1 => r = (v, M1)))  {r : Int32 × zM} (E : zX g p m c cX4_atom 5 s args (zWs yX4_atom cX4_atom 5 (some .boolean)) RX4) (hret : zRi g xE 125 p l e (zrm (dn + 9) 0 0) s m args below meth c 0 0 Q cX4_atom .boolean (fun v M1 => r = (v, M1))) (M : zM) (x3 : Int32) (t0 : Int32)  (H : Heap) (locs : List Loc) (ls : Array Slot) (h : b_X4_atom_186 R_X4_atom R_X4_condition  M x3 t0 = some r) (hZ : zS g xE 125 s H locs M) (hl : lv_has ls 5 [(0, .ref (g.2.2 42)), (3, .int x3)]) : W p l e (zrm (dn + 9) 0 0) s m args below meth c H locs 0 0 Q (F0 m 186 ls [.int t0]) := by
  have hx := E.1.1
  have hb := E.1.2.1
  unfold b_X4_atom_186 at h
  refine lv_istore (lv' := [(4, .int t0), (0, .ref (g.2.2 42)), (3, .int x3)]) hx hb dX4_atom_186 hl (by decide) rfl (fun ls hl => ?_)
  refine lv_aload_n hx hb dX4_atom_188 rfl (lv_at hl 1 rfl) ?_
  refine zg (v := .ref (g.2.2 27)) E hZ (xb_X4 xs_42) ((xe_X4 xs_42) _) kc_X4 1 (by decide) kw_288 rfl rfl dX4_atom_189 ?_
  refine lv_sipush (v := 1000) hx hb dX4_atom_192 (by decide) ?_
  refine lv_iload_n hx hb dX4_atom_195 rfl (lv_at hl 2 rfl) ?_
  refine lv_iadd hx hb dX4_atom_196 ?_
  obtain ⟨u_13, qu_13, h⟩ := zbn_some h
  refine zcvS (zrunV E hZ (xb_X3 xs_27) ((xe_X3 xs_27) _) rfl rfl v_X3_addStep kw_822 (c_X3_addStep l g M 27 xs_27 (1000 + x3) qu_13 _) rfl hl.1 rfl (Nat.le_of_ble_eq_true rfl) ⟨by simp only [zrm]; omega, by simp only [zrm]; omega⟩ ⟨Nat.le_refl _, Nat.le_refl _⟩ dX4_atom_197) hZ (fun H locs hZ => ?_)
  refine lv_iload hx hb dX4_atom_200 (lv_at hl 0 rfl) ?_
  obtain ⟨hbl, h⟩ := zck_some h
  exact hret _ _ _ _ _ _ (Option.some.inj h).symm (zbl_n hbl) hZ dX4_atom_202
def b_X4_atom_185 (R_X4_atom : zM → Int32 → Option (Int32 × zM)) (R_X4_condition : zM → Int32 → Option (Int32 × zM))  (M : zM) (x3 : Int32) : Option (Int32 × zM) :=
  b_X4_atom_186 R_X4_atom R_X4_condition  M x3 0
set_option maxRecDepth 100000 in
set_option maxHeartbeats 4000000 in
theorem lb_X4_atom_185 (g : zG) (dn : Nat) (R_X4_atom : zM → Int32 → Option (Int32 × zM)) (R_X4_condition : zM → Int32 → Option (Int32 × zM)) (hR_X4_atom : ∀ (M : zM)  (x1 : Int32) (r : Int32 × zM), R_X4_atom M x1 = some r → zMi l g xE 125 yX4_atom (zWs yX4_atom cX4_atom 5 (some .boolean)) dn [.ref (g.2.2 42), .int x1] M (fun v M1 => r = (v, M1))) (hR_X4_condition : ∀ (M : zM)  (x1 : Int32) (r : Int32 × zM), R_X4_condition M x1 = some r → zMi l g xE 125 yX4_condition (zWs yX4_condition cX4_condition 5 (some .boolean)) dn [.ref (g.2.2 42), .int x1] M (fun v M1 => r = (v, M1)))  {r : Int32 × zM} (E : zX g p m c cX4_atom 5 s args (zWs yX4_atom cX4_atom 5 (some .boolean)) RX4) (hret : zRi g xE 125 p l e (zrm (dn + 9) 0 0) s m args below meth c 0 0 Q cX4_atom .boolean (fun v M1 => r = (v, M1))) (M : zM) (x3 : Int32)  (H : Heap) (locs : List Loc) (ls : Array Slot) (h : b_X4_atom_185 R_X4_atom R_X4_condition  M x3 = some r) (hZ : zS g xE 125 s H locs M) (hl : lv_has ls 5 [(0, .ref (g.2.2 42)), (3, .int x3)]) : W p l e (zrm (dn + 9) 0 0) s m args below meth c H locs 0 0 Q (F0 m 185 ls []) := by
  have hx := E.1.1
  have hb := E.1.2.1
  unfold b_X4_atom_185 at h
  refine lv_iconst (v := 0) hx hb dX4_atom_185 (by decide) ?_
  exact lb_X4_atom_186 g dn R_X4_atom R_X4_condition hR_X4_atom hR_X4_condition  E hret M x3 0  H locs ls h hZ (lv_sub hl [0, 1] rfl)
def b_X4_atom_162 (R_X4_atom : zM → Int32 → Option (Int32 × zM)) (R_X4_condition : zM → Int32 → Option (Int32 × zM))  (M : zM) (t0 : Int32) : Option (Int32 × zM) :=
  zbn (f_X7_takeSign M t0) (fun u_14 => if u_14.1 = 0 then (b_X4_atom_185 R_X4_atom R_X4_condition  u_14.2 t0) else (zbn (f_X4_sum u_14.2 ) (fun u_15 => if u_15.1 = 0 then (b_X4_atom_185 R_X4_atom R_X4_condition  u_15.2 t0) else (b_X4_atom_186 R_X4_atom R_X4_condition  u_15.2 t0 1))))
set_option maxRecDepth 100000 in
set_option maxHeartbeats 4000000 in
theorem lb_X4_atom_162 (g : zG) (dn : Nat) (R_X4_atom : zM → Int32 → Option (Int32 × zM)) (R_X4_condition : zM → Int32 → Option (Int32 × zM)) (hR_X4_atom : ∀ (M : zM)  (x1 : Int32) (r : Int32 × zM), R_X4_atom M x1 = some r → zMi l g xE 125 yX4_atom (zWs yX4_atom cX4_atom 5 (some .boolean)) dn [.ref (g.2.2 42), .int x1] M (fun v M1 => r = (v, M1))) (hR_X4_condition : ∀ (M : zM)  (x1 : Int32) (r : Int32 × zM), R_X4_condition M x1 = some r → zMi l g xE 125 yX4_condition (zWs yX4_condition cX4_condition 5 (some .boolean)) dn [.ref (g.2.2 42), .int x1] M (fun v M1 => r = (v, M1)))  {r : Int32 × zM} (E : zX g p m c cX4_atom 5 s args (zWs yX4_atom cX4_atom 5 (some .boolean)) RX4) (hret : zRi g xE 125 p l e (zrm (dn + 9) 0 0) s m args below meth c 0 0 Q cX4_atom .boolean (fun v M1 => r = (v, M1))) (M : zM) (t0 : Int32)  (H : Heap) (locs : List Loc) (ls : Array Slot) (h : b_X4_atom_162 R_X4_atom R_X4_condition  M t0 = some r) (hZ : zS g xE 125 s H locs M) (hl : lv_has ls 5 [(0, .ref (g.2.2 42))]) : W p l e (zrm (dn + 9) 0 0) s m args below meth c H locs 0 0 Q (F0 m 162 ls [.int t0]) := by
  have hx := E.1.1
  have hb := E.1.2.1
  unfold b_X4_atom_162 at h
  refine lv_istore_n (lv' := [(3, .int t0), (0, .ref (g.2.2 42))]) hx hb dX4_atom_162 rfl hl (by decide) rfl (fun ls hl => ?_)
  refine lv_aload_n hx hb dX4_atom_163 rfl (lv_at hl 1 rfl) ?_
  refine zg (v := .ref (g.2.2 39)) E hZ (xb_X4 xs_42) ((xe_X4 xs_42) _) kc_X4 0 (by decide) kw_287 rfl rfl dX4_atom_164 ?_
  refine lv_iload_n hx hb dX4_atom_167 rfl (lv_at hl 0 rfl) ?_
  obtain ⟨u_14, qu_14, h⟩ := zbn_some h
  refine zciS (zrunV E hZ (xb_X7 xs_39) ((xe_X7 xs_39) _) rfl rfl v_X7_takeSign kw_821 (c_X7_takeSign l g M  t0 qu_14 _) rfl hl.1 rfl (Nat.le_of_ble_eq_true rfl) ⟨by simp only [zrm]; omega, by simp only [zrm]; omega⟩ ⟨Nat.le_refl _, Nat.le_refl _⟩ dX4_atom_168) hZ (fun H locs hZ => ?_)
  refine zif_eq (tgt := 185) h E dX4_atom_171 (by decide) (fun c_17 h => ?_) (fun c_17 h => ?_)
  · exact lb_X4_atom_185 g dn R_X4_atom R_X4_condition hR_X4_atom hR_X4_condition  E hret u_14.2 t0  H locs ls h hZ (lv_sub hl [1, 0] rfl)
  · refine lv_aload_n hx hb dX4_atom_174 rfl (lv_at hl 1 rfl) ?_
    obtain ⟨u_15, qu_15, h⟩ := zbn_some h
    refine zciS (zrunV E hZ (xb_X4 xs_42) ((xe_X4 xs_42) _) rfl rfl v_X4_sum kw_827 (c_X4_sum l g u_14.2   qu_15 _) rfl hl.1 rfl (Nat.le_of_ble_eq_true rfl) ⟨by simp only [zrm]; omega, by simp only [zrm]; omega⟩ ⟨Nat.le_refl _, Nat.le_refl _⟩ dX4_atom_175) hZ (fun H locs hZ => ?_)
    refine zif_eq (tgt := 185) h E dX4_atom_178 (by decide) (fun c_16 h => ?_) (fun c_16 h => ?_)
    · exact lb_X4_atom_185 g dn R_X4_atom R_X4_condition hR_X4_atom hR_X4_condition  E hret u_15.2 t0  H locs ls h hZ (lv_sub hl [1, 0] rfl)
    · refine lv_iconst (v := 1) hx hb dX4_atom_181 (by decide) ?_
      refine lv_goto (tgt := 186) hx hb dX4_atom_182 (by decide) ?_
      exact lb_X4_atom_186 g dn R_X4_atom R_X4_condition hR_X4_atom hR_X4_condition  E hret u_15.2 t0 1  H locs ls h hZ (lv_sub hl [1, 0] rfl)
def g_X4_atom (R_X4_atom : zM → Int32 → Option (Int32 × zM)) (R_X4_condition : zM → Int32 → Option (Int32 × zM)) (M : zM) (x1 : Int32) : Option (Int32 × zM) :=
  zbn (f_X7_word M ) (fun u_18 => if u_18 = 20 then (b_X4_atom_26 R_X4_atom R_X4_condition  M x1 u_18) else (zbn (f_X7_isSign M 40) (fun u_19 => if u_19 = 0 then (if u_18 = 27 then (b_X4_atom_113 R_X4_atom R_X4_condition  M u_18) else (if u_18 = 28 then (b_X4_atom_113 R_X4_atom R_X4_condition  M u_18) else (zbn (f_X4_sum M ) (fun u_20 => if u_20.1 = 0 then (some (0, u_20.2)) else (zbn (f_X7_isSign u_20.2 60) (fun u_21 => if u_21 = 0 then (b_X4_atom_162 R_X4_atom R_X4_condition  u_20.2 62) else (b_X4_atom_162 R_X4_atom R_X4_condition  u_20.2 60))))))) else (b_X4_atom_26 R_X4_atom R_X4_condition  M x1 u_18))))
set_option maxRecDepth 100000 in
set_option maxHeartbeats 4000000 in
theorem w_X4_atom (g : zG) (dn : Nat) (R_X4_atom : zM → Int32 → Option (Int32 × zM)) (R_X4_condition : zM → Int32 → Option (Int32 × zM)) (hR_X4_atom : ∀ (M : zM)  (x1 : Int32) (r : Int32 × zM), R_X4_atom M x1 = some r → zMi l g xE 125 yX4_atom (zWs yX4_atom cX4_atom 5 (some .boolean)) dn [.ref (g.2.2 42), .int x1] M (fun v M1 => r = (v, M1))) (hR_X4_condition : ∀ (M : zM)  (x1 : Int32) (r : Int32 × zM), R_X4_condition M x1 = some r → zMi l g xE 125 yX4_condition (zWs yX4_condition cX4_condition 5 (some .boolean)) dn [.ref (g.2.2 42), .int x1] M (fun v M1 => r = (v, M1)))  {r : Int32 × zM} (E : zX g p m c cX4_atom 5 s args (zWs yX4_atom cX4_atom 5 (some .boolean)) RX4) (hret : zRi g xE 125 p l e (zrm (dn + 9) 0 0) s m args below meth c 0 0 Q cX4_atom .boolean (fun v M1 => r = (v, M1))) (M : zM) (x1 : Int32) (H : Heap) (locs : List Loc) (ls : Array Slot) (h : g_X4_atom R_X4_atom R_X4_condition M x1 = some r) (hZ : zS g xE 125 s H locs M) (hl : lv_has ls 5 [(0, .ref (g.2.2 42)), (1, .int x1)]) : W p l e (zrm (dn + 9) 0 0) s m args below meth c H locs 0 0 Q (F0 m 0 ls []) := by
  have hx := E.1.1
  have hb := E.1.2.1
  unfold g_X4_atom at h
  refine lv_aload_n hx hb dX4_atom_0 rfl (lv_at hl 0 rfl) ?_
  refine zg (v := .ref (g.2.2 39)) E hZ (xb_X4 xs_42) ((xe_X4 xs_42) _) kc_X4 0 (by decide) kw_287 rfl rfl dX4_atom_1 ?_
  obtain ⟨u_18, qu_18, h⟩ := zbn_some h
  refine zciR (zrunV E hZ (xb_X7 xs_39) ((xe_X7 xs_39) _) rfl rfl v_X7_word kw_808 (c_X7_word l g M   qu_18 _) rfl hl.1 rfl (Nat.le_of_ble_eq_true rfl) ⟨by simp only [zrm]; omega, by simp only [zrm]; omega⟩ ⟨Nat.le_refl _, Nat.le_refl _⟩ dX4_atom_4) hZ (fun H locs hZ => ?_)
  refine lv_istore_n (lv' := [(2, .int u_18), (0, .ref (g.2.2 42)), (1, .int x1)]) hx hb dX4_atom_7 rfl hl (by decide) rfl (fun ls hl => ?_)
  refine lv_iload_n hx hb dX4_atom_8 rfl (lv_at hl 0 rfl) ?_
  refine lv_bipush (v := 20) hx hb dX4_atom_9 (by decide) ?_
  refine zic_eq (tgt := 26) h E dX4_atom_11 (by decide) (fun c_27 h => ?_) (fun c_27 h => ?_)
  · exact lb_X4_atom_26 g dn R_X4_atom R_X4_condition hR_X4_atom hR_X4_condition  E hret M x1 u_18  H locs ls h hZ (lv_sub hl [1, 2, 0] rfl)
  · refine lv_aload_n hx hb dX4_atom_14 rfl (lv_at hl 1 rfl) ?_
    refine zg (v := .ref (g.2.2 39)) E hZ (xb_X4 xs_42) ((xe_X4 xs_42) _) kc_X4 0 (by decide) kw_287 rfl rfl dX4_atom_15 ?_
    refine lv_bipush (v := 40) hx hb dX4_atom_18 (by decide) ?_
    obtain ⟨u_19, qu_19, h⟩ := zbn_some h
    refine zciR (zrunV E hZ (xb_X7 xs_39) ((xe_X7 xs_39) _) rfl rfl v_X7_isSign kw_820 (c_X7_isSign l g M  40 qu_19 _) rfl hl.1 rfl (Nat.le_of_ble_eq_true rfl) ⟨by simp only [zrm]; omega, by simp only [zrm]; omega⟩ ⟨Nat.le_refl _, Nat.le_refl _⟩ dX4_atom_20) hZ (fun H locs hZ => ?_)
    refine zif_eq (tgt := 101) h E dX4_atom_23 (by decide) (fun c_26 h => ?_) (fun c_26 h => ?_)
    · refine lv_iload_n hx hb dX4_atom_101 rfl (lv_at hl 0 rfl) ?_
      refine lv_bipush (v := 27) hx hb dX4_atom_102 (by decide) ?_
      refine zic_eq (tgt := 113) h E dX4_atom_104 (by decide) (fun c_25 h => ?_) (fun c_25 h => ?_)
      · exact lb_X4_atom_113 g dn R_X4_atom R_X4_condition hR_X4_atom hR_X4_condition  E hret M u_18  H locs ls h hZ (lv_sub hl [1, 0] rfl)
      · refine lv_iload_n hx hb dX4_atom_107 rfl (lv_at hl 0 rfl) ?_
        refine lv_bipush (v := 28) hx hb dX4_atom_108 (by decide) ?_
        refine zic_ne (tgt := 134) h E dX4_atom_110 (by decide) (fun c_24 h => ?_) (fun c_24 h => ?_)
        · refine lv_aload_n hx hb dX4_atom_134 rfl (lv_at hl 1 rfl) ?_
          obtain ⟨u_20, qu_20, h⟩ := zbn_some h
          refine zciS (zrunV E hZ (xb_X4 xs_42) ((xe_X4 xs_42) _) rfl rfl v_X4_sum kw_827 (c_X4_sum l g M   qu_20 _) rfl hl.1 rfl (Nat.le_of_ble_eq_true rfl) ⟨by simp only [zrm]; omega, by simp only [zrm]; omega⟩ ⟨Nat.le_refl _, Nat.le_refl _⟩ dX4_atom_135) hZ (fun H locs hZ => ?_)
          refine zif_ne (tgt := 143) h E dX4_atom_138 (by decide) (fun c_23 h => ?_) (fun c_23 h => ?_)
          · refine lv_aload_n hx hb dX4_atom_143 rfl (lv_at hl 1 rfl) ?_
            refine zg (v := .ref (g.2.2 39)) E hZ (xb_X4 xs_42) ((xe_X4 xs_42) _) kc_X4 0 (by decide) kw_287 rfl rfl dX4_atom_144 ?_
            refine lv_bipush (v := 60) hx hb dX4_atom_147 (by decide) ?_
            obtain ⟨u_21, qu_21, h⟩ := zbn_some h
            refine zciR (zrunV E hZ (xb_X7 xs_39) ((xe_X7 xs_39) _) rfl rfl v_X7_isSign kw_820 (c_X7_isSign l g u_20.2  60 qu_21 _) rfl hl.1 rfl (Nat.le_of_ble_eq_true rfl) ⟨by simp only [zrm]; omega, by simp only [zrm]; omega⟩ ⟨Nat.le_refl _, Nat.le_refl _⟩ dX4_atom_149) hZ (fun H locs hZ => ?_)
            refine zif_eq (tgt := 160) h E dX4_atom_152 (by decide) (fun c_22 h => ?_) (fun c_22 h => ?_)
            · refine lv_bipush (v := 62) hx hb dX4_atom_160 (by decide) ?_
              exact lb_X4_atom_162 g dn R_X4_atom R_X4_condition hR_X4_atom hR_X4_condition  E hret u_20.2 62  H locs ls h hZ (lv_sub hl [1] rfl)
            · refine lv_bipush (v := 60) hx hb dX4_atom_155 (by decide) ?_
              refine lv_goto (tgt := 162) hx hb dX4_atom_157 (by decide) ?_
              exact lb_X4_atom_162 g dn R_X4_atom R_X4_condition hR_X4_atom hR_X4_condition  E hret u_20.2 60  H locs ls h hZ (lv_sub hl [1] rfl)
          · refine lv_iconst (v := 0) hx hb dX4_atom_141 (by decide) ?_
            exact hret _ _ _ _ _ _ (Option.some.inj h).symm rfl hZ dX4_atom_142
        · exact lb_X4_atom_113 g dn R_X4_atom R_X4_condition hR_X4_atom hR_X4_condition  E hret M u_18  H locs ls h hZ (lv_sub hl [1, 0] rfl)
    · exact lb_X4_atom_26 g dn R_X4_atom R_X4_condition hR_X4_atom hR_X4_condition  E hret M x1 u_18  H locs ls h hZ (lv_sub hl [1, 2, 0] rfl)
theorem oc_X4_atom (l : Launch) (g : zG) (dn : Nat) (R_X4_atom : zM → Int32 → Option (Int32 × zM)) (R_X4_condition : zM → Int32 → Option (Int32 × zM)) (hR_X4_atom : ∀ (M : zM)  (x1 : Int32) (r : Int32 × zM), R_X4_atom M x1 = some r → zMi l g xE 125 yX4_atom (zWs yX4_atom cX4_atom 5 (some .boolean)) dn [.ref (g.2.2 42), .int x1] M (fun v M1 => r = (v, M1))) (hR_X4_condition : ∀ (M : zM)  (x1 : Int32) (r : Int32 × zM), R_X4_condition M x1 = some r → zMi l g xE 125 yX4_condition (zWs yX4_condition cX4_condition 5 (some .boolean)) dn [.ref (g.2.2 42), .int x1] M (fun v M1 => r = (v, M1))) (M : zM)  (x1 : Int32) {r : Int32 × zM} (h : g_X4_atom R_X4_atom R_X4_condition M x1 = some r) : zMi l g xE 125 yX4_atom (zWs yX4_atom cX4_atom 5 (some .boolean)) (dn + 9) [.ref (g.2.2 42), .int x1] M (fun v M1 => r = (v, M1)) :=
  zMi_of (by decide +kernel) (Nat.le_of_ble_eq_true rfl) (fun p e s m args below meth c Q ls E hret hZ hl => w_X4_atom g dn R_X4_atom R_X4_condition hR_X4_atom hR_X4_condition  E hret M x1 _ _ ls h hZ hl)
def b_X4_condition_94 (R_X4_atom : zM → Int32 → Option (Int32 × zM)) (R_X4_condition : zM → Int32 → Option (Int32 × zM))  (M : zM) (x2 : Int32) (x3 : Int32) : Option (Int32 × zM) :=
  if x3 = 0 then (zck (zbl x2) (some (x2, M))) else (zbn (f_X3_addStep M 27 1018) (fun u_1 => zck (zbl x2) (some (x2, u_1))))
set_option maxRecDepth 100000 in
set_option maxHeartbeats 4000000 in
theorem lb_X4_condition_94 (g : zG) (dn : Nat) (R_X4_atom : zM → Int32 → Option (Int32 × zM)) (R_X4_condition : zM → Int32 → Option (Int32 × zM)) (hR_X4_atom : ∀ (M : zM)  (x1 : Int32) (r : Int32 × zM), R_X4_atom M x1 = some r → zMi l g xE 125 yX4_atom (zWs yX4_atom cX4_atom 5 (some .boolean)) dn [.ref (g.2.2 42), .int x1] M (fun v M1 => r = (v, M1))) (hR_X4_condition : ∀ (M : zM)  (x1 : Int32) (r : Int32 × zM), R_X4_condition M x1 = some r → zMi l g xE 125 yX4_condition (zWs yX4_condition cX4_condition 5 (some .boolean)) dn [.ref (g.2.2 42), .int x1] M (fun v M1 => r = (v, M1)))  {r : Int32 × zM} (E : zX g p m c cX4_condition 5 s args (zWs yX4_condition cX4_condition 5 (some .boolean)) RX4) (hret : zRi g xE 125 p l e (zrm (dn + 9) 0 0) s m args below meth c 0 0 Q cX4_condition .boolean (fun v M1 => r = (v, M1))) (M : zM) (x2 : Int32) (x3 : Int32)  (H : Heap) (locs : List Loc) (ls : Array Slot) (h : b_X4_condition_94 R_X4_atom R_X4_condition  M x2 x3 = some r) (hZ : zS g xE 125 s H locs M) (hl : lv_has ls 5 [(0, .ref (g.2.2 42)), (2, .int x2), (3, .int x3)]) : W p l e (zrm (dn + 9) 0 0) s m args below meth c H locs 0 0 Q (F0 m 94 ls []) := by
  have hx := E.1.1
  have hb := E.1.2.1
  unfold b_X4_condition_94 at h
  refine lv_iload_n hx hb dX4_condition_94 rfl (lv_at hl 2 rfl) ?_
  refine zif_eq (tgt := 108) h E dX4_condition_95 (by decide) (fun c_2 h => ?_) (fun c_2 h => ?_)
  · refine lv_iload_n hx hb dX4_condition_108 rfl (lv_at hl 1 rfl) ?_
    obtain ⟨hbl, h⟩ := zck_some h
    exact hret _ _ _ _ _ _ (Option.some.inj h).symm (zbl_n hbl) hZ dX4_condition_109
  · refine lv_aload_n hx hb dX4_condition_98 rfl (lv_at hl 0 rfl) ?_
    refine zg (v := .ref (g.2.2 27)) E hZ (xb_X4 xs_42) ((xe_X4 xs_42) _) kc_X4 1 (by decide) kw_288 rfl rfl dX4_condition_99 ?_
    refine lv_sipush (v := 1018) hx hb dX4_condition_102 (by decide) ?_
    obtain ⟨u_1, qu_1, h⟩ := zbn_some h
    refine zcvS (zrunV E hZ (xb_X3 xs_27) ((xe_X3 xs_27) _) rfl rfl v_X3_addStep kw_822 (c_X3_addStep l g M 27 xs_27 1018 qu_1 _) rfl hl.1 rfl (Nat.le_of_ble_eq_true rfl) ⟨by simp only [zrm]; omega, by simp only [zrm]; omega⟩ ⟨Nat.le_refl _, Nat.le_refl _⟩ dX4_condition_105) hZ (fun H locs hZ => ?_)
    refine lv_iload_n hx hb dX4_condition_108 rfl (lv_at hl 1 rfl) ?_
    obtain ⟨hbl, h⟩ := zck_some h
    exact hret _ _ _ _ _ _ (Option.some.inj h).symm (zbl_n hbl) hZ dX4_condition_109
def b_X4_condition_88 (R_X4_atom : zM → Int32 → Option (Int32 × zM)) (R_X4_condition : zM → Int32 → Option (Int32 × zM)) (K11 : zM → Int32 → Int32 → Int32 → Option (Int32 × zM)) (M : zM) (x1 : Int32) (x2 : Int32) (x3 : Int32) (x4 : Int32) : Option (Int32 × zM) :=
  znm (x4 + 1) (fun x4_3 => K11 M x2 x3 x4_3)
set_option maxRecDepth 100000 in
set_option maxHeartbeats 4000000 in
theorem lb_X4_condition_88 (g : zG) (dn : Nat) (R_X4_atom : zM → Int32 → Option (Int32 × zM)) (R_X4_condition : zM → Int32 → Option (Int32 × zM)) (hR_X4_atom : ∀ (M : zM)  (x1 : Int32) (r : Int32 × zM), R_X4_atom M x1 = some r → zMi l g xE 125 yX4_atom (zWs yX4_atom cX4_atom 5 (some .boolean)) dn [.ref (g.2.2 42), .int x1] M (fun v M1 => r = (v, M1))) (hR_X4_condition : ∀ (M : zM)  (x1 : Int32) (r : Int32 × zM), R_X4_condition M x1 = some r → zMi l g xE 125 yX4_condition (zWs yX4_condition cX4_condition 5 (some .boolean)) dn [.ref (g.2.2 42), .int x1] M (fun v M1 => r = (v, M1)))  {r : Int32 × zM} (E : zX g p m c cX4_condition 5 s args (zWs yX4_condition cX4_condition 5 (some .boolean)) RX4) (hret : zRi g xE 125 p l e (zrm (dn + 9) 0 0) s m args below meth c 0 0 Q cX4_condition .boolean (fun v M1 => r = (v, M1))) (M : zM) (x1 : Int32) (x2 : Int32) (x3 : Int32) (x4 : Int32) (K11 : zM → Int32 → Int32 → Int32 → Option (Int32 × zM)) (hK11 : ∀ (M : zM) (x2 : Int32) (x3 : Int32) (x4 : Int32) (H : Heap) (locs : List Loc) (ls : Array Slot), K11 M x2 x3 x4 = some r → zS g xE 125 s H locs M → lv_has ls 5 [(0, .ref (g.2.2 42)), (1, .int x1), (2, .int x2), (3, .int x3), (4, .int x4)] → W p l e (zrm (dn + 9) 0 0) s m args below meth c H locs 0 0 Q (F0 m 11 ls [])) (H : Heap) (locs : List Loc) (ls : Array Slot) (h : b_X4_condition_88 R_X4_atom R_X4_condition K11 M x1 x2 x3 x4 = some r) (hZ : zS g xE 125 s H locs M) (hl : lv_has ls 5 [(0, .ref (g.2.2 42)), (1, .int x1), (2, .int x2), (3, .int x3), (4, .int x4)]) : W p l e (zrm (dn + 9) 0 0) s m args below meth c H locs 0 0 Q (F0 m 88 ls []) := by
  have hx := E.1.1
  have hb := E.1.2.1
  unfold b_X4_condition_88 at h
  obtain ⟨x4_3, ex4_3, h⟩ := znm_ex h
  refine lv_iinc (v := x4_3) (lv' := [(4, .int x4_3), (0, .ref (g.2.2 42)), (1, .int x1), (2, .int x2), (3, .int x3)]) hx hb dX4_condition_88 hl (k := 4) rfl (by rw [ex4_3]; rfl) (by decide) rfl (fun ls hl => ?_)
  refine lv_goto (tgt := 11) hx hb dX4_condition_91 (by decide) ?_
  exact hK11 M x2 x3 x4_3 H locs ls h hZ (lv_sub hl [1, 2, 3, 4, 0] rfl)
def b_X4_condition_80 (R_X4_atom : zM → Int32 → Option (Int32 × zM)) (R_X4_condition : zM → Int32 → Option (Int32 × zM)) (K11 : zM → Int32 → Int32 → Int32 → Option (Int32 × zM)) (M : zM) (x1 : Int32) (x4 : Int32) : Option (Int32 × zM) :=
  zbn (R_X4_atom M x1) (fun u_4 => b_X4_condition_88 R_X4_atom R_X4_condition K11 u_4.2 x1 u_4.1 1 x4)
set_option maxRecDepth 100000 in
set_option maxHeartbeats 4000000 in
theorem lb_X4_condition_80 (g : zG) (dn : Nat) (R_X4_atom : zM → Int32 → Option (Int32 × zM)) (R_X4_condition : zM → Int32 → Option (Int32 × zM)) (hR_X4_atom : ∀ (M : zM)  (x1 : Int32) (r : Int32 × zM), R_X4_atom M x1 = some r → zMi l g xE 125 yX4_atom (zWs yX4_atom cX4_atom 5 (some .boolean)) dn [.ref (g.2.2 42), .int x1] M (fun v M1 => r = (v, M1))) (hR_X4_condition : ∀ (M : zM)  (x1 : Int32) (r : Int32 × zM), R_X4_condition M x1 = some r → zMi l g xE 125 yX4_condition (zWs yX4_condition cX4_condition 5 (some .boolean)) dn [.ref (g.2.2 42), .int x1] M (fun v M1 => r = (v, M1)))  {r : Int32 × zM} (E : zX g p m c cX4_condition 5 s args (zWs yX4_condition cX4_condition 5 (some .boolean)) RX4) (hret : zRi g xE 125 p l e (zrm (dn + 9) 0 0) s m args below meth c 0 0 Q cX4_condition .boolean (fun v M1 => r = (v, M1))) (M : zM) (x1 : Int32) (x4 : Int32) (K11 : zM → Int32 → Int32 → Int32 → Option (Int32 × zM)) (hK11 : ∀ (M : zM) (x2 : Int32) (x3 : Int32) (x4 : Int32) (H : Heap) (locs : List Loc) (ls : Array Slot), K11 M x2 x3 x4 = some r → zS g xE 125 s H locs M → lv_has ls 5 [(0, .ref (g.2.2 42)), (1, .int x1), (2, .int x2), (3, .int x3), (4, .int x4)] → W p l e (zrm (dn + 9) 0 0) s m args below meth c H locs 0 0 Q (F0 m 11 ls [])) (H : Heap) (locs : List Loc) (ls : Array Slot) (h : b_X4_condition_80 R_X4_atom R_X4_condition K11 M x1 x4 = some r) (hZ : zS g xE 125 s H locs M) (hl : lv_has ls 5 [(0, .ref (g.2.2 42)), (1, .int x1), (4, .int x4)]) : W p l e (zrm (dn + 9) 0 0) s m args below meth c H locs 0 0 Q (F0 m 80 ls []) := by
  have hx := E.1.1
  have hb := E.1.2.1
  unfold b_X4_condition_80 at h
  refine lv_iconst (v := 1) hx hb dX4_condition_80 (by decide) ?_
  refine lv_istore_n (lv' := [(3, .int 1), (0, .ref (g.2.2 42)), (1, .int x1), (4, .int x4)]) hx hb dX4_condition_81 rfl hl (by decide) rfl (fun ls hl => ?_)
  refine lv_aload_n hx hb dX4_condition_82 rfl (lv_at hl 1 rfl) ?_
  refine lv_iload_n hx hb dX4_condition_83 rfl (lv_at hl 2 rfl) ?_
  obtain ⟨u_4, qu_4, h⟩ := zbn_some h
  refine zciS (zrunV E hZ (xb_X4 xs_42) ((xe_X4 xs_42) _) rfl rfl v_X4_atom kw_816 (hR_X4_atom M  x1 _ qu_4 _) rfl hl.1 rfl (Nat.le_of_ble_eq_true rfl) ⟨by simp only [zrm]; omega, by simp only [zrm]; omega⟩ ⟨Nat.le_refl _, Nat.le_refl _⟩ dX4_condition_84) hZ (fun H locs hZ => ?_)
  refine lv_istore_n (lv' := [(2, .int u_4.1), (3, .int 1), (0, .ref (g.2.2 42)), (1, .int x1), (4, .int x4)]) hx hb dX4_condition_87 rfl hl (by decide) rfl (fun ls hl => ?_)
  exact lb_X4_condition_88 g dn R_X4_atom R_X4_condition hR_X4_atom hR_X4_condition  E hret u_4.2 x1 u_4.1 1 x4 K11 hK11 H locs ls h hZ (lv_sub hl [2, 3, 0, 1, 4] rfl)
def b_X4_condition_11 (R_X4_atom : zM → Int32 → Option (Int32 × zM)) (R_X4_condition : zM → Int32 → Option (Int32 × zM))  (x1 : Int32) : Nat → zM → Int32 → Int32 → Int32 → Option (Int32 × zM)
  | 0, _, _, _, _ => none
  | n + 1, M, x2, x3, x4 =>
    if x2 = 0 then (b_X4_condition_94 R_X4_atom R_X4_condition  M x2 x3) else (if 400 ≤ x4 then (b_X4_condition_94 R_X4_atom R_X4_condition  M x2 x3) else (zbn (f_X7_skipWord M 19) (fun u_5 => if u_5.1 = 0 then (zbn (f_X7_skipWord u_5.2 18) (fun u_6 => if u_6.1 = 0 then (b_X4_condition_94 R_X4_atom R_X4_condition  u_6.2 x2 x3) else (if x3 = 0 then (b_X4_condition_80 R_X4_atom R_X4_condition (fun M x2 x3 x4 => b_X4_condition_11 R_X4_atom R_X4_condition  x1 n M x2 x3 x4) u_6.2 x1 x4) else (zbn (f_X3_addStep u_6.2 27 1018) (fun u_7 => b_X4_condition_80 R_X4_atom R_X4_condition (fun M x2 x3 x4 => b_X4_condition_11 R_X4_atom R_X4_condition  x1 n M x2 x3 x4) u_7 x1 x4))))) else (zbn (R_X4_atom u_5.2 x1) (fun u_10 => zbn (f_X3_addStep u_10.2 27 1019) (fun u_11 => b_X4_condition_88 R_X4_atom R_X4_condition (fun M x2 x3 x4 => b_X4_condition_11 R_X4_atom R_X4_condition  x1 n M x2 x3 x4) u_11 x1 u_10.1 x3 x4))))))
set_option maxRecDepth 100000 in
set_option maxHeartbeats 4000000 in
theorem lb_X4_condition_11 (g : zG) (dn : Nat) (R_X4_atom : zM → Int32 → Option (Int32 × zM)) (R_X4_condition : zM → Int32 → Option (Int32 × zM)) (hR_X4_atom : ∀ (M : zM)  (x1 : Int32) (r : Int32 × zM), R_X4_atom M x1 = some r → zMi l g xE 125 yX4_atom (zWs yX4_atom cX4_atom 5 (some .boolean)) dn [.ref (g.2.2 42), .int x1] M (fun v M1 => r = (v, M1))) (hR_X4_condition : ∀ (M : zM)  (x1 : Int32) (r : Int32 × zM), R_X4_condition M x1 = some r → zMi l g xE 125 yX4_condition (zWs yX4_condition cX4_condition 5 (some .boolean)) dn [.ref (g.2.2 42), .int x1] M (fun v M1 => r = (v, M1)))  {r : Int32 × zM} (E : zX g p m c cX4_condition 5 s args (zWs yX4_condition cX4_condition 5 (some .boolean)) RX4) (hret : zRi g xE 125 p l e (zrm (dn + 9) 0 0) s m args below meth c 0 0 Q cX4_condition .boolean (fun v M1 => r = (v, M1))) (x1 : Int32)  : ∀ (n : Nat) (M : zM) (x2 : Int32) (x3 : Int32) (x4 : Int32) (H : Heap) (locs : List Loc) (ls : Array Slot), b_X4_condition_11 R_X4_atom R_X4_condition  x1 n M x2 x3 x4 = some r → zS g xE 125 s H locs M → lv_has ls 5 [(0, .ref (g.2.2 42)), (1, .int x1), (2, .int x2), (3, .int x3), (4, .int x4)] → W p l e (zrm (dn + 9) 0 0) s m args below meth c H locs 0 0 Q (F0 m 11 ls []) := by
  have hx := E.1.1
  have hb := E.1.2.1
  intro n
  induction n with
  | zero => intro M x2 x3 x4 H locs ls h hZ hl; cases h
  | succ n ih =>
    intro M x2 x3 x4 H locs ls h hZ hl
    rw [b_X4_condition_11] at h
    refine lv_iload_n hx hb dX4_condition_11 rfl (lv_at hl 2 rfl) ?_
    refine zif_eq (tgt := 94) h E dX4_condition_12 (by decide) (fun c_14 h => ?_) (fun c_14 h => ?_)
    · exact lb_X4_condition_94 g dn R_X4_atom R_X4_condition hR_X4_atom hR_X4_condition  E hret M x2 x3  H locs ls h hZ (lv_sub hl [0, 2, 3] rfl)
    · refine lv_iload hx hb dX4_condition_15 (lv_at hl 4 rfl) ?_
      refine lv_sipush (v := 400) hx hb dX4_condition_17 (by decide) ?_
      refine zic_ge (tgt := 94) h E dX4_condition_20 (by decide) (fun c_13 h => ?_) (fun c_13 h => ?_)
      · exact lb_X4_condition_94 g dn R_X4_atom R_X4_condition hR_X4_atom hR_X4_condition  E hret M x2 x3  H locs ls h hZ (lv_sub hl [0, 2, 3] rfl)
      · refine lv_aload_n hx hb dX4_condition_23 rfl (lv_at hl 0 rfl) ?_
        refine zg (v := .ref (g.2.2 39)) E hZ (xb_X4 xs_42) ((xe_X4 xs_42) _) kc_X4 0 (by decide) kw_287 rfl rfl dX4_condition_24 ?_
        refine lv_bipush (v := 19) hx hb dX4_condition_27 (by decide) ?_
        obtain ⟨u_5, qu_5, h⟩ := zbn_some h
        refine zciS (zrunV E hZ (xb_X7 xs_39) ((xe_X7 xs_39) _) rfl rfl v_X7_skipWord kw_811 (c_X7_skipWord l g M  19 qu_5 _) rfl hl.1 rfl (Nat.le_of_ble_eq_true rfl) ⟨by simp only [zrm]; omega, by simp only [zrm]; omega⟩ ⟨Nat.le_refl _, Nat.le_refl _⟩ dX4_condition_29) hZ (fun H locs hZ => ?_)
        refine zif_eq (tgt := 54) h E dX4_condition_32 (by decide) (fun c_12 h => ?_) (fun c_12 h => ?_)
        · refine lv_aload_n hx hb dX4_condition_54 rfl (lv_at hl 0 rfl) ?_
          refine zg (v := .ref (g.2.2 39)) E hZ (xb_X4 xs_42) ((xe_X4 xs_42) _) kc_X4 0 (by decide) kw_287 rfl rfl dX4_condition_55 ?_
          refine lv_bipush (v := 18) hx hb dX4_condition_58 (by decide) ?_
          obtain ⟨u_6, qu_6, h⟩ := zbn_some h
          refine zciS (zrunV E hZ (xb_X7 xs_39) ((xe_X7 xs_39) _) rfl rfl v_X7_skipWord kw_811 (c_X7_skipWord l g u_5.2  18 qu_6 _) rfl hl.1 rfl (Nat.le_of_ble_eq_true rfl) ⟨by simp only [zrm]; omega, by simp only [zrm]; omega⟩ ⟨Nat.le_refl _, Nat.le_refl _⟩ dX4_condition_60) hZ (fun H locs hZ => ?_)
          refine zif_eq (tgt := 94) h E dX4_condition_63 (by decide) (fun c_9 h => ?_) (fun c_9 h => ?_)
          · exact lb_X4_condition_94 g dn R_X4_atom R_X4_condition hR_X4_atom hR_X4_condition  E hret u_6.2 x2 x3  H locs ls h hZ (lv_sub hl [0, 2, 3] rfl)
          · refine lv_iload_n hx hb dX4_condition_66 rfl (lv_at hl 3 rfl) ?_
            refine zif_eq (tgt := 80) h E dX4_condition_67 (by decide) (fun c_8 h => ?_) (fun c_8 h => ?_)
            · exact lb_X4_condition_80 g dn R_X4_atom R_X4_condition hR_X4_atom hR_X4_condition  E hret u_6.2 x1 x4 (fun M x2 x3 x4 => b_X4_condition_11 R_X4_atom R_X4_condition  x1 n M x2 x3 x4) ih H locs ls h hZ (lv_sub hl [0, 1, 4] rfl)
            · refine lv_aload_n hx hb dX4_condition_70 rfl (lv_at hl 0 rfl) ?_
              refine zg (v := .ref (g.2.2 27)) E hZ (xb_X4 xs_42) ((xe_X4 xs_42) _) kc_X4 1 (by decide) kw_288 rfl rfl dX4_condition_71 ?_
              refine lv_sipush (v := 1018) hx hb dX4_condition_74 (by decide) ?_
              obtain ⟨u_7, qu_7, h⟩ := zbn_some h
              refine zcvS (zrunV E hZ (xb_X3 xs_27) ((xe_X3 xs_27) _) rfl rfl v_X3_addStep kw_822 (c_X3_addStep l g u_6.2 27 xs_27 1018 qu_7 _) rfl hl.1 rfl (Nat.le_of_ble_eq_true rfl) ⟨by simp only [zrm]; omega, by simp only [zrm]; omega⟩ ⟨Nat.le_refl _, Nat.le_refl _⟩ dX4_condition_77) hZ (fun H locs hZ => ?_)
              exact lb_X4_condition_80 g dn R_X4_atom R_X4_condition hR_X4_atom hR_X4_condition  E hret u_7 x1 x4 (fun M x2 x3 x4 => b_X4_condition_11 R_X4_atom R_X4_condition  x1 n M x2 x3 x4) ih H locs ls h hZ (lv_sub hl [0, 1, 4] rfl)
        · refine lv_aload_n hx hb dX4_condition_35 rfl (lv_at hl 0 rfl) ?_
          refine lv_iload_n hx hb dX4_condition_36 rfl (lv_at hl 1 rfl) ?_
          obtain ⟨u_10, qu_10, h⟩ := zbn_some h
          refine zciS (zrunV E hZ (xb_X4 xs_42) ((xe_X4 xs_42) _) rfl rfl v_X4_atom kw_816 (hR_X4_atom u_5.2  x1 _ qu_10 _) rfl hl.1 rfl (Nat.le_of_ble_eq_true rfl) ⟨by simp only [zrm]; omega, by simp only [zrm]; omega⟩ ⟨Nat.le_refl _, Nat.le_refl _⟩ dX4_condition_37) hZ (fun H locs hZ => ?_)
          refine lv_istore_n (lv' := [(2, .int u_10.1), (0, .ref (g.2.2 42)), (1, .int x1), (3, .int x3), (4, .int x4)]) hx hb dX4_condition_40 rfl hl (by decide) rfl (fun ls hl => ?_)
          refine lv_aload_n hx hb dX4_condition_41 rfl (lv_at hl 1 rfl) ?_
          refine zg (v := .ref (g.2.2 27)) E hZ (xb_X4 xs_42) ((xe_X4 xs_42) _) kc_X4 1 (by decide) kw_288 rfl rfl dX4_condition_42 ?_
          refine lv_sipush (v := 1019) hx hb dX4_condition_45 (by decide) ?_
          obtain ⟨u_11, qu_11, h⟩ := zbn_some h
          refine zcvS (zrunV E hZ (xb_X3 xs_27) ((xe_X3 xs_27) _) rfl rfl v_X3_addStep kw_822 (c_X3_addStep l g u_10.2 27 xs_27 1019 qu_11 _) rfl hl.1 rfl (Nat.le_of_ble_eq_true rfl) ⟨by simp only [zrm]; omega, by simp only [zrm]; omega⟩ ⟨Nat.le_refl _, Nat.le_refl _⟩ dX4_condition_48) hZ (fun H locs hZ => ?_)
          refine lv_goto (tgt := 88) hx hb dX4_condition_51 (by decide) ?_
          exact lb_X4_condition_88 g dn R_X4_atom R_X4_condition hR_X4_atom hR_X4_condition  E hret u_11 x1 u_10.1 x3 x4 (fun M x2 x3 x4 => b_X4_condition_11 R_X4_atom R_X4_condition  x1 n M x2 x3 x4) ih H locs ls h hZ (lv_sub hl [1, 2, 0, 3, 4] rfl)
def g_X4_condition (R_X4_atom : zM → Int32 → Option (Int32 × zM)) (R_X4_condition : zM → Int32 → Option (Int32 × zM)) (M : zM) (x1 : Int32) : Option (Int32 × zM) :=
  zbn (R_X4_atom M x1) (fun u_15 => b_X4_condition_11 R_X4_atom R_X4_condition  x1 6000 u_15.2 u_15.1 0 0)
set_option maxRecDepth 100000 in
set_option maxHeartbeats 4000000 in
theorem w_X4_condition (g : zG) (dn : Nat) (R_X4_atom : zM → Int32 → Option (Int32 × zM)) (R_X4_condition : zM → Int32 → Option (Int32 × zM)) (hR_X4_atom : ∀ (M : zM)  (x1 : Int32) (r : Int32 × zM), R_X4_atom M x1 = some r → zMi l g xE 125 yX4_atom (zWs yX4_atom cX4_atom 5 (some .boolean)) dn [.ref (g.2.2 42), .int x1] M (fun v M1 => r = (v, M1))) (hR_X4_condition : ∀ (M : zM)  (x1 : Int32) (r : Int32 × zM), R_X4_condition M x1 = some r → zMi l g xE 125 yX4_condition (zWs yX4_condition cX4_condition 5 (some .boolean)) dn [.ref (g.2.2 42), .int x1] M (fun v M1 => r = (v, M1)))  {r : Int32 × zM} (E : zX g p m c cX4_condition 5 s args (zWs yX4_condition cX4_condition 5 (some .boolean)) RX4) (hret : zRi g xE 125 p l e (zrm (dn + 9) 0 0) s m args below meth c 0 0 Q cX4_condition .boolean (fun v M1 => r = (v, M1))) (M : zM) (x1 : Int32) (H : Heap) (locs : List Loc) (ls : Array Slot) (h : g_X4_condition R_X4_atom R_X4_condition M x1 = some r) (hZ : zS g xE 125 s H locs M) (hl : lv_has ls 5 [(0, .ref (g.2.2 42)), (1, .int x1)]) : W p l e (zrm (dn + 9) 0 0) s m args below meth c H locs 0 0 Q (F0 m 0 ls []) := by
  have hx := E.1.1
  have hb := E.1.2.1
  unfold g_X4_condition at h
  refine lv_aload_n hx hb dX4_condition_0 rfl (lv_at hl 0 rfl) ?_
  refine lv_iload_n hx hb dX4_condition_1 rfl (lv_at hl 1 rfl) ?_
  obtain ⟨u_15, qu_15, h⟩ := zbn_some h
  refine zciS (zrunV E hZ (xb_X4 xs_42) ((xe_X4 xs_42) _) rfl rfl v_X4_atom kw_816 (hR_X4_atom M  x1 _ qu_15 _) rfl hl.1 rfl (Nat.le_of_ble_eq_true rfl) ⟨by simp only [zrm]; omega, by simp only [zrm]; omega⟩ ⟨Nat.le_refl _, Nat.le_refl _⟩ dX4_condition_2) hZ (fun H locs hZ => ?_)
  refine lv_istore_n (lv' := [(2, .int u_15.1), (0, .ref (g.2.2 42)), (1, .int x1)]) hx hb dX4_condition_5 rfl hl (by decide) rfl (fun ls hl => ?_)
  refine lv_iconst (v := 0) hx hb dX4_condition_6 (by decide) ?_
  refine lv_istore_n (lv' := [(3, .int 0), (2, .int u_15.1), (0, .ref (g.2.2 42)), (1, .int x1)]) hx hb dX4_condition_7 rfl hl (by decide) rfl (fun ls hl => ?_)
  refine lv_iconst (v := 0) hx hb dX4_condition_8 (by decide) ?_
  refine lv_istore (lv' := [(4, .int 0), (3, .int 0), (2, .int u_15.1), (0, .ref (g.2.2 42)), (1, .int x1)]) hx hb dX4_condition_9 hl (by decide) rfl (fun ls hl => ?_)
  exact lb_X4_condition_11 g dn R_X4_atom R_X4_condition hR_X4_atom hR_X4_condition  E hret x1  6000 u_15.2 u_15.1 0 0 H locs ls h hZ (lv_sub hl [3, 4, 2, 1, 0] rfl)
theorem oc_X4_condition (l : Launch) (g : zG) (dn : Nat) (R_X4_atom : zM → Int32 → Option (Int32 × zM)) (R_X4_condition : zM → Int32 → Option (Int32 × zM)) (hR_X4_atom : ∀ (M : zM)  (x1 : Int32) (r : Int32 × zM), R_X4_atom M x1 = some r → zMi l g xE 125 yX4_atom (zWs yX4_atom cX4_atom 5 (some .boolean)) dn [.ref (g.2.2 42), .int x1] M (fun v M1 => r = (v, M1))) (hR_X4_condition : ∀ (M : zM)  (x1 : Int32) (r : Int32 × zM), R_X4_condition M x1 = some r → zMi l g xE 125 yX4_condition (zWs yX4_condition cX4_condition 5 (some .boolean)) dn [.ref (g.2.2 42), .int x1] M (fun v M1 => r = (v, M1))) (M : zM)  (x1 : Int32) {r : Int32 × zM} (h : g_X4_condition R_X4_atom R_X4_condition M x1 = some r) : zMi l g xE 125 yX4_condition (zWs yX4_condition cX4_condition 5 (some .boolean)) (dn + 9) [.ref (g.2.2 42), .int x1] M (fun v M1 => r = (v, M1)) :=
  zMi_of (by decide +kernel) (Nat.le_of_ble_eq_true rfl) (fun p e s m args below meth c Q ls E hret hZ hl => w_X4_condition g dn R_X4_atom R_X4_condition hR_X4_atom hR_X4_condition  E hret M x1 _ _ ls h hZ hl)
def fr_X4 : Nat → (zM → Int32 → Option (Int32 × zM)) × (zM → Int32 → Option (Int32 × zM))
  | 0 => (fun _ _ => none, fun _ _ => none)
  | n + 1 => (g_X4_atom (fr_X4 n).1 (fr_X4 n).2, g_X4_condition (fr_X4 n).1 (fr_X4 n).2)
def f_X4_atom (M : zM) (x1 : Int32) : Option (Int32 × zM) := (fr_X4 24).1 M x1
def f_X4_condition (M : zM) (x1 : Int32) : Option (Int32 × zM) := (fr_X4 24).2 M x1
theorem cr_X4 (l : Launch) (g : zG) : ∀ n : Nat, (∀ (M : zM)  (x1 : Int32) (r : Int32 × zM), (fr_X4 n).1 M x1 = some r → zMi l g xE 125 yX4_atom (zWs yX4_atom cX4_atom 5 (some .boolean)) (9 * n) [.ref (g.2.2 42), .int x1] M (fun v M1 => r = (v, M1))) ∧ (∀ (M : zM)  (x1 : Int32) (r : Int32 × zM), (fr_X4 n).2 M x1 = some r → zMi l g xE 125 yX4_condition (zWs yX4_condition cX4_condition 5 (some .boolean)) (9 * n) [.ref (g.2.2 42), .int x1] M (fun v M1 => r = (v, M1))) := by
  intro n
  induction n with
  | zero => exact ⟨(by intros; rename_i h; cases h), (by intros; rename_i h; cases h)⟩
  | succ n ih =>
    obtain ⟨h0, h1⟩ := ih
    exact ⟨fun M x1 r h => oc_X4_atom l g (9 * n) _ _ h0 h1 M x1 h, fun M x1 r h => oc_X4_condition l g (9 * n) _ _ h0 h1 M x1 h⟩
theorem c_X4_atom (l : Launch) (g : zG) (M : zM)  (x1 : Int32) {r : Int32 × zM} (h : f_X4_atom M x1 = some r) : zMi l g xE 125 yX4_atom (zWs yX4_atom cX4_atom 5 (some .boolean)) 216 [.ref (g.2.2 42), .int x1] M (fun v M1 => r = (v, M1)) := (cr_X4 l g 24).1 M x1 _ h
theorem c_X4_condition (l : Launch) (g : zG) (M : zM)  (x1 : Int32) {r : Int32 × zM} (h : f_X4_condition M x1 = some r) : zMi l g xE 125 yX4_condition (zWs yX4_condition cX4_condition 5 (some .boolean)) 216 [.ref (g.2.2 42), .int x1] M (fun v M1 => r = (v, M1)) := (cr_X4 l g 24).2 M x1 _ h

def b_X4_line_91  (M : zM) (x1 : Int32) (x2 : Int32) : Option (Int32 × zM) :=
  zbn (f_X3_addLine M 27 x1 x2) (fun u_1 => some (1, u_1))
set_option maxRecDepth 100000 in
set_option maxHeartbeats 4000000 in
theorem lb_X4_line_91 (g : zG)  {r : Int32 × zM} (E : zX g p m c cX4_line 3 s args (zWs yX4_line cX4_line 3 (some .boolean)) RX4) (hret : zRi g xE 125 p l e (zrm 217 0 0) s m args below meth c 0 0 Q cX4_line .boolean (fun v M1 => r = (v, M1))) (M : zM) (x1 : Int32) (x2 : Int32)  (H : Heap) (locs : List Loc) (ls : Array Slot) (h : b_X4_line_91  M x1 x2 = some r) (hZ : zS g xE 125 s H locs M) (hl : lv_has ls 3 [(0, .ref (g.2.2 42)), (1, .int x1), (2, .int x2)]) : W p l e (zrm 217 0 0) s m args below meth c H locs 0 0 Q (F0 m 91 ls []) := by
  have hx := E.1.1
  have hb := E.1.2.1
  unfold b_X4_line_91 at h
  refine lv_aload_n hx hb dX4_line_91 rfl (lv_at hl 0 rfl) ?_
  refine zg (v := .ref (g.2.2 27)) E hZ (xb_X4 xs_42) ((xe_X4 xs_42) _) kc_X4 1 (by decide) kw_288 rfl rfl dX4_line_92 ?_
  refine lv_iload_n hx hb dX4_line_95 rfl (lv_at hl 1 rfl) ?_
  refine lv_iload_n hx hb dX4_line_96 rfl (lv_at hl 2 rfl) ?_
  obtain ⟨u_1, qu_1, h⟩ := zbn_some h
  refine zcvS (zrunV E hZ (xb_X3 xs_27) ((xe_X3 xs_27) _) rfl rfl v_X3_addLine kw_832 (c_X3_addLine l g M 27 xs_27 x1 x2 qu_1 _) rfl hl.1 rfl (Nat.le_of_ble_eq_true rfl) ⟨by decide, by decide⟩ ⟨by decide, by decide⟩ dX4_line_97) hZ (fun H locs hZ => ?_)
  refine lv_iconst (v := 1) hx hb dX4_line_100 (by decide) ?_
  exact hret _ _ _ _ _ _ (Option.some.inj h).symm rfl hZ dX4_line_101
def b_X4_line_61  (M : zM) (x1 : Int32) (t0 : Int32) : Option (Int32 × zM) :=
  if t0 = ((-1)) then (some (0, M)) else (zbn (f_X7_skipWord M 17) (fun u_2 => if u_2.1 = 0 then (b_X4_line_91  u_2.2 x1 t0) else (zbn (f_X4_condition u_2.2 0) (fun u_3 => if u_3.1 = 0 then (some (0, u_3.2)) else (b_X4_line_91  u_3.2 x1 t0)))))
set_option maxRecDepth 100000 in
set_option maxHeartbeats 4000000 in
theorem lb_X4_line_61 (g : zG)  {r : Int32 × zM} (E : zX g p m c cX4_line 3 s args (zWs yX4_line cX4_line 3 (some .boolean)) RX4) (hret : zRi g xE 125 p l e (zrm 217 0 0) s m args below meth c 0 0 Q cX4_line .boolean (fun v M1 => r = (v, M1))) (M : zM) (x1 : Int32) (t0 : Int32)  (H : Heap) (locs : List Loc) (ls : Array Slot) (h : b_X4_line_61  M x1 t0 = some r) (hZ : zS g xE 125 s H locs M) (hl : lv_has ls 3 [(0, .ref (g.2.2 42)), (1, .int x1)]) : W p l e (zrm 217 0 0) s m args below meth c H locs 0 0 Q (F0 m 61 ls [.int t0]) := by
  have hx := E.1.1
  have hb := E.1.2.1
  unfold b_X4_line_61 at h
  refine lv_istore_n (lv' := [(2, .int t0), (0, .ref (g.2.2 42)), (1, .int x1)]) hx hb dX4_line_61 rfl hl (by decide) rfl (fun ls hl => ?_)
  refine lv_iload_n hx hb dX4_line_62 rfl (lv_at hl 0 rfl) ?_
  refine lv_iconst (v := (-1)) hx hb dX4_line_63 (by decide) ?_
  refine zic_ne (tgt := 69) h E dX4_line_64 (by decide) (fun c_6 h => ?_) (fun c_6 h => ?_)
  · refine lv_aload_n hx hb dX4_line_69 rfl (lv_at hl 1 rfl) ?_
    refine zg (v := .ref (g.2.2 39)) E hZ (xb_X4 xs_42) ((xe_X4 xs_42) _) kc_X4 0 (by decide) kw_287 rfl rfl dX4_line_70 ?_
    refine lv_bipush (v := 17) hx hb dX4_line_73 (by decide) ?_
    obtain ⟨u_2, qu_2, h⟩ := zbn_some h
    refine zciS (zrunV E hZ (xb_X7 xs_39) ((xe_X7 xs_39) _) rfl rfl v_X7_skipWord kw_811 (c_X7_skipWord l g M  17 qu_2 _) rfl hl.1 rfl (Nat.le_of_ble_eq_true rfl) ⟨by decide, by decide⟩ ⟨by decide, by decide⟩ dX4_line_75) hZ (fun H locs hZ => ?_)
    refine zif_eq (tgt := 91) h E dX4_line_78 (by decide) (fun c_5 h => ?_) (fun c_5 h => ?_)
    · exact lb_X4_line_91 g  E hret u_2.2 x1 t0  H locs ls h hZ (lv_sub hl [1, 2, 0] rfl)
    · refine lv_aload_n hx hb dX4_line_81 rfl (lv_at hl 1 rfl) ?_
      refine lv_iconst (v := 0) hx hb dX4_line_82 (by decide) ?_
      obtain ⟨u_3, qu_3, h⟩ := zbn_some h
      refine zciS (zrunV E hZ (xb_X4 xs_42) ((xe_X4 xs_42) _) rfl rfl v_X4_condition kw_812 (c_X4_condition l g u_2.2  0 qu_3 _) rfl hl.1 rfl (Nat.le_of_ble_eq_true rfl) ⟨by decide, by decide⟩ ⟨by decide, by decide⟩ dX4_line_83) hZ (fun H locs hZ => ?_)
      refine zif_ne (tgt := 91) h E dX4_line_86 (by decide) (fun c_4 h => ?_) (fun c_4 h => ?_)
      · exact lb_X4_line_91 g  E hret u_3.2 x1 t0  H locs ls h hZ (lv_sub hl [1, 2, 0] rfl)
      · refine lv_iconst (v := 0) hx hb dX4_line_89 (by decide) ?_
        exact hret _ _ _ _ _ _ (Option.some.inj h).symm rfl hZ dX4_line_90
  · refine lv_iconst (v := 0) hx hb dX4_line_67 (by decide) ?_
    exact hret _ _ _ _ _ _ (Option.some.inj h).symm rfl hZ dX4_line_68
def b_X4_line_34  (M : zM) (x1 : Int32) : Option (Int32 × zM) :=
  zbn (f_X7_next M ) (fun u_7 => if x1 = 15 then (b_X4_line_61  u_7 x1 1) else (zbn (f_X7_takeNumber u_7 0 9) (fun u_8 => b_X4_line_61  u_8.2 x1 u_8.1)))
set_option maxRecDepth 100000 in
set_option maxHeartbeats 4000000 in
theorem lb_X4_line_34 (g : zG)  {r : Int32 × zM} (E : zX g p m c cX4_line 3 s args (zWs yX4_line cX4_line 3 (some .boolean)) RX4) (hret : zRi g xE 125 p l e (zrm 217 0 0) s m args below meth c 0 0 Q cX4_line .boolean (fun v M1 => r = (v, M1))) (M : zM) (x1 : Int32)  (H : Heap) (locs : List Loc) (ls : Array Slot) (h : b_X4_line_34  M x1 = some r) (hZ : zS g xE 125 s H locs M) (hl : lv_has ls 3 [(0, .ref (g.2.2 42)), (1, .int x1)]) : W p l e (zrm 217 0 0) s m args below meth c H locs 0 0 Q (F0 m 34 ls []) := by
  have hx := E.1.1
  have hb := E.1.2.1
  unfold b_X4_line_34 at h
  refine lv_aload_n hx hb dX4_line_34 rfl (lv_at hl 0 rfl) ?_
  refine zg (v := .ref (g.2.2 39)) E hZ (xb_X4 xs_42) ((xe_X4 xs_42) _) kc_X4 0 (by decide) kw_287 rfl rfl dX4_line_35 ?_
  obtain ⟨u_7, qu_7, h⟩ := zbn_some h
  refine zcvS (zrunV E hZ (xb_X7 xs_39) ((xe_X7 xs_39) _) rfl rfl v_X7_next kw_809 (c_X7_next l g M   qu_7 _) rfl hl.1 rfl (Nat.le_of_ble_eq_true rfl) ⟨by decide, by decide⟩ ⟨by decide, by decide⟩ dX4_line_38) hZ (fun H locs hZ => ?_)
  refine lv_iload_n hx hb dX4_line_41 rfl (lv_at hl 1 rfl) ?_
  refine lv_bipush (v := 15) hx hb dX4_line_42 (by decide) ?_
  refine zic_ne (tgt := 51) h E dX4_line_44 (by decide) (fun c_9 h => ?_) (fun c_9 h => ?_)
  · refine lv_aload_n hx hb dX4_line_51 rfl (lv_at hl 0 rfl) ?_
    refine zg (v := .ref (g.2.2 39)) E hZ (xb_X4 xs_42) ((xe_X4 xs_42) _) kc_X4 0 (by decide) kw_287 rfl rfl dX4_line_52 ?_
    refine lv_iconst (v := 0) hx hb dX4_line_55 (by decide) ?_
    refine lv_bipush (v := 9) hx hb dX4_line_56 (by decide) ?_
    obtain ⟨u_8, qu_8, h⟩ := zbn_some h
    refine zciS (zrunV E hZ (xb_X7 xs_39) ((xe_X7 xs_39) _) rfl rfl v_X7_takeNumber kw_810 (c_X7_takeNumber l g u_7  0 9 qu_8 _) rfl hl.1 rfl (Nat.le_of_ble_eq_true rfl) ⟨by decide, by decide⟩ ⟨by decide, by decide⟩ dX4_line_58) hZ (fun H locs hZ => ?_)
    exact lb_X4_line_61 g  E hret u_8.2 x1 u_8.1  H locs ls h hZ (lv_sub hl [0, 1] rfl)
  · refine lv_iconst (v := 1) hx hb dX4_line_47 (by decide) ?_
    refine lv_goto (tgt := 61) hx hb dX4_line_48 (by decide) ?_
    exact lb_X4_line_61 g  E hret u_7 x1 1  H locs ls h hZ (lv_sub hl [0, 1] rfl)
def f_X4_line (M : zM)  : Option (Int32 × zM) :=
  zbn (f_X7_word M ) (fun u_10 => if u_10 = 14 then (b_X4_line_34  M u_10) else (if u_10 = 15 then (b_X4_line_34  M u_10) else (if u_10 = 16 then (b_X4_line_34  M u_10) else (zbn (f_X7_miss M ) (fun u_11 => zck (zbl u_11.1) (some (u_11.1, u_11.2)))))))
set_option maxRecDepth 100000 in
set_option maxHeartbeats 4000000 in
theorem w_X4_line (g : zG)  {r : Int32 × zM} (E : zX g p m c cX4_line 3 s args (zWs yX4_line cX4_line 3 (some .boolean)) RX4) (hret : zRi g xE 125 p l e (zrm 217 0 0) s m args below meth c 0 0 Q cX4_line .boolean (fun v M1 => r = (v, M1))) (M : zM)  (H : Heap) (locs : List Loc) (ls : Array Slot) (h : f_X4_line M  = some r) (hZ : zS g xE 125 s H locs M) (hl : lv_has ls 3 [(0, .ref (g.2.2 42))]) : W p l e (zrm 217 0 0) s m args below meth c H locs 0 0 Q (F0 m 0 ls []) := by
  have hx := E.1.1
  have hb := E.1.2.1
  unfold f_X4_line at h
  refine lv_aload_n hx hb dX4_line_0 rfl (lv_at hl 0 rfl) ?_
  refine zg (v := .ref (g.2.2 39)) E hZ (xb_X4 xs_42) ((xe_X4 xs_42) _) kc_X4 0 (by decide) kw_287 rfl rfl dX4_line_1 ?_
  obtain ⟨u_10, qu_10, h⟩ := zbn_some h
  refine zciR (zrunV E hZ (xb_X7 xs_39) ((xe_X7 xs_39) _) rfl rfl v_X7_word kw_808 (c_X7_word l g M   qu_10 _) rfl hl.1 rfl (Nat.le_of_ble_eq_true rfl) ⟨by decide, by decide⟩ ⟨by decide, by decide⟩ dX4_line_4) hZ (fun H locs hZ => ?_)
  refine lv_istore_n (lv' := [(1, .int u_10), (0, .ref (g.2.2 42))]) hx hb dX4_line_7 rfl hl (by decide) rfl (fun ls hl => ?_)
  refine lv_iload_n hx hb dX4_line_8 rfl (lv_at hl 0 rfl) ?_
  refine lv_bipush (v := 14) hx hb dX4_line_9 (by decide) ?_
  refine zic_eq (tgt := 34) h E dX4_line_11 (by decide) (fun c_14 h => ?_) (fun c_14 h => ?_)
  · exact lb_X4_line_34 g  E hret M u_10  H locs ls h hZ (lv_sub hl [1, 0] rfl)
  · refine lv_iload_n hx hb dX4_line_14 rfl (lv_at hl 0 rfl) ?_
    refine lv_bipush (v := 15) hx hb dX4_line_15 (by decide) ?_
    refine zic_eq (tgt := 34) h E dX4_line_17 (by decide) (fun c_13 h => ?_) (fun c_13 h => ?_)
    · exact lb_X4_line_34 g  E hret M u_10  H locs ls h hZ (lv_sub hl [1, 0] rfl)
    · refine lv_iload_n hx hb dX4_line_20 rfl (lv_at hl 0 rfl) ?_
      refine lv_bipush (v := 16) hx hb dX4_line_21 (by decide) ?_
      refine zic_eq (tgt := 34) h E dX4_line_23 (by decide) (fun c_12 h => ?_) (fun c_12 h => ?_)
      · exact lb_X4_line_34 g  E hret M u_10  H locs ls h hZ (lv_sub hl [1, 0] rfl)
      · refine lv_aload_n hx hb dX4_line_26 rfl (lv_at hl 1 rfl) ?_
        refine zg (v := .ref (g.2.2 39)) E hZ (xb_X4 xs_42) ((xe_X4 xs_42) _) kc_X4 0 (by decide) kw_287 rfl rfl dX4_line_27 ?_
        obtain ⟨u_11, qu_11, h⟩ := zbn_some h
        refine zciS (zrunV E hZ (xb_X7 xs_39) ((xe_X7 xs_39) _) rfl rfl v_X7_miss kw_803 (c_X7_miss l g M   qu_11 _) rfl hl.1 rfl (Nat.le_of_ble_eq_true rfl) ⟨by decide, by decide⟩ ⟨by decide, by decide⟩ dX4_line_30) hZ (fun H locs hZ => ?_)
        obtain ⟨hbl, h⟩ := zck_some h
        exact hret _ _ _ _ _ _ (Option.some.inj h).symm (zbl_n hbl) hZ dX4_line_33
theorem c_X4_line (l : Launch) (g : zG) (M : zM)   {r : Int32 × zM} (h : f_X4_line M  = some r) : zMi l g xE 125 yX4_line (zWs yX4_line cX4_line 3 (some .boolean)) 217 [.ref (g.2.2 42)] M (fun v M1 => r = (v, M1)) :=
  zMi_of (by decide +kernel) (Nat.le_of_ble_eq_true rfl) (fun p e s m args below meth c Q ls E hret hZ hl => w_X4_line g  E hret M  _ _ ls h hZ hl)
theorem v_X4_line : zYV yX4_line cX4_line 3 (some .boolean) 0 := ⟨kw_807, kw_11, kw_806, kp_21, by decide +kernel⟩

def b_X4_read_89  (M : zM) : Option (Int32 × zM) :=
  some (M 39 6, M)
set_option maxRecDepth 100000 in
set_option maxHeartbeats 4000000 in
theorem lb_X4_read_89 (g : zG)  {r : Int32 × zM} (E : zX g p m c cX4_read 2 s args (zWs yX4_read cX4_read 2 (some .int)) RX4) (hret : zRi g xE 125 p l e (zrm 218 0 0) s m args below meth c 0 0 Q cX4_read .int (fun v M1 => r = (v, M1))) (M : zM)  (H : Heap) (locs : List Loc) (ls : Array Slot) (h : b_X4_read_89  M = some r) (hZ : zS g xE 125 s H locs M) (hl : lv_has ls 2 [(0, .ref (g.2.2 42))]) : W p l e (zrm 218 0 0) s m args below meth c H locs 0 0 Q (F0 m 89 ls []) := by
  have hx := E.1.1
  have hb := E.1.2.1
  unfold b_X4_read_89 at h
  refine lv_aload_n hx hb dX4_read_89 rfl (lv_at hl 0 rfl) ?_
  refine zg (v := .ref (g.2.2 39)) E hZ (xb_X4 xs_42) ((xe_X4 xs_42) _) kc_X4 0 (by decide) kw_287 rfl rfl dX4_read_90 ?_
  refine zg (v := .int (M 39 6)) E hZ (xb_X7 xs_39) ((xe_X7 xs_39) _) kc_X7 6 (by decide) kw_253 rfl rfl dX4_read_93 ?_
  exact hret _ _ _ _ _ _ (Option.some.inj h).symm rfl hZ dX4_read_96
def b_X4_read_80  (M : zM) : Option (Int32 × zM) :=
  b_X4_read_89  M
set_option maxRecDepth 100000 in
set_option maxHeartbeats 4000000 in
theorem lb_X4_read_80 (g : zG)  {r : Int32 × zM} (E : zX g p m c cX4_read 2 s args (zWs yX4_read cX4_read 2 (some .int)) RX4) (hret : zRi g xE 125 p l e (zrm 218 0 0) s m args below meth c 0 0 Q cX4_read .int (fun v M1 => r = (v, M1))) (M : zM)  (H : Heap) (locs : List Loc) (ls : Array Slot) (h : b_X4_read_80  M = some r) (hZ : zS g xE 125 s H locs M) (hl : lv_has ls 2 [(0, .ref (g.2.2 42))]) : W p l e (zrm 218 0 0) s m args below meth c H locs 0 0 Q (F0 m 80 ls []) := by
  have hx := E.1.1
  have hb := E.1.2.1
  unfold b_X4_read_80 at h
  refine lv_goto (tgt := 89) hx hb dX4_read_80 (by decide) ?_
  exact lb_X4_read_89 g  E hret M  H locs ls h hZ (lv_sub hl [0] rfl)
def b_X4_read_40  (M : zM) : Option (Int32 × zM) :=
  zbn (f_X7_miss M ) (fun u_1 => b_X4_read_89  u_1.2)
set_option maxRecDepth 100000 in
set_option maxHeartbeats 4000000 in
theorem lb_X4_read_40 (g : zG)  {r : Int32 × zM} (E : zX g p m c cX4_read 2 s args (zWs yX4_read cX4_read 2 (some .int)) RX4) (hret : zRi g xE 125 p l e (zrm 218 0 0) s m args below meth c 0 0 Q cX4_read .int (fun v M1 => r = (v, M1))) (M : zM)  (H : Heap) (locs : List Loc) (ls : Array Slot) (h : b_X4_read_40  M = some r) (hZ : zS g xE 125 s H locs M) (hl : lv_has ls 2 [(0, .ref (g.2.2 42))]) : W p l e (zrm 218 0 0) s m args below meth c H locs 0 0 Q (F0 m 40 ls []) := by
  have hx := E.1.1
  have hb := E.1.2.1
  unfold b_X4_read_40 at h
  refine lv_aload_n hx hb dX4_read_40 rfl (lv_at hl 0 rfl) ?_
  refine zg (v := .ref (g.2.2 39)) E hZ (xb_X4 xs_42) ((xe_X4 xs_42) _) kc_X4 0 (by decide) kw_287 rfl rfl dX4_read_41 ?_
  obtain ⟨u_1, qu_1, h⟩ := zbn_some h
  refine zciS (zrunV E hZ (xb_X7 xs_39) ((xe_X7 xs_39) _) rfl rfl v_X7_miss kw_803 (c_X7_miss l g M   qu_1 _) rfl hl.1 rfl (Nat.le_of_ble_eq_true rfl) ⟨by decide, by decide⟩ ⟨by decide, by decide⟩ dX4_read_44) hZ (fun H locs hZ => ?_)
  refine lv_pop hx hb dX4_read_47 rfl ?_
  refine lv_goto (tgt := 89) hx hb dX4_read_48 (by decide) ?_
  exact lb_X4_read_89 g  E hret u_1.2  H locs ls h hZ (lv_sub hl [0] rfl)
def b_X4_read_28   : Nat → zM → Int32 → Option (Int32 × zM)
  | 0, _, _ => none
  | n + 1, M, x1 =>
    if 12 < x1 then (b_X4_read_89  M) else (if x1 = 12 then (b_X4_read_40  M) else (zbn (f_X4_line M ) (fun u_2 => if u_2.1 = 0 then (b_X4_read_89  u_2.2) else (zbn (f_X7_ended u_2.2 ) (fun u_3 => if u_3 = 0 then (zbn (f_X7_takeSign u_2.2 59) (fun u_4 => if u_4.1 = 0 then (b_X4_read_80  u_4.2) else (znm (x1 + 1) (fun x1_5 => b_X4_read_28   n u_4.2 x1_5)))) else (b_X4_read_89  u_2.2))))))
set_option maxRecDepth 100000 in
set_option maxHeartbeats 4000000 in
theorem lb_X4_read_28 (g : zG)  {r : Int32 × zM} (E : zX g p m c cX4_read 2 s args (zWs yX4_read cX4_read 2 (some .int)) RX4) (hret : zRi g xE 125 p l e (zrm 218 0 0) s m args below meth c 0 0 Q cX4_read .int (fun v M1 => r = (v, M1)))   : ∀ (n : Nat) (M : zM) (x1 : Int32) (H : Heap) (locs : List Loc) (ls : Array Slot), b_X4_read_28   n M x1 = some r → zS g xE 125 s H locs M → lv_has ls 2 [(0, .ref (g.2.2 42)), (1, .int x1)] → W p l e (zrm 218 0 0) s m args below meth c H locs 0 0 Q (F0 m 28 ls []) := by
  have hx := E.1.1
  have hb := E.1.2.1
  intro n
  induction n with
  | zero => intro M x1 H locs ls h hZ hl; cases h
  | succ n ih =>
    intro M x1 H locs ls h hZ hl
    rw [b_X4_read_28] at h
    refine lv_iload_n hx hb dX4_read_28 rfl (lv_at hl 1 rfl) ?_
    refine lv_bipush (v := 12) hx hb dX4_read_29 (by decide) ?_
    refine zic_gt (tgt := 89) h E dX4_read_31 (by decide) (fun c_10 h => ?_) (fun c_10 h => ?_)
    · exact lb_X4_read_89 g  E hret M  H locs ls h hZ (lv_sub hl [0] rfl)
    · refine lv_iload_n hx hb dX4_read_34 rfl (lv_at hl 1 rfl) ?_
      refine lv_bipush (v := 12) hx hb dX4_read_35 (by decide) ?_
      refine zic_ne (tgt := 51) h E dX4_read_37 (by decide) (fun c_9 h => ?_) (fun c_9 h => ?_)
      · refine lv_aload_n hx hb dX4_read_51 rfl (lv_at hl 0 rfl) ?_
        obtain ⟨u_2, qu_2, h⟩ := zbn_some h
        refine zciS (zrunV E hZ (xb_X4 xs_42) ((xe_X4 xs_42) _) rfl rfl v_X4_line kw_804 (c_X4_line l g M   qu_2 _) rfl hl.1 rfl (Nat.le_of_ble_eq_true rfl) ⟨by decide, by decide⟩ ⟨by decide, by decide⟩ dX4_read_52) hZ (fun H locs hZ => ?_)
        refine zif_eq (tgt := 89) h E dX4_read_55 (by decide) (fun c_8 h => ?_) (fun c_8 h => ?_)
        · exact lb_X4_read_89 g  E hret u_2.2  H locs ls h hZ (lv_sub hl [0] rfl)
        · refine lv_aload_n hx hb dX4_read_58 rfl (lv_at hl 0 rfl) ?_
          refine zg (v := .ref (g.2.2 39)) E hZ (xb_X4 xs_42) ((xe_X4 xs_42) _) kc_X4 0 (by decide) kw_287 rfl rfl dX4_read_59 ?_
          obtain ⟨u_3, qu_3, h⟩ := zbn_some h
          refine zciR (zrunV E hZ (xb_X7 xs_39) ((xe_X7 xs_39) _) rfl rfl v_X7_ended kw_802 (c_X7_ended l g u_2.2   qu_3 _) rfl hl.1 rfl (Nat.le_of_ble_eq_true rfl) ⟨by decide, by decide⟩ ⟨by decide, by decide⟩ dX4_read_62) hZ (fun H locs hZ => ?_)
          refine zif_ne (tgt := 89) h E dX4_read_65 (by decide) (fun c_7 h => ?_) (fun c_7 h => ?_)
          · exact lb_X4_read_89 g  E hret u_2.2  H locs ls h hZ (lv_sub hl [0] rfl)
          · refine lv_aload_n hx hb dX4_read_68 rfl (lv_at hl 0 rfl) ?_
            refine zg (v := .ref (g.2.2 39)) E hZ (xb_X4 xs_42) ((xe_X4 xs_42) _) kc_X4 0 (by decide) kw_287 rfl rfl dX4_read_69 ?_
            refine lv_bipush (v := 59) hx hb dX4_read_72 (by decide) ?_
            obtain ⟨u_4, qu_4, h⟩ := zbn_some h
            refine zciS (zrunV E hZ (xb_X7 xs_39) ((xe_X7 xs_39) _) rfl rfl v_X7_takeSign kw_821 (c_X7_takeSign l g u_2.2  59 qu_4 _) rfl hl.1 rfl (Nat.le_of_ble_eq_true rfl) ⟨by decide, by decide⟩ ⟨by decide, by decide⟩ dX4_read_74) hZ (fun H locs hZ => ?_)
            refine zif_ne (tgt := 83) h E dX4_read_77 (by decide) (fun c_6 h => ?_) (fun c_6 h => ?_)
            · obtain ⟨x1_5, ex1_5, h⟩ := znm_ex h
              refine lv_iinc (v := x1_5) (lv' := [(1, .int x1_5), (0, .ref (g.2.2 42))]) hx hb dX4_read_83 hl (k := 1) rfl (by rw [ex1_5]; rfl) (by decide) rfl (fun ls hl => ?_)
              refine lv_goto (tgt := 28) hx hb dX4_read_86 (by decide) ?_
              exact ih u_4.2 x1_5 H locs ls h hZ (lv_sub hl [1, 0] rfl)
            · exact lb_X4_read_80 g  E hret u_4.2  H locs ls h hZ (lv_sub hl [0] rfl)
      · exact lb_X4_read_40 g  E hret M  H locs ls h hZ (lv_sub hl [0] rfl)
def f_X4_read (M : zM)  : Option (Int32 × zM) :=
  zbn (f_X3_clear M 27) (fun u_11 => zbn (f_X7_open u_11 ) (fun u_12 => zbn (f_X7_ended u_12 ) (fun u_13 => if u_13 = 0 then (b_X4_read_28   6000 u_12 0) else (some ((-1), u_12)))))
set_option maxRecDepth 100000 in
set_option maxHeartbeats 4000000 in
theorem w_X4_read (g : zG)  {r : Int32 × zM} (E : zX g p m c cX4_read 2 s args (zWs yX4_read cX4_read 2 (some .int)) RX4) (hret : zRi g xE 125 p l e (zrm 218 0 0) s m args below meth c 0 0 Q cX4_read .int (fun v M1 => r = (v, M1))) (M : zM)  (H : Heap) (locs : List Loc) (ls : Array Slot) (h : f_X4_read M  = some r) (hZ : zS g xE 125 s H locs M) (hl : lv_has ls 2 [(0, .ref (g.2.2 42))]) : W p l e (zrm 218 0 0) s m args below meth c H locs 0 0 Q (F0 m 0 ls []) := by
  have hx := E.1.1
  have hb := E.1.2.1
  unfold f_X4_read at h
  refine lv_aload_n hx hb dX4_read_0 rfl (lv_at hl 0 rfl) ?_
  refine zg (v := .ref (g.2.2 27)) E hZ (xb_X4 xs_42) ((xe_X4 xs_42) _) kc_X4 1 (by decide) kw_288 rfl rfl dX4_read_1 ?_
  obtain ⟨u_11, qu_11, h⟩ := zbn_some h
  refine zcvS (zrunV E hZ (xb_X3 xs_27) ((xe_X3 xs_27) _) rfl rfl v_X3_clear kw_797 (c_X3_clear l g M 27 xs_27  qu_11 _) rfl hl.1 rfl (Nat.le_of_ble_eq_true rfl) ⟨by decide, by decide⟩ ⟨by decide, by decide⟩ dX4_read_4) hZ (fun H locs hZ => ?_)
  refine lv_aload_n hx hb dX4_read_7 rfl (lv_at hl 0 rfl) ?_
  refine zg (v := .ref (g.2.2 39)) E hZ (xb_X4 xs_42) ((xe_X4 xs_42) _) kc_X4 0 (by decide) kw_287 rfl rfl dX4_read_8 ?_
  obtain ⟨u_12, qu_12, h⟩ := zbn_some h
  refine zcvS (zrunV E hZ (xb_X7 xs_39) ((xe_X7 xs_39) _) rfl rfl v_X7_open kw_801 (c_X7_open l g u_11   qu_12 _) rfl hl.1 rfl (Nat.le_of_ble_eq_true rfl) ⟨by decide, by decide⟩ ⟨by decide, by decide⟩ dX4_read_11) hZ (fun H locs hZ => ?_)
  refine lv_aload_n hx hb dX4_read_14 rfl (lv_at hl 0 rfl) ?_
  refine zg (v := .ref (g.2.2 39)) E hZ (xb_X4 xs_42) ((xe_X4 xs_42) _) kc_X4 0 (by decide) kw_287 rfl rfl dX4_read_15 ?_
  obtain ⟨u_13, qu_13, h⟩ := zbn_some h
  refine zciR (zrunV E hZ (xb_X7 xs_39) ((xe_X7 xs_39) _) rfl rfl v_X7_ended kw_802 (c_X7_ended l g u_12   qu_13 _) rfl hl.1 rfl (Nat.le_of_ble_eq_true rfl) ⟨by decide, by decide⟩ ⟨by decide, by decide⟩ dX4_read_18) hZ (fun H locs hZ => ?_)
  refine zif_eq (tgt := 26) h E dX4_read_21 (by decide) (fun c_14 h => ?_) (fun c_14 h => ?_)
  · refine lv_iconst (v := 0) hx hb dX4_read_26 (by decide) ?_
    refine lv_istore_n (lv' := [(1, .int 0), (0, .ref (g.2.2 42))]) hx hb dX4_read_27 rfl hl (by decide) rfl (fun ls hl => ?_)
    exact lb_X4_read_28 g  E hret   6000 u_12 0 H locs ls h hZ (lv_sub hl [1, 0] rfl)
  · refine lv_iconst (v := (-1)) hx hb dX4_read_24 (by decide) ?_
    exact hret _ _ _ _ _ _ (Option.some.inj h).symm rfl hZ dX4_read_25
theorem c_X4_read (l : Launch) (g : zG) (M : zM)   {r : Int32 × zM} (h : f_X4_read M  = some r) : zMi l g xE 125 yX4_read (zWs yX4_read cX4_read 2 (some .int)) 218 [.ref (g.2.2 42)] M (fun v M1 => r = (v, M1)) :=
  zMi_of (by decide +kernel) (Nat.le_of_ble_eq_true rfl) (fun p e s m args below meth c Q ls E hret hZ hl => w_X4_read g  E hret M  _ _ ls h hZ hl)
theorem v_X4_read : zYV yX4_read cX4_read 2 (some .int) 0 := ⟨kw_796, kw_11, kw_794, kw_795, by decide +kernel⟩

def f_X5_worldAt (M : zM) (x1 : Int32) : Option (Option Nat) :=
  zck (decide (¬ (12 : Int32) = 0)) (znm (((M 51 1) + x1) - ((M 51 1) + x1) / 12 * 12) (fun x2_1 => if x2_1 < 0 then (some none) else (if 12 ≤ x2_1 then (some none) else (zck (zin x2_1 12) (some (some (53 + 6 * (x2_1 : Int32).toNatClampNeg)))))))
set_option maxRecDepth 100000 in
set_option maxHeartbeats 4000000 in
theorem w_X5_worldAt (g : zG)  {r : Option Nat} {M0 : zM} (E : zX g p m c cX5_worldAt 3 s args (zWs yX5_worldAt cX5_worldAt 3 (some (.object "TideBook$World"))) RX5) (hret : zRq g xE 125 p l e (zrm 2 0 0) s m args below meth c 0 0 Q cX5_worldAt (fun v M1 => v = r ∧ M1 = M0)) (M : zM) (hM : M = M0) (x1 : Int32) (H : Heap) (locs : List Loc) (ls : Array Slot) (h : f_X5_worldAt M x1 = some r) (hZ : zS g xE 125 s H locs M) (hl : lv_has ls 3 [(0, .ref (g.2.2 51)), (1, .int x1)]) : W p l e (zrm 2 0 0) s m args below meth c H locs 0 0 Q (F0 m 0 ls []) := by
  have hx := E.1.1
  have hb := E.1.2.1
  unfold f_X5_worldAt at h
  refine lv_aload_n hx hb dX5_worldAt_0 rfl (lv_at hl 0 rfl) ?_
  refine zg (v := .int (M 51 1)) E hZ (xb_X5 xs_51) ((xe_X5 xs_51) _) kc_X5 1 (by decide) kw_342 rfl rfl dX5_worldAt_1 ?_
  refine lv_iload_n hx hb dX5_worldAt_4 rfl (lv_at hl 1 rfl) ?_
  refine lv_iadd hx hb dX5_worldAt_5 ?_
  refine lv_bipush (v := 12) hx hb dX5_worldAt_6 (by decide) ?_
  refine zrem h E dX5_worldAt_8 (fun h => ?_)
  refine zni h (fun x2_1 ex2_1 h => ?_)
  refine lv_istore_n (lv' := [(2, .int x2_1), (0, .ref (g.2.2 51)), (1, .int x1)]) hx hb dX5_worldAt_9 rfl hl (by decide) rfl (fun ls hl => ?_)
  refine lv_iload_n hx hb dX5_worldAt_10 rfl (lv_at hl 0 rfl) ?_
  refine zif_lt (tgt := 32) h E dX5_worldAt_11 (by decide) (fun c_4 h => ?_) (fun c_4 h => ?_)
  · refine lv_null hx hb dX5_worldAt_32 ?_
    exact hret _ _ _ _ _ _ ⟨Option.some.inj h, hM⟩ hZ dX5_worldAt_33
  · refine lv_iload_n hx hb dX5_worldAt_14 rfl (lv_at hl 0 rfl) ?_
    refine lv_aload_n hx hb dX5_worldAt_15 rfl (lv_at hl 1 rfl) ?_
    refine zg (v := .ref (g.2.2 52)) E hZ (xb_X5 xs_51) ((xe_X5 xs_51) _) kc_X5 0 (by decide) kw_341 rfl rfl dX5_worldAt_16 ?_
    refine zalQ E hZ (by decide) xs_52.1 dX5_worldAt_19 ?_
    refine zic_ge (tgt := 32) h E dX5_worldAt_20 (by decide) (fun c_3 h => ?_) (fun c_3 h => ?_)
    · refine lv_null hx hb dX5_worldAt_32 ?_
      exact hret _ _ _ _ _ _ ⟨Option.some.inj h, hM⟩ hZ dX5_worldAt_33
    · refine lv_aload_n hx hb dX5_worldAt_23 rfl (lv_at hl 1 rfl) ?_
      refine zg (v := .ref (g.2.2 52)) E hZ (xb_X5 xs_51) ((xe_X5 xs_51) _) kc_X5 0 (by decide) kw_341 rfl rfl dX5_worldAt_24 ?_
      refine lv_iload_n hx hb dX5_worldAt_27 rfl (lv_at hl 0 rfl) ?_
      have hz_2 := (zck_some h).1
      refine zaq h E hZ (by decide) xs_52.1 dX5_worldAt_28 (fun h => ?_)
      refine lv_goto (tgt := 33) hx hb dX5_worldAt_29 (by decide) ?_
      exact hret _ _ _ _ _ _ ⟨Option.some.inj h, hM⟩ hZ dX5_worldAt_33
theorem c_X5_worldAt (l : Launch) (g : zG) (M : zM)  (x1 : Int32) {r : Option Nat} (h : f_X5_worldAt M x1 = some r) : zMq l g xE 125 yX5_worldAt (zWs yX5_worldAt cX5_worldAt 3 (some (.object "TideBook$World"))) 2 [.ref (g.2.2 51), .int x1] M (fun v M1 => v = r ∧ M1 = M) :=
  zMq_of (by decide +kernel) (Nat.le_of_ble_eq_true rfl) (fun p e s m args below meth c Q ls E hret hZ hl => w_X5_worldAt g  E hret M rfl x1 _ _ ls h hZ hl)
theorem v_X5_worldAt : zYV yX5_worldAt cX5_worldAt 3 (some (.object "TideBook$World")) 1 := ⟨kw_531, kw_14, kw_530, kp_5, by decide +kernel⟩

def f_X5_remember (M : zM) (o1 : Nat) : Option (zM) :=
  if (M 51 2) = 12 then (zck (decide (¬ (12 : Int32) = 0)) (znm (zu M 51 1 (((M 51 1) + 1) - ((M 51 1) + 1) / 12 * 12)) (fun M_5 => znm (zu M_5 51 2 ((M_5 51 2) - 1)) (fun M_6 => zbn (f_X5_worldAt M_6 (M_6 51 2)) (fun u_7 => zmo u_7 (some M_6) (fun k_8 => zck (decide (xk k_8 = 8)) (zbn (f_X9_copyFrom M_6 k_8 o1) (fun u_9 => znm (zu u_9 51 2 ((u_9 51 2) + 1)) (fun M_10 => some M_10))))))))) else (zbn (f_X5_worldAt M (M 51 2)) (fun u_1 => zmo u_1 (some M) (fun k_2 => zck (decide (xk k_2 = 8)) (zbn (f_X9_copyFrom M k_2 o1) (fun u_3 => znm (zu u_3 51 2 ((u_3 51 2) + 1)) (fun M_4 => some M_4))))))
set_option maxRecDepth 100000 in
set_option maxHeartbeats 4000000 in
theorem w_X5_remember (g : zG)  (o1 : Nat) (ho1 : xk o1 = 8) {r : zM} (E : zX g p m c cX5_remember 3 s args (zWs yX5_remember cX5_remember 3 none) RX5) (hret : zRv g xE 125 p l e (zrm 5 0 0) s m args below meth c 0 0 Q cX5_remember (fun M1 => M1 = r)) (M : zM)  (H : Heap) (locs : List Loc) (ls : Array Slot) (h : f_X5_remember M o1 = some r) (hZ : zS g xE 125 s H locs M) (hl : lv_has ls 3 [(0, .ref (g.2.2 51)), (1, .ref (g.2.2 o1))]) : W p l e (zrm 5 0 0) s m args below meth c H locs 0 0 Q (F0 m 0 ls []) := by
  have hx := E.1.1
  have hb := E.1.2.1
  unfold f_X5_remember at h
  refine lv_aload_n hx hb dX5_remember_0 rfl (lv_at hl 0 rfl) ?_
  refine zg (v := .int (M 51 2)) E hZ (xb_X5 xs_51) ((xe_X5 xs_51) _) kc_X5 2 (by decide) kw_343 rfl rfl dX5_remember_1 ?_
  refine lv_bipush (v := 12) hx hb dX5_remember_4 (by decide) ?_
  refine zic_ne (tgt := 32) h E dX5_remember_6 (by decide) (fun c_11 h => ?_) (fun c_11 h => ?_)
  · refine lv_aload_n hx hb dX5_remember_32 rfl (lv_at hl 0 rfl) ?_
    refine lv_aload_n hx hb dX5_remember_33 rfl (lv_at hl 0 rfl) ?_
    refine zg (v := .int (M 51 2)) E hZ (xb_X5 xs_51) ((xe_X5 xs_51) _) kc_X5 2 (by decide) kw_343 rfl rfl dX5_remember_34 ?_
    obtain ⟨u_1, qu_1, h⟩ := zbn_some h
    refine zceR h (zrunV E hZ (xb_X5 xs_51) ((xe_X5 xs_51) _) rfl rfl v_X5_worldAt kw_528 (c_X5_worldAt l g M  (M 51 2) qu_1 _) rfl hl.1 rfl (Nat.le_of_ble_eq_true rfl) ⟨by decide, by decide⟩ ⟨by decide, by decide⟩ dX5_remember_37) hZ (fun h H locs hZ => ?_) (fun k_2 h H locs hZ => ?_)
    · refine lv_astore_nN (lv' := [(2, .null), (0, .ref (g.2.2 51)), (1, .ref (g.2.2 o1))]) hx hb dX5_remember_40 rfl hl (by decide) rfl (fun ls hl => ?_)
      refine lv_aload_nN hx hb dX5_remember_41 rfl (lv_at hl 0 rfl) ?_
      refine lv_ifnullN (tgt := 60) hx hb dX5_remember_42 (by decide) ?_
      exact hret _ _ _ _ _ (Option.some.inj h) hZ dX5_remember_60
    · replace h := zck_some h
      obtain ⟨hk_2, h⟩ := h
      have hk_2 := of_decide_eq_true hk_2
      refine lv_astore_n (lv' := [(2, .ref (g.2.2 k_2)), (0, .ref (g.2.2 51)), (1, .ref (g.2.2 o1))]) hx hb dX5_remember_40 rfl hl (by decide) rfl (fun ls hl => ?_)
      refine lv_aload_n hx hb dX5_remember_41 rfl (lv_at hl 0 rfl) ?_
      refine lv_ifnull hx hb dX5_remember_42 ?_
      refine lv_aload_n hx hb dX5_remember_45 rfl (lv_at hl 0 rfl) ?_
      refine lv_aload_n hx hb dX5_remember_46 rfl (lv_at hl 2 rfl) ?_
      obtain ⟨u_3, qu_3, h⟩ := zbn_some h
      refine zcvS (zrunV E hZ (xb_X9 hk_2) ((xe_X9 hk_2) _) rfl rfl v_X9_copyFrom kw_532 (c_X9_copyFrom l g M k_2 hk_2 o1 ho1  qu_3 _) rfl hl.1 rfl (Nat.le_of_ble_eq_true rfl) ⟨by decide, by decide⟩ ⟨by decide, by decide⟩ dX5_remember_47) hZ (fun H locs hZ => ?_)
      refine lv_aload_n hx hb dX5_remember_50 rfl (lv_at hl 1 rfl) ?_
      refine lv_dup hx hb dX5_remember_51 rfl ?_
      refine zg (v := .int (u_3 51 2)) E hZ (xb_X5 xs_51) ((xe_X5 xs_51) _) kc_X5 2 (by decide) kw_343 rfl rfl dX5_remember_52 ?_
      refine lv_iconst (v := 1) hx hb dX5_remember_55 (by decide) ?_
      refine lv_iadd hx hb dX5_remember_56 ?_
      refine zp h E hZ (xb_X5 xs_51) ((xe_X5 xs_51) _) (((xe_X5 xs_51) _).trans (congrArg (fun z => Sum.inr (4, z)) (fs_X5_2 g _ _ _))) kc_X5 (by decide) kw_343 rfl rfl rfl (Nat.le_of_ble_eq_true rfl) dX5_remember_57 (fun M_4 H locs eM_4 h hZ => ?_)
      exact hret _ _ _ _ _ (Option.some.inj h) hZ dX5_remember_60
  · refine lv_aload_n hx hb dX5_remember_9 rfl (lv_at hl 0 rfl) ?_
    refine lv_aload_n hx hb dX5_remember_10 rfl (lv_at hl 0 rfl) ?_
    refine zg (v := .int (M 51 1)) E hZ (xb_X5 xs_51) ((xe_X5 xs_51) _) kc_X5 1 (by decide) kw_342 rfl rfl dX5_remember_11 ?_
    refine lv_iconst (v := 1) hx hb dX5_remember_14 (by decide) ?_
    refine lv_iadd hx hb dX5_remember_15 ?_
    refine lv_bipush (v := 12) hx hb dX5_remember_16 (by decide) ?_
    refine zrem h E dX5_remember_18 (fun h => ?_)
    refine zp h E hZ (xb_X5 xs_51) ((xe_X5 xs_51) _) (((xe_X5 xs_51) _).trans (congrArg (fun z => Sum.inr (4, z)) (fs_X5_1 g _ _ _))) kc_X5 (by decide) kw_342 rfl rfl rfl (Nat.le_of_ble_eq_true rfl) dX5_remember_19 (fun M_5 H locs eM_5 h hZ => ?_)
    refine lv_aload_n hx hb dX5_remember_22 rfl (lv_at hl 0 rfl) ?_
    refine lv_dup hx hb dX5_remember_23 rfl ?_
    refine zg (v := .int (M_5 51 2)) E hZ (xb_X5 xs_51) ((xe_X5 xs_51) _) kc_X5 2 (by decide) kw_343 rfl rfl dX5_remember_24 ?_
    refine lv_iconst (v := 1) hx hb dX5_remember_27 (by decide) ?_
    refine lv_isub hx hb dX5_remember_28 ?_
    refine zp h E hZ (xb_X5 xs_51) ((xe_X5 xs_51) _) (((xe_X5 xs_51) _).trans (congrArg (fun z => Sum.inr (4, z)) (fs_X5_2 g _ _ _))) kc_X5 (by decide) kw_343 rfl rfl rfl (Nat.le_of_ble_eq_true rfl) dX5_remember_29 (fun M_6 H locs eM_6 h hZ => ?_)
    refine lv_aload_n hx hb dX5_remember_32 rfl (lv_at hl 0 rfl) ?_
    refine lv_aload_n hx hb dX5_remember_33 rfl (lv_at hl 0 rfl) ?_
    refine zg (v := .int (M_6 51 2)) E hZ (xb_X5 xs_51) ((xe_X5 xs_51) _) kc_X5 2 (by decide) kw_343 rfl rfl dX5_remember_34 ?_
    obtain ⟨u_7, qu_7, h⟩ := zbn_some h
    refine zceR h (zrunV E hZ (xb_X5 xs_51) ((xe_X5 xs_51) _) rfl rfl v_X5_worldAt kw_528 (c_X5_worldAt l g M_6  (M_6 51 2) qu_7 _) rfl hl.1 rfl (Nat.le_of_ble_eq_true rfl) ⟨by decide, by decide⟩ ⟨by decide, by decide⟩ dX5_remember_37) hZ (fun h H locs hZ => ?_) (fun k_8 h H locs hZ => ?_)
    · refine lv_astore_nN (lv' := [(2, .null), (0, .ref (g.2.2 51)), (1, .ref (g.2.2 o1))]) hx hb dX5_remember_40 rfl hl (by decide) rfl (fun ls hl => ?_)
      refine lv_aload_nN hx hb dX5_remember_41 rfl (lv_at hl 0 rfl) ?_
      refine lv_ifnullN (tgt := 60) hx hb dX5_remember_42 (by decide) ?_
      exact hret _ _ _ _ _ (Option.some.inj h) hZ dX5_remember_60
    · replace h := zck_some h
      obtain ⟨hk_8, h⟩ := h
      have hk_8 := of_decide_eq_true hk_8
      refine lv_astore_n (lv' := [(2, .ref (g.2.2 k_8)), (0, .ref (g.2.2 51)), (1, .ref (g.2.2 o1))]) hx hb dX5_remember_40 rfl hl (by decide) rfl (fun ls hl => ?_)
      refine lv_aload_n hx hb dX5_remember_41 rfl (lv_at hl 0 rfl) ?_
      refine lv_ifnull hx hb dX5_remember_42 ?_
      refine lv_aload_n hx hb dX5_remember_45 rfl (lv_at hl 0 rfl) ?_
      refine lv_aload_n hx hb dX5_remember_46 rfl (lv_at hl 2 rfl) ?_
      obtain ⟨u_9, qu_9, h⟩ := zbn_some h
      refine zcvS (zrunV E hZ (xb_X9 hk_8) ((xe_X9 hk_8) _) rfl rfl v_X9_copyFrom kw_532 (c_X9_copyFrom l g M_6 k_8 hk_8 o1 ho1  qu_9 _) rfl hl.1 rfl (Nat.le_of_ble_eq_true rfl) ⟨by decide, by decide⟩ ⟨by decide, by decide⟩ dX5_remember_47) hZ (fun H locs hZ => ?_)
      refine lv_aload_n hx hb dX5_remember_50 rfl (lv_at hl 1 rfl) ?_
      refine lv_dup hx hb dX5_remember_51 rfl ?_
      refine zg (v := .int (u_9 51 2)) E hZ (xb_X5 xs_51) ((xe_X5 xs_51) _) kc_X5 2 (by decide) kw_343 rfl rfl dX5_remember_52 ?_
      refine lv_iconst (v := 1) hx hb dX5_remember_55 (by decide) ?_
      refine lv_iadd hx hb dX5_remember_56 ?_
      refine zp h E hZ (xb_X5 xs_51) ((xe_X5 xs_51) _) (((xe_X5 xs_51) _).trans (congrArg (fun z => Sum.inr (4, z)) (fs_X5_2 g _ _ _))) kc_X5 (by decide) kw_343 rfl rfl rfl (Nat.le_of_ble_eq_true rfl) dX5_remember_57 (fun M_10 H locs eM_10 h hZ => ?_)
      exact hret _ _ _ _ _ (Option.some.inj h) hZ dX5_remember_60
theorem c_X5_remember (l : Launch) (g : zG) (M : zM) (o1 : Nat) (ho1 : xk o1 = 8)  {r : zM} (h : f_X5_remember M o1 = some r) : zMv l g xE 125 yX5_remember (zWs yX5_remember cX5_remember 3 none) 5 [.ref (g.2.2 51), .ref (g.2.2 o1)] M (fun M1 => M1 = r) :=
  zMv_of (by decide +kernel) (Nat.le_of_ble_eq_true rfl) (fun p e s m args below meth c Q ls E hret hZ hl => w_X5_remember g o1 ho1 E hret M  _ _ ls h hZ hl)
theorem v_X5_remember : zYV yX5_remember cX5_remember 3 none 1 := ⟨kw_972, kw_14, kw_970, kw_971, by decide +kernel⟩

def f_X5_recall (M : zM) (o1 : Nat) : Option (Int32 × zM) :=
  if (M 51 2) ≤ 0 then (some (0, M)) else (zbn (f_X5_worldAt M ((M 51 2) - 1)) (fun u_1 => zmo u_1 (some (0, M)) (fun k_2 => zck (decide (xk k_2 = 8)) (zbn (f_X9_copyFrom M o1 k_2) (fun u_3 => znm (zu u_3 51 2 ((u_3 51 2) - 1)) (fun M_4 => some (1, M_4)))))))
set_option maxRecDepth 100000 in
set_option maxHeartbeats 4000000 in
theorem w_X5_recall (g : zG)  (o1 : Nat) (ho1 : xk o1 = 8) {r : Int32 × zM} (E : zX g p m c cX5_recall 3 s args (zWs yX5_recall cX5_recall 3 (some .boolean)) RX5) (hret : zRi g xE 125 p l e (zrm 5 0 0) s m args below meth c 0 0 Q cX5_recall .boolean (fun v M1 => r = (v, M1))) (M : zM)  (H : Heap) (locs : List Loc) (ls : Array Slot) (h : f_X5_recall M o1 = some r) (hZ : zS g xE 125 s H locs M) (hl : lv_has ls 3 [(0, .ref (g.2.2 51)), (1, .ref (g.2.2 o1))]) : W p l e (zrm 5 0 0) s m args below meth c H locs 0 0 Q (F0 m 0 ls []) := by
  have hx := E.1.1
  have hb := E.1.2.1
  unfold f_X5_recall at h
  refine lv_aload_n hx hb dX5_recall_0 rfl (lv_at hl 0 rfl) ?_
  refine zg (v := .int (M 51 2)) E hZ (xb_X5 xs_51) ((xe_X5 xs_51) _) kc_X5 2 (by decide) kw_343 rfl rfl dX5_recall_1 ?_
  refine zif_le (tgt := 20) h E dX5_recall_4 (by decide) (fun c_5 h => ?_) (fun c_5 h => ?_)
  · refine lv_null hx hb dX5_recall_20 ?_
    refine lv_astore_nN (lv' := [(2, .null), (0, .ref (g.2.2 51)), (1, .ref (g.2.2 o1))]) hx hb dX5_recall_21 rfl hl (by decide) rfl (fun ls hl => ?_)
    refine lv_aload_nN hx hb dX5_recall_22 rfl (lv_at hl 0 rfl) ?_
    refine lv_ifnonnullN hx hb dX5_recall_23 ?_
    refine lv_iconst (v := 0) hx hb dX5_recall_26 (by decide) ?_
    exact hret _ _ _ _ _ _ (Option.some.inj h).symm rfl hZ dX5_recall_27
  · refine lv_aload_n hx hb dX5_recall_7 rfl (lv_at hl 0 rfl) ?_
    refine lv_aload_n hx hb dX5_recall_8 rfl (lv_at hl 0 rfl) ?_
    refine zg (v := .int (M 51 2)) E hZ (xb_X5 xs_51) ((xe_X5 xs_51) _) kc_X5 2 (by decide) kw_343 rfl rfl dX5_recall_9 ?_
    refine lv_iconst (v := 1) hx hb dX5_recall_12 (by decide) ?_
    refine lv_isub hx hb dX5_recall_13 ?_
    obtain ⟨u_1, qu_1, h⟩ := zbn_some h
    refine zceR h (zrunV E hZ (xb_X5 xs_51) ((xe_X5 xs_51) _) rfl rfl v_X5_worldAt kw_528 (c_X5_worldAt l g M  ((M 51 2) - 1) qu_1 _) rfl hl.1 rfl (Nat.le_of_ble_eq_true rfl) ⟨by decide, by decide⟩ ⟨by decide, by decide⟩ dX5_recall_14) hZ (fun h H locs hZ => ?_) (fun k_2 h H locs hZ => ?_)
    · refine lv_goto (tgt := 21) hx hb dX5_recall_17 (by decide) ?_
      refine lv_astore_nN (lv' := [(2, .null), (0, .ref (g.2.2 51)), (1, .ref (g.2.2 o1))]) hx hb dX5_recall_21 rfl hl (by decide) rfl (fun ls hl => ?_)
      refine lv_aload_nN hx hb dX5_recall_22 rfl (lv_at hl 0 rfl) ?_
      refine lv_ifnonnullN hx hb dX5_recall_23 ?_
      refine lv_iconst (v := 0) hx hb dX5_recall_26 (by decide) ?_
      exact hret _ _ _ _ _ _ (Option.some.inj h).symm rfl hZ dX5_recall_27
    · replace h := zck_some h
      obtain ⟨hk_2, h⟩ := h
      have hk_2 := of_decide_eq_true hk_2
      refine lv_goto (tgt := 21) hx hb dX5_recall_17 (by decide) ?_
      refine lv_astore_n (lv' := [(2, .ref (g.2.2 k_2)), (0, .ref (g.2.2 51)), (1, .ref (g.2.2 o1))]) hx hb dX5_recall_21 rfl hl (by decide) rfl (fun ls hl => ?_)
      refine lv_aload_n hx hb dX5_recall_22 rfl (lv_at hl 0 rfl) ?_
      refine lv_ifnonnull (tgt := 28) hx hb dX5_recall_23 (by decide) ?_
      refine lv_aload_n hx hb dX5_recall_28 rfl (lv_at hl 2 rfl) ?_
      refine lv_aload_n hx hb dX5_recall_29 rfl (lv_at hl 0 rfl) ?_
      obtain ⟨u_3, qu_3, h⟩ := zbn_some h
      refine zcvS (zrunV E hZ (xb_X9 ho1) ((xe_X9 ho1) _) rfl rfl v_X9_copyFrom kw_532 (c_X9_copyFrom l g M o1 ho1 k_2 hk_2  qu_3 _) rfl hl.1 rfl (Nat.le_of_ble_eq_true rfl) ⟨by decide, by decide⟩ ⟨by decide, by decide⟩ dX5_recall_30) hZ (fun H locs hZ => ?_)
      refine lv_aload_n hx hb dX5_recall_33 rfl (lv_at hl 1 rfl) ?_
      refine lv_dup hx hb dX5_recall_34 rfl ?_
      refine zg (v := .int (u_3 51 2)) E hZ (xb_X5 xs_51) ((xe_X5 xs_51) _) kc_X5 2 (by decide) kw_343 rfl rfl dX5_recall_35 ?_
      refine lv_iconst (v := 1) hx hb dX5_recall_38 (by decide) ?_
      refine lv_isub hx hb dX5_recall_39 ?_
      refine zp h E hZ (xb_X5 xs_51) ((xe_X5 xs_51) _) (((xe_X5 xs_51) _).trans (congrArg (fun z => Sum.inr (4, z)) (fs_X5_2 g _ _ _))) kc_X5 (by decide) kw_343 rfl rfl rfl (Nat.le_of_ble_eq_true rfl) dX5_recall_40 (fun M_4 H locs eM_4 h hZ => ?_)
      refine lv_iconst (v := 1) hx hb dX5_recall_43 (by decide) ?_
      exact hret _ _ _ _ _ _ (Option.some.inj h).symm rfl hZ dX5_recall_44
theorem c_X5_recall (l : Launch) (g : zG) (M : zM) (o1 : Nat) (ho1 : xk o1 = 8)  {r : Int32 × zM} (h : f_X5_recall M o1 = some r) : zMi l g xE 125 yX5_recall (zWs yX5_recall cX5_recall 3 (some .boolean)) 5 [.ref (g.2.2 51), .ref (g.2.2 o1)] M (fun v M1 => r = (v, M1)) :=
  zMi_of (by decide +kernel) (Nat.le_of_ble_eq_true rfl) (fun p e s m args below meth c Q ls E hret hZ hl => w_X5_recall g o1 ho1 E hret M  _ _ ls h hZ hl)
theorem v_X5_recall : zYV yX5_recall cX5_recall 3 (some .boolean) 1 := ⟨kw_527, kw_14, kw_525, kw_526, by decide +kernel⟩

def f_X5_forget (M : zM)  : Option (zM) :=
  znm (zu M 51 2 0) (fun M_1 => some M_1)
set_option maxRecDepth 100000 in
set_option maxHeartbeats 4000000 in
theorem w_X5_forget (g : zG)  {r : zM} (E : zX g p m c cX5_forget 1 s args (zWs yX5_forget cX5_forget 1 none) RX5) (hret : zRv g xE 125 p l e (zrm 2 0 0) s m args below meth c 0 0 Q cX5_forget (fun M1 => M1 = r)) (M : zM)  (H : Heap) (locs : List Loc) (ls : Array Slot) (h : f_X5_forget M  = some r) (hZ : zS g xE 125 s H locs M) (hl : lv_has ls 1 [(0, .ref (g.2.2 51))]) : W p l e (zrm 2 0 0) s m args below meth c H locs 0 0 Q (F0 m 0 ls []) := by
  have hx := E.1.1
  have hb := E.1.2.1
  unfold f_X5_forget at h
  refine lv_aload_n hx hb dX5_forget_0 rfl (lv_at hl 0 rfl) ?_
  refine lv_iconst (v := 0) hx hb dX5_forget_1 (by decide) ?_
  refine zp h E hZ (xb_X5 xs_51) ((xe_X5 xs_51) _) (((xe_X5 xs_51) _).trans (congrArg (fun z => Sum.inr (4, z)) (fs_X5_2 g _ _ _))) kc_X5 (by decide) kw_343 rfl rfl rfl (Nat.le_of_ble_eq_true rfl) dX5_forget_2 (fun M_1 H locs eM_1 h hZ => ?_)
  exact hret _ _ _ _ _ (Option.some.inj h) hZ dX5_forget_5
theorem c_X5_forget (l : Launch) (g : zG) (M : zM)   {r : zM} (h : f_X5_forget M  = some r) : zMv l g xE 125 yX5_forget (zWs yX5_forget cX5_forget 1 none) 2 [.ref (g.2.2 51)] M (fun M1 => M1 = r) :=
  zMv_of (by decide +kernel) (Nat.le_of_ble_eq_true rfl) (fun p e s m args below meth c Q ls E hret hZ hl => w_X5_forget g  E hret M  _ _ ls h hZ hl)
theorem v_X5_forget : zYV yX5_forget cX5_forget 1 none 0 := ⟨kw_562, kw_14, kw_560, kw_561, by decide +kernel⟩

def f_X10_feed (M : zM) (x1 : Int32) (x2 : Int32) (x3 : Int32) (x4 : Int32) (x5 : Int32) : Option (Int32 × zM) :=
  if ((M 1 1) + 20) ≤ 400 then (zbn (f_X6_addNumber M x1) (fun u_1 => zbn (f_X6_addNumber u_1 x2) (fun u_2 => zbn (f_X6_addNumber u_2 x3) (fun u_3 => zbn (f_X6_addNumber u_3 x4) (fun u_4 => zbn (f_X6_addNumber u_4 x5) (fun u_5 => some (u_5 1 1, u_5))))))) else (some ((-1), M))
set_option maxRecDepth 100000 in
set_option maxHeartbeats 4000000 in
theorem w_X10_feed (g : zG)  {r : Int32 × zM} (E : zX g p m c cX10_feed 6 s args (zWs yX10_feed cX10_feed 6 (some .int)) RX10) (hret : zRi g xE 125 p l e (zrm 4 0 0) s m args below meth c 0 0 Q cX10_feed .int (fun v M1 => r = (v, M1))) (M : zM) (x1 : Int32) (x2 : Int32) (x3 : Int32) (x4 : Int32) (x5 : Int32) (H : Heap) (locs : List Loc) (ls : Array Slot) (h : f_X10_feed M x1 x2 x3 x4 x5 = some r) (hZ : zS g xE 125 s H locs M) (hl : lv_has ls 6 [(0, .ref (g.2.2 0)), (1, .int x1), (2, .int x2), (3, .int x3), (4, .int x4), (5, .int x5)]) : W p l e (zrm 4 0 0) s m args below meth c H locs 0 0 Q (F0 m 0 ls []) := by
  have hx := E.1.1
  have hb := E.1.2.1
  unfold f_X10_feed at h
  refine lv_aload_n hx hb dX10_feed_0 rfl (lv_at hl 0 rfl) ?_
  refine zg (v := .ref (g.2.2 1)) E hZ (xb_X10 xs_0) ((xe_X10 xs_0) _) kc_X10 0 (by decide) kw_352 rfl rfl dX10_feed_1 ?_
  refine zg (v := .int (M 1 1)) E hZ (xb_X6 xs_1) ((xe_X6 xs_1) _) kc_X6 1 (by decide) kw_46 rfl rfl dX10_feed_4 ?_
  refine lv_bipush (v := 20) hx hb dX10_feed_7 (by decide) ?_
  refine lv_iadd hx hb dX10_feed_9 ?_
  refine lv_sipush (v := 400) hx hb dX10_feed_10 (by decide) ?_
  refine zic_le (tgt := 18) h E dX10_feed_13 (by decide) (fun c_6 h => ?_) (fun c_6 h => ?_)
  · refine lv_aload_n hx hb dX10_feed_18 rfl (lv_at hl 0 rfl) ?_
    refine zg (v := .ref (g.2.2 1)) E hZ (xb_X10 xs_0) ((xe_X10 xs_0) _) kc_X10 0 (by decide) kw_352 rfl rfl dX10_feed_19 ?_
    refine lv_iload_n hx hb dX10_feed_22 rfl (lv_at hl 1 rfl) ?_
    obtain ⟨u_1, qu_1, h⟩ := zbn_some h
    refine zcvS (zrunV E hZ (xb_X6 xs_1) ((xe_X6 xs_1) _) rfl rfl v_X6_addNumber kw_402 (c_X6_addNumber l g M  x1 qu_1 _) rfl hl.1 rfl (Nat.le_of_ble_eq_true rfl) ⟨by decide, by decide⟩ ⟨by decide, by decide⟩ dX10_feed_23) hZ (fun H locs hZ => ?_)
    refine lv_aload_n hx hb dX10_feed_26 rfl (lv_at hl 0 rfl) ?_
    refine zg (v := .ref (g.2.2 1)) E hZ (xb_X10 xs_0) ((xe_X10 xs_0) _) kc_X10 0 (by decide) kw_352 rfl rfl dX10_feed_27 ?_
    refine lv_iload_n hx hb dX10_feed_30 rfl (lv_at hl 2 rfl) ?_
    obtain ⟨u_2, qu_2, h⟩ := zbn_some h
    refine zcvS (zrunV E hZ (xb_X6 xs_1) ((xe_X6 xs_1) _) rfl rfl v_X6_addNumber kw_402 (c_X6_addNumber l g u_1  x2 qu_2 _) rfl hl.1 rfl (Nat.le_of_ble_eq_true rfl) ⟨by decide, by decide⟩ ⟨by decide, by decide⟩ dX10_feed_31) hZ (fun H locs hZ => ?_)
    refine lv_aload_n hx hb dX10_feed_34 rfl (lv_at hl 0 rfl) ?_
    refine zg (v := .ref (g.2.2 1)) E hZ (xb_X10 xs_0) ((xe_X10 xs_0) _) kc_X10 0 (by decide) kw_352 rfl rfl dX10_feed_35 ?_
    refine lv_iload_n hx hb dX10_feed_38 rfl (lv_at hl 3 rfl) ?_
    obtain ⟨u_3, qu_3, h⟩ := zbn_some h
    refine zcvS (zrunV E hZ (xb_X6 xs_1) ((xe_X6 xs_1) _) rfl rfl v_X6_addNumber kw_402 (c_X6_addNumber l g u_2  x3 qu_3 _) rfl hl.1 rfl (Nat.le_of_ble_eq_true rfl) ⟨by decide, by decide⟩ ⟨by decide, by decide⟩ dX10_feed_39) hZ (fun H locs hZ => ?_)
    refine lv_aload_n hx hb dX10_feed_42 rfl (lv_at hl 0 rfl) ?_
    refine zg (v := .ref (g.2.2 1)) E hZ (xb_X10 xs_0) ((xe_X10 xs_0) _) kc_X10 0 (by decide) kw_352 rfl rfl dX10_feed_43 ?_
    refine lv_iload hx hb dX10_feed_46 (lv_at hl 4 rfl) ?_
    obtain ⟨u_4, qu_4, h⟩ := zbn_some h
    refine zcvS (zrunV E hZ (xb_X6 xs_1) ((xe_X6 xs_1) _) rfl rfl v_X6_addNumber kw_402 (c_X6_addNumber l g u_3  x4 qu_4 _) rfl hl.1 rfl (Nat.le_of_ble_eq_true rfl) ⟨by decide, by decide⟩ ⟨by decide, by decide⟩ dX10_feed_48) hZ (fun H locs hZ => ?_)
    refine lv_aload_n hx hb dX10_feed_51 rfl (lv_at hl 0 rfl) ?_
    refine zg (v := .ref (g.2.2 1)) E hZ (xb_X10 xs_0) ((xe_X10 xs_0) _) kc_X10 0 (by decide) kw_352 rfl rfl dX10_feed_52 ?_
    refine lv_iload hx hb dX10_feed_55 (lv_at hl 5 rfl) ?_
    obtain ⟨u_5, qu_5, h⟩ := zbn_some h
    refine zcvS (zrunV E hZ (xb_X6 xs_1) ((xe_X6 xs_1) _) rfl rfl v_X6_addNumber kw_402 (c_X6_addNumber l g u_4  x5 qu_5 _) rfl hl.1 rfl (Nat.le_of_ble_eq_true rfl) ⟨by decide, by decide⟩ ⟨by decide, by decide⟩ dX10_feed_57) hZ (fun H locs hZ => ?_)
    refine lv_aload_n hx hb dX10_feed_60 rfl (lv_at hl 0 rfl) ?_
    refine zg (v := .ref (g.2.2 1)) E hZ (xb_X10 xs_0) ((xe_X10 xs_0) _) kc_X10 0 (by decide) kw_352 rfl rfl dX10_feed_61 ?_
    refine zg (v := .int (u_5 1 1)) E hZ (xb_X6 xs_1) ((xe_X6 xs_1) _) kc_X6 1 (by decide) kw_46 rfl rfl dX10_feed_64 ?_
    exact hret _ _ _ _ _ _ (Option.some.inj h).symm rfl hZ dX10_feed_67
  · refine lv_iconst (v := (-1)) hx hb dX10_feed_16 (by decide) ?_
    exact hret _ _ _ _ _ _ (Option.some.inj h).symm rfl hZ dX10_feed_17
theorem c_X10_feed (l : Launch) (g : zG) (M : zM)  (x1 : Int32) (x2 : Int32) (x3 : Int32) (x4 : Int32) (x5 : Int32) {r : Int32 × zM} (h : f_X10_feed M x1 x2 x3 x4 x5 = some r) : zMi l g xE 125 yX10_feed (zWs yX10_feed cX10_feed 6 (some .int)) 4 [.ref (g.2.2 0), .int x1, .int x2, .int x3, .int x4, .int x5] M (fun v M1 => r = (v, M1)) :=
  zMi_of (by decide +kernel) (Nat.le_of_ble_eq_true rfl) (fun p e s m args below meth c Q ls E hret hZ hl => w_X10_feed g  E hret M x1 x2 x3 x4 x5 _ _ ls h hZ hl)
theorem v_X10_feed : zYV yX10_feed cX10_feed 6 (some .int) 5 := ⟨kw_401, kw_1, kw_399, kw_400, by decide +kernel⟩

def f_X10_end (M : zM) (x1 : Int32) : Option (Int32 × zM) :=
  if x1 < 0 then (some (0, M)) else (if x1 ≤ (M 1 1) then (znm (zu M 1 1 x1) (fun M_1 => some (1, M_1))) else (some (0, M)))
set_option maxRecDepth 100000 in
set_option maxHeartbeats 4000000 in
theorem w_X10_end (g : zG)  {r : Int32 × zM} (E : zX g p m c cX10_end 2 s args (zWs yX10_end cX10_end 2 (some .boolean)) RX10) (hret : zRi g xE 125 p l e (zrm 2 0 0) s m args below meth c 0 0 Q cX10_end .boolean (fun v M1 => r = (v, M1))) (M : zM) (x1 : Int32) (H : Heap) (locs : List Loc) (ls : Array Slot) (h : f_X10_end M x1 = some r) (hZ : zS g xE 125 s H locs M) (hl : lv_has ls 2 [(0, .ref (g.2.2 0)), (1, .int x1)]) : W p l e (zrm 2 0 0) s m args below meth c H locs 0 0 Q (F0 m 0 ls []) := by
  have hx := E.1.1
  have hb := E.1.2.1
  unfold f_X10_end at h
  refine lv_iload_n hx hb dX10_end_0 rfl (lv_at hl 1 rfl) ?_
  refine zif_lt (tgt := 15) h E dX10_end_1 (by decide) (fun c_3 h => ?_) (fun c_3 h => ?_)
  · refine lv_iconst (v := 0) hx hb dX10_end_15 (by decide) ?_
    exact hret _ _ _ _ _ _ (Option.some.inj h).symm rfl hZ dX10_end_16
  · refine lv_iload_n hx hb dX10_end_4 rfl (lv_at hl 1 rfl) ?_
    refine lv_aload_n hx hb dX10_end_5 rfl (lv_at hl 0 rfl) ?_
    refine zg (v := .ref (g.2.2 1)) E hZ (xb_X10 xs_0) ((xe_X10 xs_0) _) kc_X10 0 (by decide) kw_352 rfl rfl dX10_end_6 ?_
    refine zg (v := .int (M 1 1)) E hZ (xb_X6 xs_1) ((xe_X6 xs_1) _) kc_X6 1 (by decide) kw_46 rfl rfl dX10_end_9 ?_
    refine zic_le (tgt := 17) h E dX10_end_12 (by decide) (fun c_2 h => ?_) (fun c_2 h => ?_)
    · refine lv_aload_n hx hb dX10_end_17 rfl (lv_at hl 0 rfl) ?_
      refine zg (v := .ref (g.2.2 1)) E hZ (xb_X10 xs_0) ((xe_X10 xs_0) _) kc_X10 0 (by decide) kw_352 rfl rfl dX10_end_18 ?_
      refine lv_iload_n hx hb dX10_end_21 rfl (lv_at hl 1 rfl) ?_
      refine zp h E hZ (xb_X6 xs_1) ((xe_X6 xs_1) _) (((xe_X6 xs_1) _).trans (congrArg (fun z => Sum.inr (5, z)) (fs_X6_1 g _ _ _))) kc_X6 (by decide) kw_46 rfl rfl rfl (Nat.le_of_ble_eq_true rfl) dX10_end_22 (fun M_1 H locs eM_1 h hZ => ?_)
      refine lv_iconst (v := 1) hx hb dX10_end_25 (by decide) ?_
      exact hret _ _ _ _ _ _ (Option.some.inj h).symm rfl hZ dX10_end_26
    · refine lv_iconst (v := 0) hx hb dX10_end_15 (by decide) ?_
      exact hret _ _ _ _ _ _ (Option.some.inj h).symm rfl hZ dX10_end_16
theorem c_X10_end (l : Launch) (g : zG) (M : zM)  (x1 : Int32) {r : Int32 × zM} (h : f_X10_end M x1 = some r) : zMi l g xE 125 yX10_end (zWs yX10_end cX10_end 2 (some .boolean)) 2 [.ref (g.2.2 0), .int x1] M (fun v M1 => r = (v, M1)) :=
  zMi_of (by decide +kernel) (Nat.le_of_ble_eq_true rfl) (fun p e s m args below meth c Q ls E hret hZ hl => w_X10_end g  E hret M x1 _ _ ls h hZ hl)
theorem v_X10_end : zYV yX10_end cX10_end 2 (some .boolean) 1 := ⟨kw_412, kw_1, kw_410, kw_411, by decide +kernel⟩

def f_X10_trialCopy (M : zM)  : Option ((Option Nat) × zM) :=
  zbn (f_X9_copyFrom M 9 3) (fun u_1 => some (some 9, u_1))
set_option maxRecDepth 100000 in
set_option maxHeartbeats 4000000 in
theorem w_X10_trialCopy (g : zG)  {r : (Option Nat) × zM} (E : zX g p m c cX10_trialCopy 1 s args (zWs yX10_trialCopy cX10_trialCopy 1 (some (.object "TideBook$World"))) RX10) (hret : zRq g xE 125 p l e (zrm 5 0 0) s m args below meth c 0 0 Q cX10_trialCopy (fun v M1 => r = (v, M1))) (M : zM)  (H : Heap) (locs : List Loc) (ls : Array Slot) (h : f_X10_trialCopy M  = some r) (hZ : zS g xE 125 s H locs M) (hl : lv_has ls 1 [(0, .ref (g.2.2 0))]) : W p l e (zrm 5 0 0) s m args below meth c H locs 0 0 Q (F0 m 0 ls []) := by
  have hx := E.1.1
  have hb := E.1.2.1
  unfold f_X10_trialCopy at h
  refine lv_aload_n hx hb dX10_trialCopy_0 rfl (lv_at hl 0 rfl) ?_
  refine zg (v := .ref (g.2.2 9)) E hZ (xb_X10 xs_0) ((xe_X10 xs_0) _) kc_X10 2 (by decide) kw_354 rfl rfl dX10_trialCopy_1 ?_
  refine lv_aload_n hx hb dX10_trialCopy_4 rfl (lv_at hl 0 rfl) ?_
  refine zg (v := .ref (g.2.2 3)) E hZ (xb_X10 xs_0) ((xe_X10 xs_0) _) kc_X10 1 (by decide) kw_353 rfl rfl dX10_trialCopy_5 ?_
  obtain ⟨u_1, qu_1, h⟩ := zbn_some h
  refine zcvS (zrunV E hZ (xb_X9 xs_9) ((xe_X9 xs_9) _) rfl rfl v_X9_copyFrom kw_549 (c_X9_copyFrom l g M 9 xs_9 3 xs_3  qu_1 _) rfl hl.1 rfl (Nat.le_of_ble_eq_true rfl) ⟨by decide, by decide⟩ ⟨by decide, by decide⟩ dX10_trialCopy_8) hZ (fun H locs hZ => ?_)
  refine lv_aload_n hx hb dX10_trialCopy_11 rfl (lv_at hl 0 rfl) ?_
  refine zg (v := .ref (g.2.2 9)) E hZ (xb_X10 xs_0) ((xe_X10 xs_0) _) kc_X10 2 (by decide) kw_354 rfl rfl dX10_trialCopy_12 ?_
  exact hret _ _ _ _ _ _ (Option.some.inj h).symm hZ dX10_trialCopy_15
theorem c_X10_trialCopy (l : Launch) (g : zG) (M : zM)   {r : (Option Nat) × zM} (h : f_X10_trialCopy M  = some r) : zMq l g xE 125 yX10_trialCopy (zWs yX10_trialCopy cX10_trialCopy 1 (some (.object "TideBook$World"))) 5 [.ref (g.2.2 0)] M (fun v M1 => r = (v, M1)) :=
  zMq_of (by decide +kernel) (Nat.le_of_ble_eq_true rfl) (fun p e s m args below meth c Q ls E hret hZ hl => w_X10_trialCopy g  E hret M  _ _ ls h hZ hl)
theorem v_X10_trialCopy : zYV yX10_trialCopy cX10_trialCopy 1 (some (.object "TideBook$World")) 0 := ⟨kw_584, kw_1, kw_583, kp_6, by decide +kernel⟩

def f_X10_fault (M : zM)  : Option (Int32) :=
  some (M 0 13)
set_option maxRecDepth 100000 in
set_option maxHeartbeats 4000000 in
theorem w_X10_fault (g : zG)  {r : Int32} {M0 : zM} (E : zX g p m c cX10_fault 1 s args (zWs yX10_fault cX10_fault 1 (some .int)) RX10) (hret : zRi g xE 125 p l e (zrm 2 0 0) s m args below meth c 0 0 Q cX10_fault .int (fun v M1 => v = r ∧ M1 = M0)) (M : zM) (hM : M = M0)  (H : Heap) (locs : List Loc) (ls : Array Slot) (h : f_X10_fault M  = some r) (hZ : zS g xE 125 s H locs M) (hl : lv_has ls 1 [(0, .ref (g.2.2 0))]) : W p l e (zrm 2 0 0) s m args below meth c H locs 0 0 Q (F0 m 0 ls []) := by
  have hx := E.1.1
  have hb := E.1.2.1
  unfold f_X10_fault at h
  refine lv_aload_n hx hb dX10_fault_0 rfl (lv_at hl 0 rfl) ?_
  refine zg (v := .int (M 0 13)) E hZ (xb_X10 xs_0) ((xe_X10 xs_0) _) kc_X10 13 (by decide) kw_365 rfl rfl dX10_fault_1 ?_
  exact hret _ _ _ _ _ _ ⟨Option.some.inj h, hM⟩ rfl hZ dX10_fault_4
theorem c_X10_fault (l : Launch) (g : zG) (M : zM)   {r : Int32} (h : f_X10_fault M  = some r) : zMi l g xE 125 yX10_fault (zWs yX10_fault cX10_fault 1 (some .int)) 2 [.ref (g.2.2 0)] M (fun v M1 => v = r ∧ M1 = M) :=
  zMi_of (by decide +kernel) (Nat.le_of_ble_eq_true rfl) (fun p e s m args below meth c Q ls E hret hZ hl => w_X10_fault g  E hret M rfl  _ _ ls h hZ hl)
theorem v_X10_fault : zYV yX10_fault cX10_fault 1 (some .int) 0 := ⟨kw_416, kw_1, kw_414, kw_415, by decide +kernel⟩

def b_X10_hoursNoDeeper_67 (K17 : Int32 → Int32 → Option (Int32 × zM)) (M : zM) (x1 : Int32) (x2 : Int32) (x3 : Int32) (x4 : Int32) (x5 : Int32) : Option (Int32 × zM) :=
  znm (x5 + 1) (fun x5_1 => K17 x4 x5_1)
set_option maxRecDepth 100000 in
set_option maxHeartbeats 4000000 in
theorem lb_X10_hoursNoDeeper_67 (g : zG)  {r : Int32 × zM} (E : zX g p m c cX10_hoursNoDeeper 7 s args (zWs yX10_hoursNoDeeper cX10_hoursNoDeeper 7 (some .int)) RX10) (hret : zRi g xE 125 p l e (zrm 5 0 0) s m args below meth c 0 0 Q cX10_hoursNoDeeper .int (fun v M1 => r = (v, M1))) (M : zM) (x1 : Int32) (x2 : Int32) (x3 : Int32) (x4 : Int32) (x5 : Int32) (K17 : Int32 → Int32 → Option (Int32 × zM)) (hK17 : ∀ (x4 : Int32) (x5 : Int32) (H : Heap) (locs : List Loc) (ls : Array Slot), K17 x4 x5 = some r → zS g xE 125 s H locs M → lv_has ls 7 [(0, .ref (g.2.2 0)), (1, .int x1), (2, .int x2), (3, .int x3), (4, .int x4), (5, .int x5)] → W p l e (zrm 5 0 0) s m args below meth c H locs 0 0 Q (F0 m 17 ls [])) (H : Heap) (locs : List Loc) (ls : Array Slot) (h : b_X10_hoursNoDeeper_67 K17 M x1 x2 x3 x4 x5 = some r) (hZ : zS g xE 125 s H locs M) (hl : lv_has ls 7 [(0, .ref (g.2.2 0)), (1, .int x1), (2, .int x2), (3, .int x3), (4, .int x4), (5, .int x5)]) : W p l e (zrm 5 0 0) s m args below meth c H locs 0 0 Q (F0 m 67 ls []) := by
  have hx := E.1.1
  have hb := E.1.2.1
  unfold b_X10_hoursNoDeeper_67 at h
  obtain ⟨x5_1, ex5_1, h⟩ := znm_ex h
  refine lv_iinc (v := x5_1) (lv' := [(5, .int x5_1), (0, .ref (g.2.2 0)), (1, .int x1), (2, .int x2), (3, .int x3), (4, .int x4)]) hx hb dX10_hoursNoDeeper_67 hl (k := 5) rfl (by rw [ex5_1]; rfl) (by decide) rfl (fun ls hl => ?_)
  refine lv_goto (tgt := 17) hx hb dX10_hoursNoDeeper_70 (by decide) ?_
  exact hK17 x4 x5_1 H locs ls h hZ (lv_sub hl [1, 2, 3, 4, 5, 0] rfl)
def b_X10_hoursNoDeeper_17  (M : zM) (x1 : Int32) (x2 : Int32) (x3 : Int32) : Nat → Int32 → Int32 → Option (Int32 × zM)
  | 0, _, _ => none
  | n + 1, x4, x5 =>
    if (M 3 5) ≤ x5 then (some (x4, M)) else (zbn (f_X8_openPlaces M 3 ((x3 * (M 3 5)) + x5) x2) (fun u_2 => if (x1 &&& (u_2 ^^^ ((-1)))) = 0 then (znm (x4 + 1) (fun x4_3 => b_X10_hoursNoDeeper_67 (fun x4 x5 => b_X10_hoursNoDeeper_17  M x1 x2 x3 n x4 x5) M x1 x2 x3 x4_3 x5)) else (b_X10_hoursNoDeeper_67 (fun x4 x5 => b_X10_hoursNoDeeper_17  M x1 x2 x3 n x4 x5) M x1 x2 x3 x4 x5)))
set_option maxRecDepth 100000 in
set_option maxHeartbeats 4000000 in
theorem lb_X10_hoursNoDeeper_17 (g : zG)  {r : Int32 × zM} (E : zX g p m c cX10_hoursNoDeeper 7 s args (zWs yX10_hoursNoDeeper cX10_hoursNoDeeper 7 (some .int)) RX10) (hret : zRi g xE 125 p l e (zrm 5 0 0) s m args below meth c 0 0 Q cX10_hoursNoDeeper .int (fun v M1 => r = (v, M1))) (M : zM) (x1 : Int32) (x2 : Int32) (x3 : Int32)  : ∀ (n : Nat) (x4 : Int32) (x5 : Int32) (H : Heap) (locs : List Loc) (ls : Array Slot), b_X10_hoursNoDeeper_17  M x1 x2 x3 n x4 x5 = some r → zS g xE 125 s H locs M → lv_has ls 7 [(0, .ref (g.2.2 0)), (1, .int x1), (2, .int x2), (3, .int x3), (4, .int x4), (5, .int x5)] → W p l e (zrm 5 0 0) s m args below meth c H locs 0 0 Q (F0 m 17 ls []) := by
  have hx := E.1.1
  have hb := E.1.2.1
  intro n
  induction n with
  | zero => intro x4 x5 H locs ls h hZ hl; cases h
  | succ n ih =>
    intro x4 x5 H locs ls h hZ hl
    rw [b_X10_hoursNoDeeper_17] at h
    refine lv_iload hx hb dX10_hoursNoDeeper_17 (lv_at hl 5 rfl) ?_
    refine lv_aload_n hx hb dX10_hoursNoDeeper_19 rfl (lv_at hl 0 rfl) ?_
    refine zg (v := .ref (g.2.2 3)) E hZ (xb_X10 xs_0) ((xe_X10 xs_0) _) kc_X10 1 (by decide) kw_353 rfl rfl dX10_hoursNoDeeper_20 ?_
    refine zg (v := .int (M 3 5)) E hZ (xb_X9 xs_3) ((xe_X9 xs_3) _) kc_X9 5 (by decide) kw_80 rfl rfl dX10_hoursNoDeeper_23 ?_
    refine zic_ge (tgt := 73) h E dX10_hoursNoDeeper_26 (by decide) (fun c_5 h => ?_) (fun c_5 h => ?_)
    · refine lv_iload hx hb dX10_hoursNoDeeper_73 (lv_at hl 4 rfl) ?_
      exact hret _ _ _ _ _ _ (Option.some.inj h).symm rfl hZ dX10_hoursNoDeeper_75
    · refine lv_aload_n hx hb dX10_hoursNoDeeper_29 rfl (lv_at hl 0 rfl) ?_
      refine zg (v := .ref (g.2.2 43)) E hZ (xb_X10 xs_0) ((xe_X10 xs_0) _) kc_X10 10 (by decide) kw_362 rfl rfl dX10_hoursNoDeeper_30 ?_
      refine lv_aload_n hx hb dX10_hoursNoDeeper_33 rfl (lv_at hl 0 rfl) ?_
      refine zg (v := .ref (g.2.2 3)) E hZ (xb_X10 xs_0) ((xe_X10 xs_0) _) kc_X10 1 (by decide) kw_353 rfl rfl dX10_hoursNoDeeper_34 ?_
      refine lv_iload_n hx hb dX10_hoursNoDeeper_37 rfl (lv_at hl 3 rfl) ?_
      refine lv_aload_n hx hb dX10_hoursNoDeeper_38 rfl (lv_at hl 0 rfl) ?_
      refine zg (v := .ref (g.2.2 3)) E hZ (xb_X10 xs_0) ((xe_X10 xs_0) _) kc_X10 1 (by decide) kw_353 rfl rfl dX10_hoursNoDeeper_39 ?_
      refine zg (v := .int (M 3 5)) E hZ (xb_X9 xs_3) ((xe_X9 xs_3) _) kc_X9 5 (by decide) kw_80 rfl rfl dX10_hoursNoDeeper_42 ?_
      refine lv_imul hx hb dX10_hoursNoDeeper_45 ?_
      refine lv_iload hx hb dX10_hoursNoDeeper_46 (lv_at hl 5 rfl) ?_
      refine lv_iadd hx hb dX10_hoursNoDeeper_48 ?_
      refine lv_iload_n hx hb dX10_hoursNoDeeper_49 rfl (lv_at hl 2 rfl) ?_
      obtain ⟨u_2, qu_2, h⟩ := zbn_some h
      refine zciR (zrunV E hZ (xb_X8 xs_43) ((xe_X8 xs_43) _) rfl rfl v_X8_openPlaces kw_1099 (c_X8_openPlaces l g M 3 xs_3 ((x3 * (M 3 5)) + x5) x2 qu_2 _) rfl hl.1 rfl (Nat.le_of_ble_eq_true rfl) ⟨by decide, by decide⟩ ⟨by decide, by decide⟩ dX10_hoursNoDeeper_50) hZ (fun H locs hZ => ?_)
      refine lv_istore (lv' := [(6, .int u_2), (0, .ref (g.2.2 0)), (1, .int x1), (2, .int x2), (3, .int x3), (4, .int x4), (5, .int x5)]) hx hb dX10_hoursNoDeeper_53 hl (by decide) rfl (fun ls hl => ?_)
      refine lv_iload_n hx hb dX10_hoursNoDeeper_55 rfl (lv_at hl 2 rfl) ?_
      refine lv_iload hx hb dX10_hoursNoDeeper_56 (lv_at hl 0 rfl) ?_
      refine lv_iconst (v := (-1)) hx hb dX10_hoursNoDeeper_58 (by decide) ?_
      refine lv_ixor hx hb dX10_hoursNoDeeper_59 ?_
      refine lv_iand hx hb dX10_hoursNoDeeper_60 ?_
      refine zif_ne (tgt := 67) h E dX10_hoursNoDeeper_61 (by decide) (fun c_4 h => ?_) (fun c_4 h => ?_)
      · exact lb_X10_hoursNoDeeper_67 g  E hret M x1 x2 x3 x4 x5 (fun x4 x5 => b_X10_hoursNoDeeper_17  M x1 x2 x3 n x4 x5) ih H locs ls h hZ (lv_sub hl [1, 2, 3, 4, 5, 6] rfl)
      · obtain ⟨x4_3, ex4_3, h⟩ := znm_ex h
        refine lv_iinc (v := x4_3) (lv' := [(4, .int x4_3), (6, .int u_2), (0, .ref (g.2.2 0)), (1, .int x1), (2, .int x2), (3, .int x3), (5, .int x5)]) hx hb dX10_hoursNoDeeper_64 hl (k := 5) rfl (by rw [ex4_3]; rfl) (by decide) rfl (fun ls hl => ?_)
        exact lb_X10_hoursNoDeeper_67 g  E hret M x1 x2 x3 x4_3 x5 (fun x4 x5 => b_X10_hoursNoDeeper_17  M x1 x2 x3 n x4 x5) ih H locs ls h hZ (lv_sub hl [2, 3, 4, 5, 0, 6] rfl)
def f_X10_hoursNoDeeper (M : zM) (x1 : Int32) (x2 : Int32) (x3 : Int32) : Option (Int32 × zM) :=
  zbn (f_X8_look M 3) (fun u_6 => b_X10_hoursNoDeeper_17  u_6 x1 x2 x3 6000 0 0)
set_option maxRecDepth 100000 in
set_option maxHeartbeats 4000000 in
theorem w_X10_hoursNoDeeper (g : zG)  {r : Int32 × zM} (E : zX g p m c cX10_hoursNoDeeper 7 s args (zWs yX10_hoursNoDeeper cX10_hoursNoDeeper 7 (some .int)) RX10) (hret : zRi g xE 125 p l e (zrm 5 0 0) s m args below meth c 0 0 Q cX10_hoursNoDeeper .int (fun v M1 => r = (v, M1))) (M : zM) (x1 : Int32) (x2 : Int32) (x3 : Int32) (H : Heap) (locs : List Loc) (ls : Array Slot) (h : f_X10_hoursNoDeeper M x1 x2 x3 = some r) (hZ : zS g xE 125 s H locs M) (hl : lv_has ls 7 [(0, .ref (g.2.2 0)), (1, .int x1), (2, .int x2), (3, .int x3)]) : W p l e (zrm 5 0 0) s m args below meth c H locs 0 0 Q (F0 m 0 ls []) := by
  have hx := E.1.1
  have hb := E.1.2.1
  unfold f_X10_hoursNoDeeper at h
  refine lv_aload_n hx hb dX10_hoursNoDeeper_0 rfl (lv_at hl 0 rfl) ?_
  refine zg (v := .ref (g.2.2 43)) E hZ (xb_X10 xs_0) ((xe_X10 xs_0) _) kc_X10 10 (by decide) kw_362 rfl rfl dX10_hoursNoDeeper_1 ?_
  refine lv_aload_n hx hb dX10_hoursNoDeeper_4 rfl (lv_at hl 0 rfl) ?_
  refine zg (v := .ref (g.2.2 3)) E hZ (xb_X10 xs_0) ((xe_X10 xs_0) _) kc_X10 1 (by decide) kw_353 rfl rfl dX10_hoursNoDeeper_5 ?_
  obtain ⟨u_6, qu_6, h⟩ := zbn_some h
  refine zcvS (zrunV E hZ (xb_X8 xs_43) ((xe_X8 xs_43) _) rfl rfl v_X8_look kw_1094 (c_X8_look l g M 3 xs_3  qu_6 _) rfl hl.1 rfl (Nat.le_of_ble_eq_true rfl) ⟨by decide, by decide⟩ ⟨by decide, by decide⟩ dX10_hoursNoDeeper_8) hZ (fun H locs hZ => ?_)
  refine lv_iconst (v := 0) hx hb dX10_hoursNoDeeper_11 (by decide) ?_
  refine lv_istore (lv' := [(4, .int 0), (0, .ref (g.2.2 0)), (1, .int x1), (2, .int x2), (3, .int x3)]) hx hb dX10_hoursNoDeeper_12 hl (by decide) rfl (fun ls hl => ?_)
  refine lv_iconst (v := 0) hx hb dX10_hoursNoDeeper_14 (by decide) ?_
  refine lv_istore (lv' := [(5, .int 0), (4, .int 0), (0, .ref (g.2.2 0)), (1, .int x1), (2, .int x2), (3, .int x3)]) hx hb dX10_hoursNoDeeper_15 hl (by decide) rfl (fun ls hl => ?_)
  exact lb_X10_hoursNoDeeper_17 g  E hret u_6 x1 x2 x3  6000 0 0 H locs ls h hZ (lv_sub hl [2, 3, 4, 5, 1, 0] rfl)
theorem c_X10_hoursNoDeeper (l : Launch) (g : zG) (M : zM)  (x1 : Int32) (x2 : Int32) (x3 : Int32) {r : Int32 × zM} (h : f_X10_hoursNoDeeper M x1 x2 x3 = some r) : zMi l g xE 125 yX10_hoursNoDeeper (zWs yX10_hoursNoDeeper cX10_hoursNoDeeper 7 (some .int)) 5 [.ref (g.2.2 0), .int x1, .int x2, .int x3] M (fun v M1 => r = (v, M1)) :=
  zMi_of (by decide +kernel) (Nat.le_of_ble_eq_true rfl) (fun p e s m args below meth c Q ls E hret hZ hl => w_X10_hoursNoDeeper g  E hret M x1 x2 x3 _ _ ls h hZ hl)
theorem v_X10_hoursNoDeeper : zYV yX10_hoursNoDeeper cX10_hoursNoDeeper 7 (some .int) 3 := ⟨kw_1093, kw_1, kw_1092, kp_31, by decide +kernel⟩

def b_X10_misfits_79 (K5 : Int32 → Int32 → Option (Int32)) (M : zM) (x1 : Int32) (x2 : Int32) (x3 : Int32) (x4 : Int32) : Option (Int32) :=
  znm (x4 + 2) (fun x4_1 => K5 x3 x4_1)
set_option maxRecDepth 100000 in
set_option maxHeartbeats 4000000 in
theorem lb_X10_misfits_79 (g : zG)  {r : Int32} {M0 : zM} (E : zX g p m c cX10_misfits 7 s args (zWs yX10_misfits cX10_misfits 7 (some .int)) RX10) (hret : zRi g xE 125 p l e (zrm 4 0 0) s m args below meth c 0 0 Q cX10_misfits .int (fun v M1 => v = r ∧ M1 = M0)) (M : zM) (x1 : Int32) (x2 : Int32) (x3 : Int32) (x4 : Int32) (hM : M = M0) (K5 : Int32 → Int32 → Option (Int32)) (hK5 : ∀ (x3 : Int32) (x4 : Int32) (H : Heap) (locs : List Loc) (ls : Array Slot), K5 x3 x4 = some r → zS g xE 125 s H locs M → lv_has ls 7 [(0, .ref (g.2.2 0)), (1, .int x1), (2, .int x2), (3, .int x3), (4, .int x4)] → W p l e (zrm 4 0 0) s m args below meth c H locs 0 0 Q (F0 m 5 ls [])) (H : Heap) (locs : List Loc) (ls : Array Slot) (h : b_X10_misfits_79 K5 M x1 x2 x3 x4 = some r) (hZ : zS g xE 125 s H locs M) (hl : lv_has ls 7 [(0, .ref (g.2.2 0)), (1, .int x1), (2, .int x2), (3, .int x3), (4, .int x4)]) : W p l e (zrm 4 0 0) s m args below meth c H locs 0 0 Q (F0 m 79 ls []) := by
  have hx := E.1.1
  have hb := E.1.2.1
  unfold b_X10_misfits_79 at h
  obtain ⟨x4_1, ex4_1, h⟩ := znm_ex h
  refine lv_iinc (v := x4_1) (lv' := [(4, .int x4_1), (0, .ref (g.2.2 0)), (1, .int x1), (2, .int x2), (3, .int x3)]) hx hb dX10_misfits_79 hl (k := 4) rfl (by rw [ex4_1]; rfl) (by decide) rfl (fun ls hl => ?_)
  refine lv_goto (tgt := 5) hx hb dX10_misfits_82 (by decide) ?_
  exact hK5 x3 x4_1 H locs ls h hZ (lv_sub hl [1, 2, 3, 4, 0] rfl)
def b_X10_misfits_5  (M : zM) (x1 : Int32) (x2 : Int32) : Nat → Int32 → Int32 → Option (Int32)
  | 0, _, _ => none
  | n + 1, x3, x4 =>
    if x2 ≤ x4 then (some x3) else (zbn (f_X10_at M 2 x4) (fun u_2 => zbn (f_X10_at M 2 (x4 + 1)) (fun u_3 => znm (u_3 - 6) (fun x6_4 => zbn (f_X9_printedBy M 3 x1 u_2) (fun u_5 => zbn (f_X9_printedBy M 3 (M 3 3) u_2) (fun u_6 => if u_5 = (u_6 + x6_4) then (b_X10_misfits_79 (fun x3 x4 => b_X10_misfits_5  M x1 x2 n x3 x4) M x1 x2 x3 x4) else (znm (x3 + 1) (fun x3_7 => b_X10_misfits_79 (fun x3 x4 => b_X10_misfits_5  M x1 x2 n x3 x4) M x1 x2 x3_7 x4))))))))
set_option maxRecDepth 100000 in
set_option maxHeartbeats 4000000 in
theorem lb_X10_misfits_5 (g : zG)  {r : Int32} {M0 : zM} (E : zX g p m c cX10_misfits 7 s args (zWs yX10_misfits cX10_misfits 7 (some .int)) RX10) (hret : zRi g xE 125 p l e (zrm 4 0 0) s m args below meth c 0 0 Q cX10_misfits .int (fun v M1 => v = r ∧ M1 = M0)) (M : zM) (x1 : Int32) (x2 : Int32) (hM : M = M0)  : ∀ (n : Nat) (x3 : Int32) (x4 : Int32) (H : Heap) (locs : List Loc) (ls : Array Slot), b_X10_misfits_5  M x1 x2 n x3 x4 = some r → zS g xE 125 s H locs M → lv_has ls 7 [(0, .ref (g.2.2 0)), (1, .int x1), (2, .int x2), (3, .int x3), (4, .int x4)] → W p l e (zrm 4 0 0) s m args below meth c H locs 0 0 Q (F0 m 5 ls []) := by
  have hx := E.1.1
  have hb := E.1.2.1
  intro n
  induction n with
  | zero => intro x3 x4 H locs ls h hZ hl; cases h
  | succ n ih =>
    intro x3 x4 H locs ls h hZ hl
    rw [b_X10_misfits_5] at h
    refine lv_iload hx hb dX10_misfits_5 (lv_at hl 4 rfl) ?_
    refine lv_iload_n hx hb dX10_misfits_7 rfl (lv_at hl 2 rfl) ?_
    refine zic_ge (tgt := 85) h E dX10_misfits_8 (by decide) (fun c_9 h => ?_) (fun c_9 h => ?_)
    · refine lv_iload_n hx hb dX10_misfits_85 rfl (lv_at hl 3 rfl) ?_
      exact hret _ _ _ _ _ _ ⟨Option.some.inj h, hM⟩ rfl hZ dX10_misfits_86
    · refine lv_aload_n hx hb dX10_misfits_11 rfl (lv_at hl 0 rfl) ?_
      refine zg (v := .ref (g.2.2 1)) E hZ (xb_X10 xs_0) ((xe_X10 xs_0) _) kc_X10 0 (by decide) kw_352 rfl rfl dX10_misfits_12 ?_
      refine zg (v := .ref (g.2.2 2)) E hZ (xb_X6 xs_1) ((xe_X6 xs_1) _) kc_X6 0 (by decide) kw_44 rfl rfl dX10_misfits_15 ?_
      refine lv_iload hx hb dX10_misfits_18 (lv_at hl 4 rfl) ?_
      obtain ⟨u_2, qu_2, h⟩ := zbn_some h
      refine zciR (zrunS E hZ v_X10_at kw_863 (c_X10_at l g M 2 xs_2.1 x4 qu_2 _) rfl hl.1 rfl (Nat.le_of_ble_eq_true rfl) ⟨by decide, by decide⟩ ⟨by decide, by decide⟩ dX10_misfits_20) hZ (fun H locs hZ => ?_)
      refine lv_istore (lv' := [(5, .int u_2), (0, .ref (g.2.2 0)), (1, .int x1), (2, .int x2), (3, .int x3), (4, .int x4)]) hx hb dX10_misfits_23 hl (by decide) rfl (fun ls hl => ?_)
      refine lv_aload_n hx hb dX10_misfits_25 rfl (lv_at hl 1 rfl) ?_
      refine zg (v := .ref (g.2.2 1)) E hZ (xb_X10 xs_0) ((xe_X10 xs_0) _) kc_X10 0 (by decide) kw_352 rfl rfl dX10_misfits_26 ?_
      refine zg (v := .ref (g.2.2 2)) E hZ (xb_X6 xs_1) ((xe_X6 xs_1) _) kc_X6 0 (by decide) kw_44 rfl rfl dX10_misfits_29 ?_
      refine lv_iload hx hb dX10_misfits_32 (lv_at hl 5 rfl) ?_
      refine lv_iconst (v := 1) hx hb dX10_misfits_34 (by decide) ?_
      refine lv_iadd hx hb dX10_misfits_35 ?_
      obtain ⟨u_3, qu_3, h⟩ := zbn_some h
      refine zciR (zrunS E hZ v_X10_at kw_863 (c_X10_at l g M 2 xs_2.1 (x4 + 1) qu_3 _) rfl hl.1 rfl (Nat.le_of_ble_eq_true rfl) ⟨by decide, by decide⟩ ⟨by decide, by decide⟩ dX10_misfits_36) hZ (fun H locs hZ => ?_)
      refine lv_bipush (v := 6) hx hb dX10_misfits_39 (by decide) ?_
      refine lv_isub hx hb dX10_misfits_41 ?_
      refine zni h (fun x6_4 ex6_4 h => ?_)
      refine lv_istore (lv' := [(6, .int x6_4), (5, .int u_2), (0, .ref (g.2.2 0)), (1, .int x1), (2, .int x2), (3, .int x3), (4, .int x4)]) hx hb dX10_misfits_42 hl (by decide) rfl (fun ls hl => ?_)
      refine lv_aload_n hx hb dX10_misfits_44 rfl (lv_at hl 2 rfl) ?_
      refine zg (v := .ref (g.2.2 3)) E hZ (xb_X10 xs_0) ((xe_X10 xs_0) _) kc_X10 1 (by decide) kw_353 rfl rfl dX10_misfits_45 ?_
      refine lv_iload_n hx hb dX10_misfits_48 rfl (lv_at hl 3 rfl) ?_
      refine lv_iload hx hb dX10_misfits_49 (lv_at hl 1 rfl) ?_
      obtain ⟨u_5, qu_5, h⟩ := zbn_some h
      refine zciR (zrunV E hZ (xb_X9 xs_3) ((xe_X9 xs_3) _) rfl rfl v_X9_printedBy kw_421 (c_X9_printedBy l g M 3 xs_3 x1 u_2 qu_5 _) rfl hl.1 rfl (Nat.le_of_ble_eq_true rfl) ⟨by decide, by decide⟩ ⟨by decide, by decide⟩ dX10_misfits_51) hZ (fun H locs hZ => ?_)
      refine lv_aload_n hx hb dX10_misfits_54 rfl (lv_at hl 2 rfl) ?_
      refine zg (v := .ref (g.2.2 3)) E hZ (xb_X10 xs_0) ((xe_X10 xs_0) _) kc_X10 1 (by decide) kw_353 rfl rfl dX10_misfits_55 ?_
      refine lv_aload_n hx hb dX10_misfits_58 rfl (lv_at hl 2 rfl) ?_
      refine zg (v := .ref (g.2.2 3)) E hZ (xb_X10 xs_0) ((xe_X10 xs_0) _) kc_X10 1 (by decide) kw_353 rfl rfl dX10_misfits_59 ?_
      refine zg (v := .int (M 3 3)) E hZ (xb_X9 xs_3) ((xe_X9 xs_3) _) kc_X9 3 (by decide) kw_73 rfl rfl dX10_misfits_62 ?_
      refine lv_iload hx hb dX10_misfits_65 (lv_at hl 1 rfl) ?_
      obtain ⟨u_6, qu_6, h⟩ := zbn_some h
      refine zciR (zrunV E hZ (xb_X9 xs_3) ((xe_X9 xs_3) _) rfl rfl v_X9_printedBy kw_421 (c_X9_printedBy l g M 3 xs_3 (M 3 3) u_2 qu_6 _) rfl hl.1 rfl (Nat.le_of_ble_eq_true rfl) ⟨by decide, by decide⟩ ⟨by decide, by decide⟩ dX10_misfits_67) hZ (fun H locs hZ => ?_)
      refine lv_iload hx hb dX10_misfits_70 (lv_at hl 0 rfl) ?_
      refine lv_iadd hx hb dX10_misfits_72 ?_
      refine zic_eq (tgt := 79) h E dX10_misfits_73 (by decide) (fun c_8 h => ?_) (fun c_8 h => ?_)
      · exact lb_X10_misfits_79 g  E hret M x1 x2 x3 x4 hM (fun x3 x4 => b_X10_misfits_5  M x1 x2 n x3 x4) ih H locs ls h hZ (lv_sub hl [2, 3, 4, 5, 6] rfl)
      · obtain ⟨x3_7, ex3_7, h⟩ := znm_ex h
        refine lv_iinc (v := x3_7) (lv' := [(3, .int x3_7), (6, .int x6_4), (5, .int u_2), (0, .ref (g.2.2 0)), (1, .int x1), (2, .int x2), (4, .int x4)]) hx hb dX10_misfits_76 hl (k := 5) rfl (by rw [ex3_7]; rfl) (by decide) rfl (fun ls hl => ?_)
        exact lb_X10_misfits_79 g  E hret M x1 x2 x3_7 x4 hM (fun x3 x4 => b_X10_misfits_5  M x1 x2 n x3 x4) ih H locs ls h hZ (lv_sub hl [3, 4, 5, 0, 6] rfl)
def f_X10_misfits (M : zM) (x1 : Int32) (x2 : Int32) : Option (Int32) :=
  b_X10_misfits_5  M x1 x2 6000 0 0
set_option maxRecDepth 100000 in
set_option maxHeartbeats 4000000 in
theorem w_X10_misfits (g : zG)  {r : Int32} {M0 : zM} (E : zX g p m c cX10_misfits 7 s args (zWs yX10_misfits cX10_misfits 7 (some .int)) RX10) (hret : zRi g xE 125 p l e (zrm 4 0 0) s m args below meth c 0 0 Q cX10_misfits .int (fun v M1 => v = r ∧ M1 = M0)) (M : zM) (hM : M = M0) (x1 : Int32) (x2 : Int32) (H : Heap) (locs : List Loc) (ls : Array Slot) (h : f_X10_misfits M x1 x2 = some r) (hZ : zS g xE 125 s H locs M) (hl : lv_has ls 7 [(0, .ref (g.2.2 0)), (1, .int x1), (2, .int x2)]) : W p l e (zrm 4 0 0) s m args below meth c H locs 0 0 Q (F0 m 0 ls []) := by
  have hx := E.1.1
  have hb := E.1.2.1
  unfold f_X10_misfits at h
  refine lv_iconst (v := 0) hx hb dX10_misfits_0 (by decide) ?_
  refine lv_istore_n (lv' := [(3, .int 0), (0, .ref (g.2.2 0)), (1, .int x1), (2, .int x2)]) hx hb dX10_misfits_1 rfl hl (by decide) rfl (fun ls hl => ?_)
  refine lv_iconst (v := 0) hx hb dX10_misfits_2 (by decide) ?_
  refine lv_istore (lv' := [(4, .int 0), (3, .int 0), (0, .ref (g.2.2 0)), (1, .int x1), (2, .int x2)]) hx hb dX10_misfits_3 hl (by decide) rfl (fun ls hl => ?_)
  exact lb_X10_misfits_5 g  E hret M x1 x2 hM  6000 0 0 H locs ls h hZ (lv_sub hl [2, 3, 4, 1, 0] rfl)
theorem c_X10_misfits (l : Launch) (g : zG) (M : zM)  (x1 : Int32) (x2 : Int32) {r : Int32} (h : f_X10_misfits M x1 x2 = some r) : zMi l g xE 125 yX10_misfits (zWs yX10_misfits cX10_misfits 7 (some .int)) 4 [.ref (g.2.2 0), .int x1, .int x2] M (fun v M1 => v = r ∧ M1 = M) :=
  zMi_of (by decide +kernel) (Nat.le_of_ble_eq_true rfl) (fun p e s m args below meth c Q ls E hret hZ hl => w_X10_misfits g  E hret M rfl x1 x2 _ _ ls h hZ hl)
theorem v_X10_misfits : zYV yX10_misfits cX10_misfits 7 (some .int) 2 := ⟨kw_1236, kw_1, kw_1235, kp_38, by decide +kernel⟩

def f_X10_dayOf (M : zM) (x0 : Int32) : Option (Int32) :=
  if 0 ≤ x0 then (zck (decide (¬ (24 : Int32) = 0)) (some (x0 / 24))) else (some ((-1)))
set_option maxRecDepth 100000 in
set_option maxHeartbeats 4000000 in
theorem w_X10_dayOf (g : zG)  {r : Int32} {M0 : zM} (E : zX g p m c cX10_dayOf 1 s args (zWs yX10_dayOf cX10_dayOf 1 (some .int)) RX10) (hret : zRi g xE 125 p l e (zrm 2 0 0) s m args below meth c 0 0 Q cX10_dayOf .int (fun v M1 => v = r ∧ M1 = M0)) (M : zM) (hM : M = M0) (x0 : Int32) (H : Heap) (locs : List Loc) (ls : Array Slot) (h : f_X10_dayOf M x0 = some r) (hZ : zS g xE 125 s H locs M) (hl : lv_has ls 1 [(0, .int x0)]) : W p l e (zrm 2 0 0) s m args below meth c H locs 0 0 Q (F0 m 0 ls []) := by
  have hx := E.1.1
  have hb := E.1.2.1
  unfold f_X10_dayOf at h
  refine lv_iload_n hx hb dX10_dayOf_0 rfl (lv_at hl 0 rfl) ?_
  refine zif_ge (tgt := 8) h E dX10_dayOf_1 (by decide) (fun c_1 h => ?_) (fun c_1 h => ?_)
  · refine lv_iload_n hx hb dX10_dayOf_8 rfl (lv_at hl 0 rfl) ?_
    refine lv_bipush (v := 24) hx hb dX10_dayOf_9 (by decide) ?_
    refine zdv h E dX10_dayOf_11 (fun h => ?_)
    exact hret _ _ _ _ _ _ ⟨Option.some.inj h, hM⟩ rfl hZ dX10_dayOf_12
  · refine lv_iconst (v := (-1)) hx hb dX10_dayOf_4 (by decide) ?_
    refine lv_goto (tgt := 12) hx hb dX10_dayOf_5 (by decide) ?_
    exact hret _ _ _ _ _ _ ⟨Option.some.inj h, hM⟩ rfl hZ dX10_dayOf_12
theorem c_X10_dayOf (l : Launch) (g : zG) (M : zM)  (x0 : Int32) {r : Int32} (h : f_X10_dayOf M x0 = some r) : zMi l g xE 125 yX10_dayOf (zWs yX10_dayOf cX10_dayOf 1 (some .int)) 2 [.int x0] M (fun v M1 => v = r ∧ M1 = M) :=
  zMi_of (by decide +kernel) (Nat.le_of_ble_eq_true rfl) (fun p e s m args below meth c Q ls E hret hZ hl => w_X10_dayOf g  E hret M rfl x0 _ _ ls h hZ hl)
theorem v_X10_dayOf : zYS yX10_dayOf cX10_dayOf 1 (some .int) 1 := ⟨kw_1262, kw_1, kw_1261, by decide +kernel⟩

def b_X10_blank_2  (M : zM) : Nat → Int32 → Option (Int32)
  | 0, _ => none
  | n + 1, x1 =>
    if 12 ≤ x1 then (some ((-1))) else (zbn (f_X9_printedBy M 3 (M 3 3) x1) (fun u_1 => zbn (f_X9_printedBy M 3 (M 3 3) (x1 - 1)) (fun u_2 => if u_2 < u_1 then (znm (x1 + 1) (fun x1_3 => b_X10_blank_2  M n x1_3)) else (some x1))))
set_option maxRecDepth 100000 in
set_option maxHeartbeats 4000000 in
theorem lb_X10_blank_2 (g : zG)  {r : Int32} {M0 : zM} (E : zX g p m c cX10_blank 2 s args (zWs yX10_blank cX10_blank 2 (some .int)) RX10) (hret : zRi g xE 125 p l e (zrm 4 0 0) s m args below meth c 0 0 Q cX10_blank .int (fun v M1 => v = r ∧ M1 = M0)) (M : zM) (hM : M = M0)  : ∀ (n : Nat) (x1 : Int32) (H : Heap) (locs : List Loc) (ls : Array Slot), b_X10_blank_2  M n x1 = some r → zS g xE 125 s H locs M → lv_has ls 2 [(0, .ref (g.2.2 0)), (1, .int x1)] → W p l e (zrm 4 0 0) s m args below meth c H locs 0 0 Q (F0 m 2 ls []) := by
  have hx := E.1.1
  have hb := E.1.2.1
  intro n
  induction n with
  | zero => intro x1 H locs ls h hZ hl; cases h
  | succ n ih =>
    intro x1 H locs ls h hZ hl
    rw [b_X10_blank_2] at h
    refine lv_iload_n hx hb dX10_blank_2 rfl (lv_at hl 1 rfl) ?_
    refine lv_bipush (v := 12) hx hb dX10_blank_3 (by decide) ?_
    refine zic_ge (tgt := 51) h E dX10_blank_5 (by decide) (fun c_5 h => ?_) (fun c_5 h => ?_)
    · refine lv_iconst (v := (-1)) hx hb dX10_blank_51 (by decide) ?_
      exact hret _ _ _ _ _ _ ⟨Option.some.inj h, hM⟩ rfl hZ dX10_blank_52
    · refine lv_aload_n hx hb dX10_blank_8 rfl (lv_at hl 0 rfl) ?_
      refine zg (v := .ref (g.2.2 3)) E hZ (xb_X10 xs_0) ((xe_X10 xs_0) _) kc_X10 1 (by decide) kw_353 rfl rfl dX10_blank_9 ?_
      refine lv_aload_n hx hb dX10_blank_12 rfl (lv_at hl 0 rfl) ?_
      refine zg (v := .ref (g.2.2 3)) E hZ (xb_X10 xs_0) ((xe_X10 xs_0) _) kc_X10 1 (by decide) kw_353 rfl rfl dX10_blank_13 ?_
      refine zg (v := .int (M 3 3)) E hZ (xb_X9 xs_3) ((xe_X9 xs_3) _) kc_X9 3 (by decide) kw_73 rfl rfl dX10_blank_16 ?_
      refine lv_iload_n hx hb dX10_blank_19 rfl (lv_at hl 1 rfl) ?_
      obtain ⟨u_1, qu_1, h⟩ := zbn_some h
      refine zciR (zrunV E hZ (xb_X9 xs_3) ((xe_X9 xs_3) _) rfl rfl v_X9_printedBy kw_421 (c_X9_printedBy l g M 3 xs_3 (M 3 3) x1 qu_1 _) rfl hl.1 rfl (Nat.le_of_ble_eq_true rfl) ⟨by decide, by decide⟩ ⟨by decide, by decide⟩ dX10_blank_20) hZ (fun H locs hZ => ?_)
      refine lv_aload_n hx hb dX10_blank_23 rfl (lv_at hl 0 rfl) ?_
      refine zg (v := .ref (g.2.2 3)) E hZ (xb_X10 xs_0) ((xe_X10 xs_0) _) kc_X10 1 (by decide) kw_353 rfl rfl dX10_blank_24 ?_
      refine lv_aload_n hx hb dX10_blank_27 rfl (lv_at hl 0 rfl) ?_
      refine zg (v := .ref (g.2.2 3)) E hZ (xb_X10 xs_0) ((xe_X10 xs_0) _) kc_X10 1 (by decide) kw_353 rfl rfl dX10_blank_28 ?_
      refine zg (v := .int (M 3 3)) E hZ (xb_X9 xs_3) ((xe_X9 xs_3) _) kc_X9 3 (by decide) kw_73 rfl rfl dX10_blank_31 ?_
      refine lv_iload_n hx hb dX10_blank_34 rfl (lv_at hl 1 rfl) ?_
      refine lv_iconst (v := 1) hx hb dX10_blank_35 (by decide) ?_
      refine lv_isub hx hb dX10_blank_36 ?_
      obtain ⟨u_2, qu_2, h⟩ := zbn_some h
      refine zciR (zrunV E hZ (xb_X9 xs_3) ((xe_X9 xs_3) _) rfl rfl v_X9_printedBy kw_421 (c_X9_printedBy l g M 3 xs_3 (M 3 3) (x1 - 1) qu_2 _) rfl hl.1 rfl (Nat.le_of_ble_eq_true rfl) ⟨by decide, by decide⟩ ⟨by decide, by decide⟩ dX10_blank_37) hZ (fun H locs hZ => ?_)
      refine zic_gt (tgt := 45) h E dX10_blank_40 (by decide) (fun c_4 h => ?_) (fun c_4 h => ?_)
      · obtain ⟨x1_3, ex1_3, h⟩ := znm_ex h
        refine lv_iinc (v := x1_3) (lv' := [(1, .int x1_3), (0, .ref (g.2.2 0))]) hx hb dX10_blank_45 hl (k := 1) rfl (by rw [ex1_3]; rfl) (by decide) rfl (fun ls hl => ?_)
        refine lv_goto (tgt := 2) hx hb dX10_blank_48 (by decide) ?_
        exact ih x1_3 H locs ls h hZ (lv_sub hl [1, 0] rfl)
      · refine lv_iload_n hx hb dX10_blank_43 rfl (lv_at hl 1 rfl) ?_
        exact hret _ _ _ _ _ _ ⟨Option.some.inj h, hM⟩ rfl hZ dX10_blank_44
def f_X10_blank (M : zM)  : Option (Int32) :=
  b_X10_blank_2  M 6000 1
set_option maxRecDepth 100000 in
set_option maxHeartbeats 4000000 in
theorem w_X10_blank (g : zG)  {r : Int32} {M0 : zM} (E : zX g p m c cX10_blank 2 s args (zWs yX10_blank cX10_blank 2 (some .int)) RX10) (hret : zRi g xE 125 p l e (zrm 4 0 0) s m args below meth c 0 0 Q cX10_blank .int (fun v M1 => v = r ∧ M1 = M0)) (M : zM) (hM : M = M0)  (H : Heap) (locs : List Loc) (ls : Array Slot) (h : f_X10_blank M  = some r) (hZ : zS g xE 125 s H locs M) (hl : lv_has ls 2 [(0, .ref (g.2.2 0))]) : W p l e (zrm 4 0 0) s m args below meth c H locs 0 0 Q (F0 m 0 ls []) := by
  have hx := E.1.1
  have hb := E.1.2.1
  unfold f_X10_blank at h
  refine lv_iconst (v := 1) hx hb dX10_blank_0 (by decide) ?_
  refine lv_istore_n (lv' := [(1, .int 1), (0, .ref (g.2.2 0))]) hx hb dX10_blank_1 rfl hl (by decide) rfl (fun ls hl => ?_)
  exact lb_X10_blank_2 g  E hret M hM  6000 1 H locs ls h hZ (lv_sub hl [1, 0] rfl)
theorem c_X10_blank (l : Launch) (g : zG) (M : zM)   {r : Int32} (h : f_X10_blank M  = some r) : zMi l g xE 125 yX10_blank (zWs yX10_blank cX10_blank 2 (some .int)) 4 [.ref (g.2.2 0)] M (fun v M1 => v = r ∧ M1 = M) :=
  zMi_of (by decide +kernel) (Nat.le_of_ble_eq_true rfl) (fun p e s m args below meth c Q ls E hret hZ hl => w_X10_blank g  E hret M rfl  _ _ ls h hZ hl)
theorem v_X10_blank : zYV yX10_blank cX10_blank 2 (some .int) 0 := ⟨kw_420, kw_1, kw_418, kw_419, by decide +kernel⟩

def b_X10_neaps_34 (K4 : Int32 → Int32 → Option (Int32)) (M : zM) (x1 : Int32) (x2 : Int32) : Option (Int32) :=
  znm (x2 + 1) (fun x2_1 => K4 x1 x2_1)
set_option maxRecDepth 100000 in
set_option maxHeartbeats 4000000 in
theorem lb_X10_neaps_34 (g : zG)  {r : Int32} {M0 : zM} (E : zX g p m c cX10_neaps 3 s args (zWs yX10_neaps cX10_neaps 3 (some .int)) RX10) (hret : zRi g xE 125 p l e (zrm 3 0 0) s m args below meth c 0 0 Q cX10_neaps .int (fun v M1 => v = r ∧ M1 = M0)) (M : zM) (x1 : Int32) (x2 : Int32) (hM : M = M0) (K4 : Int32 → Int32 → Option (Int32)) (hK4 : ∀ (x1 : Int32) (x2 : Int32) (H : Heap) (locs : List Loc) (ls : Array Slot), K4 x1 x2 = some r → zS g xE 125 s H locs M → lv_has ls 3 [(0, .ref (g.2.2 0)), (1, .int x1), (2, .int x2)] → W p l e (zrm 3 0 0) s m args below meth c H locs 0 0 Q (F0 m 4 ls [])) (H : Heap) (locs : List Loc) (ls : Array Slot) (h : b_X10_neaps_34 K4 M x1 x2 = some r) (hZ : zS g xE 125 s H locs M) (hl : lv_has ls 3 [(0, .ref (g.2.2 0)), (1, .int x1), (2, .int x2)]) : W p l e (zrm 3 0 0) s m args below meth c H locs 0 0 Q (F0 m 34 ls []) := by
  have hx := E.1.1
  have hb := E.1.2.1
  unfold b_X10_neaps_34 at h
  obtain ⟨x2_1, ex2_1, h⟩ := znm_ex h
  refine lv_iinc (v := x2_1) (lv' := [(2, .int x2_1), (0, .ref (g.2.2 0)), (1, .int x1)]) hx hb dX10_neaps_34 hl (k := 2) rfl (by rw [ex2_1]; rfl) (by decide) rfl (fun ls hl => ?_)
  refine lv_goto (tgt := 4) hx hb dX10_neaps_37 (by decide) ?_
  exact hK4 x1 x2_1 H locs ls h hZ (lv_sub hl [1, 2, 0] rfl)
def b_X10_neaps_4  (M : zM) : Nat → Int32 → Int32 → Option (Int32)
  | 0, _, _ => none
  | n + 1, x1, x2 =>
    if 12 ≤ x2 then (some x1) else (zbn (f_X9_rangeOf M 3 x2) (fun u_2 => if u_2 = (M 3 7) then (znm (x1 ||| ((1 : Int32) <<< (x2 &&& 31))) (fun x1_3 => b_X10_neaps_34 (fun x1 x2 => b_X10_neaps_4  M n x1 x2) M x1_3 x2)) else (b_X10_neaps_34 (fun x1 x2 => b_X10_neaps_4  M n x1 x2) M x1 x2)))
set_option maxRecDepth 100000 in
set_option maxHeartbeats 4000000 in
theorem lb_X10_neaps_4 (g : zG)  {r : Int32} {M0 : zM} (E : zX g p m c cX10_neaps 3 s args (zWs yX10_neaps cX10_neaps 3 (some .int)) RX10) (hret : zRi g xE 125 p l e (zrm 3 0 0) s m args below meth c 0 0 Q cX10_neaps .int (fun v M1 => v = r ∧ M1 = M0)) (M : zM) (hM : M = M0)  : ∀ (n : Nat) (x1 : Int32) (x2 : Int32) (H : Heap) (locs : List Loc) (ls : Array Slot), b_X10_neaps_4  M n x1 x2 = some r → zS g xE 125 s H locs M → lv_has ls 3 [(0, .ref (g.2.2 0)), (1, .int x1), (2, .int x2)] → W p l e (zrm 3 0 0) s m args below meth c H locs 0 0 Q (F0 m 4 ls []) := by
  have hx := E.1.1
  have hb := E.1.2.1
  intro n
  induction n with
  | zero => intro x1 x2 H locs ls h hZ hl; cases h
  | succ n ih =>
    intro x1 x2 H locs ls h hZ hl
    rw [b_X10_neaps_4] at h
    refine lv_iload_n hx hb dX10_neaps_4 rfl (lv_at hl 2 rfl) ?_
    refine lv_bipush (v := 12) hx hb dX10_neaps_5 (by decide) ?_
    refine zic_ge (tgt := 40) h E dX10_neaps_7 (by decide) (fun c_5 h => ?_) (fun c_5 h => ?_)
    · refine lv_iload_n hx hb dX10_neaps_40 rfl (lv_at hl 1 rfl) ?_
      exact hret _ _ _ _ _ _ ⟨Option.some.inj h, hM⟩ rfl hZ dX10_neaps_41
    · refine lv_aload_n hx hb dX10_neaps_10 rfl (lv_at hl 0 rfl) ?_
      refine zg (v := .ref (g.2.2 3)) E hZ (xb_X10 xs_0) ((xe_X10 xs_0) _) kc_X10 1 (by decide) kw_353 rfl rfl dX10_neaps_11 ?_
      refine lv_iload_n hx hb dX10_neaps_14 rfl (lv_at hl 2 rfl) ?_
      obtain ⟨u_2, qu_2, h⟩ := zbn_some h
      refine zciR (zrunV E hZ (xb_X9 xs_3) ((xe_X9 xs_3) _) rfl rfl v_X9_rangeOf kw_432 (c_X9_rangeOf l g M 3 xs_3 x2 qu_2 _) rfl hl.1 rfl (Nat.le_of_ble_eq_true rfl) ⟨by decide, by decide⟩ ⟨by decide, by decide⟩ dX10_neaps_15) hZ (fun H locs hZ => ?_)
      refine lv_aload_n hx hb dX10_neaps_18 rfl (lv_at hl 0 rfl) ?_
      refine zg (v := .ref (g.2.2 3)) E hZ (xb_X10 xs_0) ((xe_X10 xs_0) _) kc_X10 1 (by decide) kw_353 rfl rfl dX10_neaps_19 ?_
      refine zg (v := .int (M 3 7)) E hZ (xb_X9 xs_3) ((xe_X9 xs_3) _) kc_X9 7 (by decide) kw_86 rfl rfl dX10_neaps_22 ?_
      refine zic_ne (tgt := 34) h E dX10_neaps_25 (by decide) (fun c_4 h => ?_) (fun c_4 h => ?_)
      · exact lb_X10_neaps_34 g  E hret M x1 x2 hM (fun x1 x2 => b_X10_neaps_4  M n x1 x2) ih H locs ls h hZ (lv_sub hl [0, 1, 2] rfl)
      · refine lv_iload_n hx hb dX10_neaps_28 rfl (lv_at hl 1 rfl) ?_
        refine lv_iconst (v := 1) hx hb dX10_neaps_29 (by decide) ?_
        refine lv_iload_n hx hb dX10_neaps_30 rfl (lv_at hl 2 rfl) ?_
        refine lv_ishl hx hb dX10_neaps_31 ?_
        refine lv_ior hx hb dX10_neaps_32 ?_
        refine zni h (fun x1_3 ex1_3 h => ?_)
        refine lv_istore_n (lv' := [(1, .int x1_3), (0, .ref (g.2.2 0)), (2, .int x2)]) hx hb dX10_neaps_33 rfl hl (by decide) rfl (fun ls hl => ?_)
        exact lb_X10_neaps_34 g  E hret M x1_3 x2 hM (fun x1 x2 => b_X10_neaps_4  M n x1 x2) ih H locs ls h hZ (lv_sub hl [1, 0, 2] rfl)
def f_X10_neaps (M : zM)  : Option (Int32) :=
  b_X10_neaps_4  M 6000 0 0
set_option maxRecDepth 100000 in
set_option maxHeartbeats 4000000 in
theorem w_X10_neaps (g : zG)  {r : Int32} {M0 : zM} (E : zX g p m c cX10_neaps 3 s args (zWs yX10_neaps cX10_neaps 3 (some .int)) RX10) (hret : zRi g xE 125 p l e (zrm 3 0 0) s m args below meth c 0 0 Q cX10_neaps .int (fun v M1 => v = r ∧ M1 = M0)) (M : zM) (hM : M = M0)  (H : Heap) (locs : List Loc) (ls : Array Slot) (h : f_X10_neaps M  = some r) (hZ : zS g xE 125 s H locs M) (hl : lv_has ls 3 [(0, .ref (g.2.2 0))]) : W p l e (zrm 3 0 0) s m args below meth c H locs 0 0 Q (F0 m 0 ls []) := by
  have hx := E.1.1
  have hb := E.1.2.1
  unfold f_X10_neaps at h
  refine lv_iconst (v := 0) hx hb dX10_neaps_0 (by decide) ?_
  refine lv_istore_n (lv' := [(1, .int 0), (0, .ref (g.2.2 0))]) hx hb dX10_neaps_1 rfl hl (by decide) rfl (fun ls hl => ?_)
  refine lv_iconst (v := 0) hx hb dX10_neaps_2 (by decide) ?_
  refine lv_istore_n (lv' := [(2, .int 0), (1, .int 0), (0, .ref (g.2.2 0))]) hx hb dX10_neaps_3 rfl hl (by decide) rfl (fun ls hl => ?_)
  exact lb_X10_neaps_4 g  E hret M hM  6000 0 0 H locs ls h hZ (lv_sub hl [2, 1, 0] rfl)
theorem c_X10_neaps (l : Launch) (g : zG) (M : zM)   {r : Int32} (h : f_X10_neaps M  = some r) : zMi l g xE 125 yX10_neaps (zWs yX10_neaps cX10_neaps 3 (some .int)) 3 [.ref (g.2.2 0)] M (fun v M1 => v = r ∧ M1 = M) :=
  zMi_of (by decide +kernel) (Nat.le_of_ble_eq_true rfl) (fun p e s m args below meth c Q ls E hret hZ hl => w_X10_neaps g  E hret M rfl  _ _ ls h hZ hl)
theorem v_X10_neaps : zYV yX10_neaps cX10_neaps 3 (some .int) 0 := ⟨kw_431, kw_1, kw_429, kw_430, by decide +kernel⟩

def b_X10_stranded_160 (K19 : zM → Int32 → Int32 → Option (Int32 × zM)) (M : zM) (x1 : Int32) (x2 : Int32) (x3 : Int32) : Option (Int32 × zM) :=
  znm (x3 + 1) (fun x3_1 => K19 M x2 x3_1)
set_option maxRecDepth 100000 in
set_option maxHeartbeats 4000000 in
theorem lb_X10_stranded_160 (g : zG)  {r : Int32 × zM} (E : zX g p m c cX10_stranded 8 s args (zWs yX10_stranded cX10_stranded 8 (some .int)) RX10) (hret : zRi g xE 125 p l e (zrm 7 0 0) s m args below meth c 0 0 Q cX10_stranded .int (fun v M1 => r = (v, M1))) (M : zM) (x1 : Int32) (x2 : Int32) (x3 : Int32) (K19 : zM → Int32 → Int32 → Option (Int32 × zM)) (hK19 : ∀ (M : zM) (x2 : Int32) (x3 : Int32) (H : Heap) (locs : List Loc) (ls : Array Slot), K19 M x2 x3 = some r → zS g xE 125 s H locs M → lv_has ls 8 [(0, .ref (g.2.2 0)), (1, .int x1), (2, .int x2), (3, .int x3)] → W p l e (zrm 7 0 0) s m args below meth c H locs 0 0 Q (F0 m 19 ls [])) (H : Heap) (locs : List Loc) (ls : Array Slot) (h : b_X10_stranded_160 K19 M x1 x2 x3 = some r) (hZ : zS g xE 125 s H locs M) (hl : lv_has ls 8 [(0, .ref (g.2.2 0)), (1, .int x1), (2, .int x2), (3, .int x3)]) : W p l e (zrm 7 0 0) s m args below meth c H locs 0 0 Q (F0 m 160 ls []) := by
  have hx := E.1.1
  have hb := E.1.2.1
  unfold b_X10_stranded_160 at h
  obtain ⟨x3_1, ex3_1, h⟩ := znm_ex h
  refine lv_iinc (v := x3_1) (lv' := [(3, .int x3_1), (0, .ref (g.2.2 0)), (1, .int x1), (2, .int x2)]) hx hb dX10_stranded_160 hl (k := 3) rfl (by rw [ex3_1]; rfl) (by decide) rfl (fun ls hl => ?_)
  refine lv_goto (tgt := 19) hx hb dX10_stranded_163 (by decide) ?_
  exact hK19 M x2 x3_1 H locs ls h hZ (lv_sub hl [1, 2, 3, 0] rfl)
def b_X10_stranded_158 (K19 : zM → Int32 → Int32 → Option (Int32 × zM)) (M : zM) (x1 : Int32) (x3 : Int32) (t0 : Int32) (t1 : Int32) : Option (Int32 × zM) :=
  znm (t1 ||| t0) (fun x2_2 => b_X10_stranded_160 K19 M x1 x2_2 x3)
set_option maxRecDepth 100000 in
set_option maxHeartbeats 4000000 in
theorem lb_X10_stranded_158 (g : zG)  {r : Int32 × zM} (E : zX g p m c cX10_stranded 8 s args (zWs yX10_stranded cX10_stranded 8 (some .int)) RX10) (hret : zRi g xE 125 p l e (zrm 7 0 0) s m args below meth c 0 0 Q cX10_stranded .int (fun v M1 => r = (v, M1))) (M : zM) (x1 : Int32) (x3 : Int32) (t0 : Int32) (t1 : Int32) (K19 : zM → Int32 → Int32 → Option (Int32 × zM)) (hK19 : ∀ (M : zM) (x2 : Int32) (x3 : Int32) (H : Heap) (locs : List Loc) (ls : Array Slot), K19 M x2 x3 = some r → zS g xE 125 s H locs M → lv_has ls 8 [(0, .ref (g.2.2 0)), (1, .int x1), (2, .int x2), (3, .int x3)] → W p l e (zrm 7 0 0) s m args below meth c H locs 0 0 Q (F0 m 19 ls [])) (H : Heap) (locs : List Loc) (ls : Array Slot) (h : b_X10_stranded_158 K19 M x1 x3 t0 t1 = some r) (hZ : zS g xE 125 s H locs M) (hl : lv_has ls 8 [(0, .ref (g.2.2 0)), (1, .int x1), (3, .int x3)]) : W p l e (zrm 7 0 0) s m args below meth c H locs 0 0 Q (F0 m 158 ls [.int t0, .int t1]) := by
  have hx := E.1.1
  have hb := E.1.2.1
  unfold b_X10_stranded_158 at h
  refine lv_ior hx hb dX10_stranded_158 ?_
  refine zni h (fun x2_2 ex2_2 h => ?_)
  refine lv_istore_n (lv' := [(2, .int x2_2), (0, .ref (g.2.2 0)), (1, .int x1), (3, .int x3)]) hx hb dX10_stranded_159 rfl hl (by decide) rfl (fun ls hl => ?_)
  exact lb_X10_stranded_160 g  E hret M x1 x2_2 x3 K19 hK19 H locs ls h hZ (lv_sub hl [1, 2, 0, 3] rfl)
def b_X10_stranded_157 (K19 : zM → Int32 → Int32 → Option (Int32 × zM)) (M : zM) (x1 : Int32) (x3 : Int32) (t0 : Int32) : Option (Int32 × zM) :=
  b_X10_stranded_158 K19 M x1 x3 0 t0
set_option maxRecDepth 100000 in
set_option maxHeartbeats 4000000 in
theorem lb_X10_stranded_157 (g : zG)  {r : Int32 × zM} (E : zX g p m c cX10_stranded 8 s args (zWs yX10_stranded cX10_stranded 8 (some .int)) RX10) (hret : zRi g xE 125 p l e (zrm 7 0 0) s m args below meth c 0 0 Q cX10_stranded .int (fun v M1 => r = (v, M1))) (M : zM) (x1 : Int32) (x3 : Int32) (t0 : Int32) (K19 : zM → Int32 → Int32 → Option (Int32 × zM)) (hK19 : ∀ (M : zM) (x2 : Int32) (x3 : Int32) (H : Heap) (locs : List Loc) (ls : Array Slot), K19 M x2 x3 = some r → zS g xE 125 s H locs M → lv_has ls 8 [(0, .ref (g.2.2 0)), (1, .int x1), (2, .int x2), (3, .int x3)] → W p l e (zrm 7 0 0) s m args below meth c H locs 0 0 Q (F0 m 19 ls [])) (H : Heap) (locs : List Loc) (ls : Array Slot) (h : b_X10_stranded_157 K19 M x1 x3 t0 = some r) (hZ : zS g xE 125 s H locs M) (hl : lv_has ls 8 [(0, .ref (g.2.2 0)), (1, .int x1), (3, .int x3)]) : W p l e (zrm 7 0 0) s m args below meth c H locs 0 0 Q (F0 m 157 ls [.int t0]) := by
  have hx := E.1.1
  have hb := E.1.2.1
  unfold b_X10_stranded_157 at h
  refine lv_iconst (v := 0) hx hb dX10_stranded_157 (by decide) ?_
  exact lb_X10_stranded_158 g  E hret M x1 x3 0 t0 K19 hK19 H locs ls h hZ (lv_sub hl [0, 1, 2] rfl)
def b_X10_stranded_138 (K19 : zM → Int32 → Int32 → Option (Int32 × zM)) (M : zM) (x1 : Int32) (x2 : Int32) (x3 : Int32) (x6 : Int32) (t0 : Int32) : Option (Int32 × zM) :=
  if x6 = 0 then (b_X10_stranded_157 K19 M x1 x3 x2) else (if t0 = 0 then (b_X10_stranded_157 K19 M x1 x3 x2) else (b_X10_stranded_158 K19 M x1 x3 ((1 : Int32) <<< (x3 &&& 31)) x2))
set_option maxRecDepth 100000 in
set_option maxHeartbeats 4000000 in
theorem lb_X10_stranded_138 (g : zG)  {r : Int32 × zM} (E : zX g p m c cX10_stranded 8 s args (zWs yX10_stranded cX10_stranded 8 (some .int)) RX10) (hret : zRi g xE 125 p l e (zrm 7 0 0) s m args below meth c 0 0 Q cX10_stranded .int (fun v M1 => r = (v, M1))) (M : zM) (x1 : Int32) (x2 : Int32) (x3 : Int32) (x6 : Int32) (t0 : Int32) (K19 : zM → Int32 → Int32 → Option (Int32 × zM)) (hK19 : ∀ (M : zM) (x2 : Int32) (x3 : Int32) (H : Heap) (locs : List Loc) (ls : Array Slot), K19 M x2 x3 = some r → zS g xE 125 s H locs M → lv_has ls 8 [(0, .ref (g.2.2 0)), (1, .int x1), (2, .int x2), (3, .int x3)] → W p l e (zrm 7 0 0) s m args below meth c H locs 0 0 Q (F0 m 19 ls [])) (H : Heap) (locs : List Loc) (ls : Array Slot) (h : b_X10_stranded_138 K19 M x1 x2 x3 x6 t0 = some r) (hZ : zS g xE 125 s H locs M) (hl : lv_has ls 8 [(0, .ref (g.2.2 0)), (1, .int x1), (2, .int x2), (3, .int x3), (6, .int x6)]) : W p l e (zrm 7 0 0) s m args below meth c H locs 0 0 Q (F0 m 138 ls [.int t0]) := by
  have hx := E.1.1
  have hb := E.1.2.1
  unfold b_X10_stranded_138 at h
  refine lv_istore (lv' := [(7, .int t0), (0, .ref (g.2.2 0)), (1, .int x1), (2, .int x2), (3, .int x3), (6, .int x6)]) hx hb dX10_stranded_138 hl (by decide) rfl (fun ls hl => ?_)
  refine lv_iload_n hx hb dX10_stranded_140 rfl (lv_at hl 3 rfl) ?_
  refine lv_iload hx hb dX10_stranded_141 (lv_at hl 5 rfl) ?_
  refine zif_eq (tgt := 157) h E dX10_stranded_143 (by decide) (fun c_4 h => ?_) (fun c_4 h => ?_)
  · exact lb_X10_stranded_157 g  E hret M x1 x3 x2 K19 hK19 H locs ls h hZ (lv_sub hl [1, 2, 4] rfl)
  · refine lv_iload hx hb dX10_stranded_146 (lv_at hl 0 rfl) ?_
    refine zif_eq (tgt := 157) h E dX10_stranded_148 (by decide) (fun c_3 h => ?_) (fun c_3 h => ?_)
    · exact lb_X10_stranded_157 g  E hret M x1 x3 x2 K19 hK19 H locs ls h hZ (lv_sub hl [1, 2, 4] rfl)
    · refine lv_iconst (v := 1) hx hb dX10_stranded_151 (by decide) ?_
      refine lv_iload_n hx hb dX10_stranded_152 rfl (lv_at hl 4 rfl) ?_
      refine lv_ishl hx hb dX10_stranded_153 ?_
      refine lv_goto (tgt := 158) hx hb dX10_stranded_154 (by decide) ?_
      exact lb_X10_stranded_158 g  E hret M x1 x3 ((1 : Int32) <<< (x3 &&& 31)) x2 K19 hK19 H locs ls h hZ (lv_sub hl [1, 2, 4] rfl)
def b_X10_stranded_133 (K19 : zM → Int32 → Int32 → Option (Int32 × zM)) (M : zM) (x1 : Int32) (x2 : Int32) (x3 : Int32) (x6 : Int32) : Option (Int32 × zM) :=
  b_X10_stranded_138 K19 M x1 x2 x3 x6 1
set_option maxRecDepth 100000 in
set_option maxHeartbeats 4000000 in
theorem lb_X10_stranded_133 (g : zG)  {r : Int32 × zM} (E : zX g p m c cX10_stranded 8 s args (zWs yX10_stranded cX10_stranded 8 (some .int)) RX10) (hret : zRi g xE 125 p l e (zrm 7 0 0) s m args below meth c 0 0 Q cX10_stranded .int (fun v M1 => r = (v, M1))) (M : zM) (x1 : Int32) (x2 : Int32) (x3 : Int32) (x6 : Int32) (K19 : zM → Int32 → Int32 → Option (Int32 × zM)) (hK19 : ∀ (M : zM) (x2 : Int32) (x3 : Int32) (H : Heap) (locs : List Loc) (ls : Array Slot), K19 M x2 x3 = some r → zS g xE 125 s H locs M → lv_has ls 8 [(0, .ref (g.2.2 0)), (1, .int x1), (2, .int x2), (3, .int x3)] → W p l e (zrm 7 0 0) s m args below meth c H locs 0 0 Q (F0 m 19 ls [])) (H : Heap) (locs : List Loc) (ls : Array Slot) (h : b_X10_stranded_133 K19 M x1 x2 x3 x6 = some r) (hZ : zS g xE 125 s H locs M) (hl : lv_has ls 8 [(0, .ref (g.2.2 0)), (1, .int x1), (2, .int x2), (3, .int x3), (6, .int x6)]) : W p l e (zrm 7 0 0) s m args below meth c H locs 0 0 Q (F0 m 133 ls []) := by
  have hx := E.1.1
  have hb := E.1.2.1
  unfold b_X10_stranded_133 at h
  refine lv_iconst (v := 1) hx hb dX10_stranded_133 (by decide) ?_
  refine lv_goto (tgt := 138) hx hb dX10_stranded_134 (by decide) ?_
  exact lb_X10_stranded_138 g  E hret M x1 x2 x3 x6 1 K19 hK19 H locs ls h hZ (lv_sub hl [0, 1, 2, 3, 4] rfl)
def b_X10_stranded_107 (K19 : zM → Int32 → Int32 → Option (Int32 × zM)) (M : zM) (x1 : Int32) (x2 : Int32) (x3 : Int32) (x4 : Int32) (x5 : Int32) (t0 : Int32) : Option (Int32 × zM) :=
  if x4 = 11 then (b_X10_stranded_133 K19 M x1 x2 x3 t0) else (zbn (f_X9_depthBy M 3 x1 (x4 + 1)) (fun u_5 => if u_5 ≤ x5 then (b_X10_stranded_138 K19 M x1 x2 x3 t0 0) else (b_X10_stranded_133 K19 M x1 x2 x3 t0)))
set_option maxRecDepth 100000 in
set_option maxHeartbeats 4000000 in
theorem lb_X10_stranded_107 (g : zG)  {r : Int32 × zM} (E : zX g p m c cX10_stranded 8 s args (zWs yX10_stranded cX10_stranded 8 (some .int)) RX10) (hret : zRi g xE 125 p l e (zrm 7 0 0) s m args below meth c 0 0 Q cX10_stranded .int (fun v M1 => r = (v, M1))) (M : zM) (x1 : Int32) (x2 : Int32) (x3 : Int32) (x4 : Int32) (x5 : Int32) (t0 : Int32) (K19 : zM → Int32 → Int32 → Option (Int32 × zM)) (hK19 : ∀ (M : zM) (x2 : Int32) (x3 : Int32) (H : Heap) (locs : List Loc) (ls : Array Slot), K19 M x2 x3 = some r → zS g xE 125 s H locs M → lv_has ls 8 [(0, .ref (g.2.2 0)), (1, .int x1), (2, .int x2), (3, .int x3)] → W p l e (zrm 7 0 0) s m args below meth c H locs 0 0 Q (F0 m 19 ls [])) (H : Heap) (locs : List Loc) (ls : Array Slot) (h : b_X10_stranded_107 K19 M x1 x2 x3 x4 x5 t0 = some r) (hZ : zS g xE 125 s H locs M) (hl : lv_has ls 8 [(0, .ref (g.2.2 0)), (1, .int x1), (2, .int x2), (3, .int x3), (4, .int x4), (5, .int x5)]) : W p l e (zrm 7 0 0) s m args below meth c H locs 0 0 Q (F0 m 107 ls [.int t0]) := by
  have hx := E.1.1
  have hb := E.1.2.1
  unfold b_X10_stranded_107 at h
  refine lv_istore (lv' := [(6, .int t0), (0, .ref (g.2.2 0)), (1, .int x1), (2, .int x2), (3, .int x3), (4, .int x4), (5, .int x5)]) hx hb dX10_stranded_107 hl (by decide) rfl (fun ls hl => ?_)
  refine lv_iload hx hb dX10_stranded_109 (lv_at hl 5 rfl) ?_
  refine lv_bipush (v := 11) hx hb dX10_stranded_111 (by decide) ?_
  refine zic_eq (tgt := 133) h E dX10_stranded_113 (by decide) (fun c_7 h => ?_) (fun c_7 h => ?_)
  · exact lb_X10_stranded_133 g  E hret M x1 x2 x3 t0 K19 hK19 H locs ls h hZ (lv_sub hl [1, 2, 3, 4, 0] rfl)
  · refine lv_aload_n hx hb dX10_stranded_116 rfl (lv_at hl 1 rfl) ?_
    refine zg (v := .ref (g.2.2 3)) E hZ (xb_X10 xs_0) ((xe_X10 xs_0) _) kc_X10 1 (by decide) kw_353 rfl rfl dX10_stranded_117 ?_
    refine lv_iload_n hx hb dX10_stranded_120 rfl (lv_at hl 2 rfl) ?_
    refine lv_iload hx hb dX10_stranded_121 (lv_at hl 5 rfl) ?_
    refine lv_iconst (v := 1) hx hb dX10_stranded_123 (by decide) ?_
    refine lv_iadd hx hb dX10_stranded_124 ?_
    obtain ⟨u_5, qu_5, h⟩ := zbn_some h
    refine zciR (zrunV E hZ (xb_X9 xs_3) ((xe_X9 xs_3) _) rfl rfl v_X9_depthBy kw_466 (c_X9_depthBy l g M 3 xs_3 x1 (x4 + 1) qu_5 _) rfl hl.1 rfl (Nat.le_of_ble_eq_true rfl) ⟨by decide, by decide⟩ ⟨by decide, by decide⟩ dX10_stranded_125) hZ (fun H locs hZ => ?_)
    refine lv_iload hx hb dX10_stranded_128 (lv_at hl 6 rfl) ?_
    refine zic_le (tgt := 137) h E dX10_stranded_130 (by decide) (fun c_6 h => ?_) (fun c_6 h => ?_)
    · refine lv_iconst (v := 0) hx hb dX10_stranded_137 (by decide) ?_
      exact lb_X10_stranded_138 g  E hret M x1 x2 x3 t0 0 K19 hK19 H locs ls h hZ (lv_sub hl [1, 2, 3, 4, 0] rfl)
    · exact lb_X10_stranded_133 g  E hret M x1 x2 x3 t0 K19 hK19 H locs ls h hZ (lv_sub hl [1, 2, 3, 4, 0] rfl)
def b_X10_stranded_102 (K19 : zM → Int32 → Int32 → Option (Int32 × zM)) (M : zM) (x1 : Int32) (x2 : Int32) (x3 : Int32) (x4 : Int32) (x5 : Int32) : Option (Int32 × zM) :=
  b_X10_stranded_107 K19 M x1 x2 x3 x4 x5 1
set_option maxRecDepth 100000 in
set_option maxHeartbeats 4000000 in
theorem lb_X10_stranded_102 (g : zG)  {r : Int32 × zM} (E : zX g p m c cX10_stranded 8 s args (zWs yX10_stranded cX10_stranded 8 (some .int)) RX10) (hret : zRi g xE 125 p l e (zrm 7 0 0) s m args below meth c 0 0 Q cX10_stranded .int (fun v M1 => r = (v, M1))) (M : zM) (x1 : Int32) (x2 : Int32) (x3 : Int32) (x4 : Int32) (x5 : Int32) (K19 : zM → Int32 → Int32 → Option (Int32 × zM)) (hK19 : ∀ (M : zM) (x2 : Int32) (x3 : Int32) (H : Heap) (locs : List Loc) (ls : Array Slot), K19 M x2 x3 = some r → zS g xE 125 s H locs M → lv_has ls 8 [(0, .ref (g.2.2 0)), (1, .int x1), (2, .int x2), (3, .int x3)] → W p l e (zrm 7 0 0) s m args below meth c H locs 0 0 Q (F0 m 19 ls [])) (H : Heap) (locs : List Loc) (ls : Array Slot) (h : b_X10_stranded_102 K19 M x1 x2 x3 x4 x5 = some r) (hZ : zS g xE 125 s H locs M) (hl : lv_has ls 8 [(0, .ref (g.2.2 0)), (1, .int x1), (2, .int x2), (3, .int x3), (4, .int x4), (5, .int x5)]) : W p l e (zrm 7 0 0) s m args below meth c H locs 0 0 Q (F0 m 102 ls []) := by
  have hx := E.1.1
  have hb := E.1.2.1
  unfold b_X10_stranded_102 at h
  refine lv_iconst (v := 1) hx hb dX10_stranded_102 (by decide) ?_
  refine lv_goto (tgt := 107) hx hb dX10_stranded_103 (by decide) ?_
  exact lb_X10_stranded_107 g  E hret M x1 x2 x3 x4 x5 1 K19 hK19 H locs ls h hZ (lv_sub hl [0, 1, 2, 3, 4, 5] rfl)
def b_X10_stranded_19  (x1 : Int32) : Nat → zM → Int32 → Int32 → Option (Int32 × zM)
  | 0, _, _, _ => none
  | n + 1, M, x2, x3 =>
    if (M 3 10) ≤ x3 then (some (x2, M)) else (zbn (f_X9_monkCell M 3 x3 0) (fun u_8 => zbn (f_X9_isDrowned M 3 x3) (fun u_9 => if u_9 = 0 then (zbn (f_X9_depthBy M 3 x1 u_8) (fun u_10 => if u_10 = 0 then (zbn (f_X3_wades M 21 3 x3 x1) (fun u_11 => if u_8 = 0 then (b_X10_stranded_102 (fun M x2 x3 => b_X10_stranded_19  x1 n M x2 x3) u_11.2 x1 x2 x3 u_8 u_11.1) else (zbn (f_X9_depthBy u_11.2 3 x1 (u_8 - 1)) (fun u_12 => if u_12 ≤ u_11.1 then (b_X10_stranded_107 (fun M x2 x3 => b_X10_stranded_19  x1 n M x2 x3) u_11.2 x1 x2 x3 u_8 u_11.1 0) else (b_X10_stranded_102 (fun M x2 x3 => b_X10_stranded_19  x1 n M x2 x3) u_11.2 x1 x2 x3 u_8 u_11.1))))) else (b_X10_stranded_160 (fun M x2 x3 => b_X10_stranded_19  x1 n M x2 x3) M x1 x2 x3))) else (b_X10_stranded_160 (fun M x2 x3 => b_X10_stranded_19  x1 n M x2 x3) M x1 x2 x3))))
set_option maxRecDepth 100000 in
set_option maxHeartbeats 4000000 in
theorem lb_X10_stranded_19 (g : zG)  {r : Int32 × zM} (E : zX g p m c cX10_stranded 8 s args (zWs yX10_stranded cX10_stranded 8 (some .int)) RX10) (hret : zRi g xE 125 p l e (zrm 7 0 0) s m args below meth c 0 0 Q cX10_stranded .int (fun v M1 => r = (v, M1))) (x1 : Int32)  : ∀ (n : Nat) (M : zM) (x2 : Int32) (x3 : Int32) (H : Heap) (locs : List Loc) (ls : Array Slot), b_X10_stranded_19  x1 n M x2 x3 = some r → zS g xE 125 s H locs M → lv_has ls 8 [(0, .ref (g.2.2 0)), (1, .int x1), (2, .int x2), (3, .int x3)] → W p l e (zrm 7 0 0) s m args below meth c H locs 0 0 Q (F0 m 19 ls []) := by
  have hx := E.1.1
  have hb := E.1.2.1
  intro n
  induction n with
  | zero => intro M x2 x3 H locs ls h hZ hl; cases h
  | succ n ih =>
    intro M x2 x3 H locs ls h hZ hl
    rw [b_X10_stranded_19] at h
    refine lv_iload_n hx hb dX10_stranded_19 rfl (lv_at hl 3 rfl) ?_
    refine lv_aload_n hx hb dX10_stranded_20 rfl (lv_at hl 0 rfl) ?_
    refine zg (v := .ref (g.2.2 3)) E hZ (xb_X10 xs_0) ((xe_X10 xs_0) _) kc_X10 1 (by decide) kw_353 rfl rfl dX10_stranded_21 ?_
    refine zg (v := .int (M 3 10)) E hZ (xb_X9 xs_3) ((xe_X9 xs_3) _) kc_X9 10 (by decide) kw_96 rfl rfl dX10_stranded_24 ?_
    refine zic_ge (tgt := 166) h E dX10_stranded_27 (by decide) (fun c_17 h => ?_) (fun c_17 h => ?_)
    · refine lv_iload_n hx hb dX10_stranded_166 rfl (lv_at hl 2 rfl) ?_
      exact hret _ _ _ _ _ _ (Option.some.inj h).symm rfl hZ dX10_stranded_167
    · refine lv_aload_n hx hb dX10_stranded_30 rfl (lv_at hl 0 rfl) ?_
      refine zg (v := .ref (g.2.2 3)) E hZ (xb_X10 xs_0) ((xe_X10 xs_0) _) kc_X10 1 (by decide) kw_353 rfl rfl dX10_stranded_31 ?_
      refine lv_iload_n hx hb dX10_stranded_34 rfl (lv_at hl 3 rfl) ?_
      refine lv_iconst (v := 0) hx hb dX10_stranded_35 (by decide) ?_
      obtain ⟨u_8, qu_8, h⟩ := zbn_some h
      refine zciR (zrunV E hZ (xb_X9 xs_3) ((xe_X9 xs_3) _) rfl rfl v_X9_monkCell kw_455 (c_X9_monkCell l g M 3 xs_3 x3 0 qu_8 _) rfl hl.1 rfl (Nat.le_of_ble_eq_true rfl) ⟨by decide, by decide⟩ ⟨by decide, by decide⟩ dX10_stranded_36) hZ (fun H locs hZ => ?_)
      refine lv_istore (lv' := [(4, .int u_8), (0, .ref (g.2.2 0)), (1, .int x1), (2, .int x2), (3, .int x3)]) hx hb dX10_stranded_39 hl (by decide) rfl (fun ls hl => ?_)
      refine lv_aload_n hx hb dX10_stranded_41 rfl (lv_at hl 1 rfl) ?_
      refine zg (v := .ref (g.2.2 3)) E hZ (xb_X10 xs_0) ((xe_X10 xs_0) _) kc_X10 1 (by decide) kw_353 rfl rfl dX10_stranded_42 ?_
      refine lv_iload_n hx hb dX10_stranded_45 rfl (lv_at hl 4 rfl) ?_
      obtain ⟨u_9, qu_9, h⟩ := zbn_some h
      refine zciR (zrunV E hZ (xb_X9 xs_3) ((xe_X9 xs_3) _) rfl rfl v_X9_isDrowned kw_459 (c_X9_isDrowned l g M 3 xs_3 x3 qu_9 _) rfl hl.1 rfl (Nat.le_of_ble_eq_true rfl) ⟨by decide, by decide⟩ ⟨by decide, by decide⟩ dX10_stranded_46) hZ (fun H locs hZ => ?_)
      refine zif_ne (tgt := 160) h E dX10_stranded_49 (by decide) (fun c_16 h => ?_) (fun c_16 h => ?_)
      · exact lb_X10_stranded_160 g  E hret M x1 x2 x3 (fun M x2 x3 => b_X10_stranded_19  x1 n M x2 x3) ih H locs ls h hZ (lv_sub hl [1, 2, 3, 4] rfl)
      · refine lv_aload_n hx hb dX10_stranded_52 rfl (lv_at hl 1 rfl) ?_
        refine zg (v := .ref (g.2.2 3)) E hZ (xb_X10 xs_0) ((xe_X10 xs_0) _) kc_X10 1 (by decide) kw_353 rfl rfl dX10_stranded_53 ?_
        refine lv_iload_n hx hb dX10_stranded_56 rfl (lv_at hl 2 rfl) ?_
        refine lv_iload hx hb dX10_stranded_57 (lv_at hl 0 rfl) ?_
        obtain ⟨u_10, qu_10, h⟩ := zbn_some h
        refine zciR (zrunV E hZ (xb_X9 xs_3) ((xe_X9 xs_3) _) rfl rfl v_X9_depthBy kw_466 (c_X9_depthBy l g M 3 xs_3 x1 u_8 qu_10 _) rfl hl.1 rfl (Nat.le_of_ble_eq_true rfl) ⟨by decide, by decide⟩ ⟨by decide, by decide⟩ dX10_stranded_59) hZ (fun H locs hZ => ?_)
        refine zif_ne (tgt := 160) h E dX10_stranded_62 (by decide) (fun c_15 h => ?_) (fun c_15 h => ?_)
        · exact lb_X10_stranded_160 g  E hret M x1 x2 x3 (fun M x2 x3 => b_X10_stranded_19  x1 n M x2 x3) ih H locs ls h hZ (lv_sub hl [1, 2, 3, 4] rfl)
        · refine lv_aload_n hx hb dX10_stranded_65 rfl (lv_at hl 1 rfl) ?_
          refine zg (v := .ref (g.2.2 21)) E hZ (xb_X10 xs_0) ((xe_X10 xs_0) _) kc_X10 4 (by decide) kw_356 rfl rfl dX10_stranded_66 ?_
          refine lv_aload_n hx hb dX10_stranded_69 rfl (lv_at hl 1 rfl) ?_
          refine zg (v := .ref (g.2.2 3)) E hZ (xb_X10 xs_0) ((xe_X10 xs_0) _) kc_X10 1 (by decide) kw_353 rfl rfl dX10_stranded_70 ?_
          refine lv_iload_n hx hb dX10_stranded_73 rfl (lv_at hl 4 rfl) ?_
          refine lv_iload_n hx hb dX10_stranded_74 rfl (lv_at hl 2 rfl) ?_
          obtain ⟨u_11, qu_11, h⟩ := zbn_some h
          refine zciS (zrunV E hZ (xb_X3 xs_21) ((xe_X3 xs_21) _) rfl rfl v_X3_wades kw_470 (c_X3_wades l g M 21 xs_21 3 xs_3 x3 x1 qu_11 _) rfl hl.1 rfl (Nat.le_of_ble_eq_true rfl) ⟨by decide, by decide⟩ ⟨by decide, by decide⟩ dX10_stranded_75) hZ (fun H locs hZ => ?_)
          refine lv_istore (lv' := [(5, .int u_11.1), (4, .int u_8), (0, .ref (g.2.2 0)), (1, .int x1), (2, .int x2), (3, .int x3)]) hx hb dX10_stranded_78 hl (by decide) rfl (fun ls hl => ?_)
          refine lv_iload hx hb dX10_stranded_80 (lv_at hl 1 rfl) ?_
          refine zif_eq (tgt := 102) h E dX10_stranded_82 (by decide) (fun c_14 h => ?_) (fun c_14 h => ?_)
          · exact lb_X10_stranded_102 g  E hret u_11.2 x1 x2 x3 u_8 u_11.1 (fun M x2 x3 => b_X10_stranded_19  x1 n M x2 x3) ih H locs ls h hZ (lv_sub hl [2, 3, 4, 5, 1, 0] rfl)
          · refine lv_aload_n hx hb dX10_stranded_85 rfl (lv_at hl 2 rfl) ?_
            refine zg (v := .ref (g.2.2 3)) E hZ (xb_X10 xs_0) ((xe_X10 xs_0) _) kc_X10 1 (by decide) kw_353 rfl rfl dX10_stranded_86 ?_
            refine lv_iload_n hx hb dX10_stranded_89 rfl (lv_at hl 3 rfl) ?_
            refine lv_iload hx hb dX10_stranded_90 (lv_at hl 1 rfl) ?_
            refine lv_iconst (v := 1) hx hb dX10_stranded_92 (by decide) ?_
            refine lv_isub hx hb dX10_stranded_93 ?_
            obtain ⟨u_12, qu_12, h⟩ := zbn_some h
            refine zciR (zrunV E hZ (xb_X9 xs_3) ((xe_X9 xs_3) _) rfl rfl v_X9_depthBy kw_466 (c_X9_depthBy l g u_11.2 3 xs_3 x1 (u_8 - 1) qu_12 _) rfl hl.1 rfl (Nat.le_of_ble_eq_true rfl) ⟨by decide, by decide⟩ ⟨by decide, by decide⟩ dX10_stranded_94) hZ (fun H locs hZ => ?_)
            refine lv_iload hx hb dX10_stranded_97 (lv_at hl 0 rfl) ?_
            refine zic_le (tgt := 106) h E dX10_stranded_99 (by decide) (fun c_13 h => ?_) (fun c_13 h => ?_)
            · refine lv_iconst (v := 0) hx hb dX10_stranded_106 (by decide) ?_
              exact lb_X10_stranded_107 g  E hret u_11.2 x1 x2 x3 u_8 u_11.1 0 (fun M x2 x3 => b_X10_stranded_19  x1 n M x2 x3) ih H locs ls h hZ (lv_sub hl [2, 3, 4, 5, 1, 0] rfl)
            · exact lb_X10_stranded_102 g  E hret u_11.2 x1 x2 x3 u_8 u_11.1 (fun M x2 x3 => b_X10_stranded_19  x1 n M x2 x3) ih H locs ls h hZ (lv_sub hl [2, 3, 4, 5, 1, 0] rfl)
def f_X10_stranded (M : zM)  : Option (Int32 × zM) :=
  zbn (f_X9_waterIn M 3 (M 3 0)) (fun u_18 => b_X10_stranded_19  u_18 6000 M 0 0)
set_option maxRecDepth 100000 in
set_option maxHeartbeats 4000000 in
theorem w_X10_stranded (g : zG)  {r : Int32 × zM} (E : zX g p m c cX10_stranded 8 s args (zWs yX10_stranded cX10_stranded 8 (some .int)) RX10) (hret : zRi g xE 125 p l e (zrm 7 0 0) s m args below meth c 0 0 Q cX10_stranded .int (fun v M1 => r = (v, M1))) (M : zM)  (H : Heap) (locs : List Loc) (ls : Array Slot) (h : f_X10_stranded M  = some r) (hZ : zS g xE 125 s H locs M) (hl : lv_has ls 8 [(0, .ref (g.2.2 0))]) : W p l e (zrm 7 0 0) s m args below meth c H locs 0 0 Q (F0 m 0 ls []) := by
  have hx := E.1.1
  have hb := E.1.2.1
  unfold f_X10_stranded at h
  refine lv_aload_n hx hb dX10_stranded_0 rfl (lv_at hl 0 rfl) ?_
  refine zg (v := .ref (g.2.2 3)) E hZ (xb_X10 xs_0) ((xe_X10 xs_0) _) kc_X10 1 (by decide) kw_353 rfl rfl dX10_stranded_1 ?_
  refine lv_aload_n hx hb dX10_stranded_4 rfl (lv_at hl 0 rfl) ?_
  refine zg (v := .ref (g.2.2 3)) E hZ (xb_X10 xs_0) ((xe_X10 xs_0) _) kc_X10 1 (by decide) kw_353 rfl rfl dX10_stranded_5 ?_
  refine zg (v := .int (M 3 0)) E hZ (xb_X9 xs_3) ((xe_X9 xs_3) _) kc_X9 0 (by decide) kw_63 rfl rfl dX10_stranded_8 ?_
  obtain ⟨u_18, qu_18, h⟩ := zbn_some h
  refine zciR (zrunV E hZ (xb_X9 xs_3) ((xe_X9 xs_3) _) rfl rfl v_X9_waterIn kw_440 (c_X9_waterIn l g M 3 xs_3 (M 3 0) qu_18 _) rfl hl.1 rfl (Nat.le_of_ble_eq_true rfl) ⟨by decide, by decide⟩ ⟨by decide, by decide⟩ dX10_stranded_11) hZ (fun H locs hZ => ?_)
  refine lv_istore_n (lv' := [(1, .int u_18), (0, .ref (g.2.2 0))]) hx hb dX10_stranded_14 rfl hl (by decide) rfl (fun ls hl => ?_)
  refine lv_iconst (v := 0) hx hb dX10_stranded_15 (by decide) ?_
  refine lv_istore_n (lv' := [(2, .int 0), (1, .int u_18), (0, .ref (g.2.2 0))]) hx hb dX10_stranded_16 rfl hl (by decide) rfl (fun ls hl => ?_)
  refine lv_iconst (v := 0) hx hb dX10_stranded_17 (by decide) ?_
  refine lv_istore_n (lv' := [(3, .int 0), (2, .int 0), (1, .int u_18), (0, .ref (g.2.2 0))]) hx hb dX10_stranded_18 rfl hl (by decide) rfl (fun ls hl => ?_)
  exact lb_X10_stranded_19 g  E hret u_18  6000 M 0 0 H locs ls h hZ (lv_sub hl [3, 2, 1, 0] rfl)
theorem c_X10_stranded (l : Launch) (g : zG) (M : zM)   {r : Int32 × zM} (h : f_X10_stranded M  = some r) : zMi l g xE 125 yX10_stranded (zWs yX10_stranded cX10_stranded 8 (some .int)) 7 [.ref (g.2.2 0)] M (fun v M1 => r = (v, M1)) :=
  zMi_of (by decide +kernel) (Nat.le_of_ble_eq_true rfl) (fun p e s m args below meth c Q ls E hret hZ hl => w_X10_stranded g  E hret M  _ _ ls h hZ hl)
theorem v_X10_stranded : zYV yX10_stranded cX10_stranded 8 (some .int) 0 := ⟨kw_439, kw_1, kw_437, kw_438, by decide +kernel⟩

def b_X10_lost_51 (K4 : Int32 → Int32 → Option (Int32)) (M : zM) (x1 : Int32) (x2 : Int32) : Option (Int32) :=
  znm (x2 + 1) (fun x2_1 => K4 x1 x2_1)
set_option maxRecDepth 100000 in
set_option maxHeartbeats 4000000 in
theorem lb_X10_lost_51 (g : zG)  {r : Int32} {M0 : zM} (E : zX g p m c cX10_lost 3 s args (zWs yX10_lost cX10_lost 3 (some .int)) RX10) (hret : zRi g xE 125 p l e (zrm 4 0 0) s m args below meth c 0 0 Q cX10_lost .int (fun v M1 => v = r ∧ M1 = M0)) (M : zM) (x1 : Int32) (x2 : Int32) (hM : M = M0) (K4 : Int32 → Int32 → Option (Int32)) (hK4 : ∀ (x1 : Int32) (x2 : Int32) (H : Heap) (locs : List Loc) (ls : Array Slot), K4 x1 x2 = some r → zS g xE 125 s H locs M → lv_has ls 3 [(0, .ref (g.2.2 0)), (1, .int x1), (2, .int x2)] → W p l e (zrm 4 0 0) s m args below meth c H locs 0 0 Q (F0 m 4 ls [])) (H : Heap) (locs : List Loc) (ls : Array Slot) (h : b_X10_lost_51 K4 M x1 x2 = some r) (hZ : zS g xE 125 s H locs M) (hl : lv_has ls 3 [(0, .ref (g.2.2 0)), (1, .int x1), (2, .int x2)]) : W p l e (zrm 4 0 0) s m args below meth c H locs 0 0 Q (F0 m 51 ls []) := by
  have hx := E.1.1
  have hb := E.1.2.1
  unfold b_X10_lost_51 at h
  obtain ⟨x2_1, ex2_1, h⟩ := znm_ex h
  refine lv_iinc (v := x2_1) (lv' := [(2, .int x2_1), (0, .ref (g.2.2 0)), (1, .int x1)]) hx hb dX10_lost_51 hl (k := 2) rfl (by rw [ex2_1]; rfl) (by decide) rfl (fun ls hl => ?_)
  refine lv_goto (tgt := 4) hx hb dX10_lost_54 (by decide) ?_
  exact hK4 x1 x2_1 H locs ls h hZ (lv_sub hl [1, 2, 0] rfl)
def b_X10_lost_4  (M : zM) : Nat → Int32 → Int32 → Option (Int32)
  | 0, _, _ => none
  | n + 1, x1, x2 =>
    if (M 3 11) ≤ x2 then (some x1) else (zbn (f_X9_isKept M 3 x2) (fun u_2 => if u_2 = 0 then (zbn (f_X9_dutyCell M 3 x2 2) (fun u_3 => if (M 3 0) ≤ u_3 then (b_X10_lost_51 (fun x1 x2 => b_X10_lost_4  M n x1 x2) M x1 x2) else (znm (x1 ||| ((1 : Int32) <<< (x2 &&& 31))) (fun x1_4 => b_X10_lost_51 (fun x1 x2 => b_X10_lost_4  M n x1 x2) M x1_4 x2)))) else (b_X10_lost_51 (fun x1 x2 => b_X10_lost_4  M n x1 x2) M x1 x2)))
set_option maxRecDepth 100000 in
set_option maxHeartbeats 4000000 in
theorem lb_X10_lost_4 (g : zG)  {r : Int32} {M0 : zM} (E : zX g p m c cX10_lost 3 s args (zWs yX10_lost cX10_lost 3 (some .int)) RX10) (hret : zRi g xE 125 p l e (zrm 4 0 0) s m args below meth c 0 0 Q cX10_lost .int (fun v M1 => v = r ∧ M1 = M0)) (M : zM) (hM : M = M0)  : ∀ (n : Nat) (x1 : Int32) (x2 : Int32) (H : Heap) (locs : List Loc) (ls : Array Slot), b_X10_lost_4  M n x1 x2 = some r → zS g xE 125 s H locs M → lv_has ls 3 [(0, .ref (g.2.2 0)), (1, .int x1), (2, .int x2)] → W p l e (zrm 4 0 0) s m args below meth c H locs 0 0 Q (F0 m 4 ls []) := by
  have hx := E.1.1
  have hb := E.1.2.1
  intro n
  induction n with
  | zero => intro x1 x2 H locs ls h hZ hl; cases h
  | succ n ih =>
    intro x1 x2 H locs ls h hZ hl
    rw [b_X10_lost_4] at h
    refine lv_iload_n hx hb dX10_lost_4 rfl (lv_at hl 2 rfl) ?_
    refine lv_aload_n hx hb dX10_lost_5 rfl (lv_at hl 0 rfl) ?_
    refine zg (v := .ref (g.2.2 3)) E hZ (xb_X10 xs_0) ((xe_X10 xs_0) _) kc_X10 1 (by decide) kw_353 rfl rfl dX10_lost_6 ?_
    refine zg (v := .int (M 3 11)) E hZ (xb_X9 xs_3) ((xe_X9 xs_3) _) kc_X9 11 (by decide) kw_101 rfl rfl dX10_lost_9 ?_
    refine zic_ge (tgt := 57) h E dX10_lost_12 (by decide) (fun c_7 h => ?_) (fun c_7 h => ?_)
    · refine lv_iload_n hx hb dX10_lost_57 rfl (lv_at hl 1 rfl) ?_
      exact hret _ _ _ _ _ _ ⟨Option.some.inj h, hM⟩ rfl hZ dX10_lost_58
    · refine lv_aload_n hx hb dX10_lost_15 rfl (lv_at hl 0 rfl) ?_
      refine zg (v := .ref (g.2.2 3)) E hZ (xb_X10 xs_0) ((xe_X10 xs_0) _) kc_X10 1 (by decide) kw_353 rfl rfl dX10_lost_16 ?_
      refine lv_iload_n hx hb dX10_lost_19 rfl (lv_at hl 2 rfl) ?_
      obtain ⟨u_2, qu_2, h⟩ := zbn_some h
      refine zciR (zrunV E hZ (xb_X9 xs_3) ((xe_X9 xs_3) _) rfl rfl v_X9_isKept kw_508 (c_X9_isKept l g M 3 xs_3 x2 qu_2 _) rfl hl.1 rfl (Nat.le_of_ble_eq_true rfl) ⟨by decide, by decide⟩ ⟨by decide, by decide⟩ dX10_lost_20) hZ (fun H locs hZ => ?_)
      refine zif_ne (tgt := 51) h E dX10_lost_23 (by decide) (fun c_6 h => ?_) (fun c_6 h => ?_)
      · exact lb_X10_lost_51 g  E hret M x1 x2 hM (fun x1 x2 => b_X10_lost_4  M n x1 x2) ih H locs ls h hZ (lv_sub hl [0, 1, 2] rfl)
      · refine lv_aload_n hx hb dX10_lost_26 rfl (lv_at hl 0 rfl) ?_
        refine zg (v := .ref (g.2.2 3)) E hZ (xb_X10 xs_0) ((xe_X10 xs_0) _) kc_X10 1 (by decide) kw_353 rfl rfl dX10_lost_27 ?_
        refine lv_iload_n hx hb dX10_lost_30 rfl (lv_at hl 2 rfl) ?_
        refine lv_iconst (v := 2) hx hb dX10_lost_31 (by decide) ?_
        obtain ⟨u_3, qu_3, h⟩ := zbn_some h
        refine zciR (zrunV E hZ (xb_X9 xs_3) ((xe_X9 xs_3) _) rfl rfl v_X9_dutyCell kw_512 (c_X9_dutyCell l g M 3 xs_3 x2 2 qu_3 _) rfl hl.1 rfl (Nat.le_of_ble_eq_true rfl) ⟨by decide, by decide⟩ ⟨by decide, by decide⟩ dX10_lost_32) hZ (fun H locs hZ => ?_)
        refine lv_aload_n hx hb dX10_lost_35 rfl (lv_at hl 0 rfl) ?_
        refine zg (v := .ref (g.2.2 3)) E hZ (xb_X10 xs_0) ((xe_X10 xs_0) _) kc_X10 1 (by decide) kw_353 rfl rfl dX10_lost_36 ?_
        refine zg (v := .int (M 3 0)) E hZ (xb_X9 xs_3) ((xe_X9 xs_3) _) kc_X9 0 (by decide) kw_63 rfl rfl dX10_lost_39 ?_
        refine zic_ge (tgt := 51) h E dX10_lost_42 (by decide) (fun c_5 h => ?_) (fun c_5 h => ?_)
        · exact lb_X10_lost_51 g  E hret M x1 x2 hM (fun x1 x2 => b_X10_lost_4  M n x1 x2) ih H locs ls h hZ (lv_sub hl [0, 1, 2] rfl)
        · refine lv_iload_n hx hb dX10_lost_45 rfl (lv_at hl 1 rfl) ?_
          refine lv_iconst (v := 1) hx hb dX10_lost_46 (by decide) ?_
          refine lv_iload_n hx hb dX10_lost_47 rfl (lv_at hl 2 rfl) ?_
          refine lv_ishl hx hb dX10_lost_48 ?_
          refine lv_ior hx hb dX10_lost_49 ?_
          refine zni h (fun x1_4 ex1_4 h => ?_)
          refine lv_istore_n (lv' := [(1, .int x1_4), (0, .ref (g.2.2 0)), (2, .int x2)]) hx hb dX10_lost_50 rfl hl (by decide) rfl (fun ls hl => ?_)
          exact lb_X10_lost_51 g  E hret M x1_4 x2 hM (fun x1 x2 => b_X10_lost_4  M n x1 x2) ih H locs ls h hZ (lv_sub hl [1, 0, 2] rfl)
def f_X10_lost (M : zM)  : Option (Int32) :=
  b_X10_lost_4  M 6000 0 0
set_option maxRecDepth 100000 in
set_option maxHeartbeats 4000000 in
theorem w_X10_lost (g : zG)  {r : Int32} {M0 : zM} (E : zX g p m c cX10_lost 3 s args (zWs yX10_lost cX10_lost 3 (some .int)) RX10) (hret : zRi g xE 125 p l e (zrm 4 0 0) s m args below meth c 0 0 Q cX10_lost .int (fun v M1 => v = r ∧ M1 = M0)) (M : zM) (hM : M = M0)  (H : Heap) (locs : List Loc) (ls : Array Slot) (h : f_X10_lost M  = some r) (hZ : zS g xE 125 s H locs M) (hl : lv_has ls 3 [(0, .ref (g.2.2 0))]) : W p l e (zrm 4 0 0) s m args below meth c H locs 0 0 Q (F0 m 0 ls []) := by
  have hx := E.1.1
  have hb := E.1.2.1
  unfold f_X10_lost at h
  refine lv_iconst (v := 0) hx hb dX10_lost_0 (by decide) ?_
  refine lv_istore_n (lv' := [(1, .int 0), (0, .ref (g.2.2 0))]) hx hb dX10_lost_1 rfl hl (by decide) rfl (fun ls hl => ?_)
  refine lv_iconst (v := 0) hx hb dX10_lost_2 (by decide) ?_
  refine lv_istore_n (lv' := [(2, .int 0), (1, .int 0), (0, .ref (g.2.2 0))]) hx hb dX10_lost_3 rfl hl (by decide) rfl (fun ls hl => ?_)
  exact lb_X10_lost_4 g  E hret M hM  6000 0 0 H locs ls h hZ (lv_sub hl [2, 1, 0] rfl)
theorem c_X10_lost (l : Launch) (g : zG) (M : zM)   {r : Int32} (h : f_X10_lost M  = some r) : zMi l g xE 125 yX10_lost (zWs yX10_lost cX10_lost 3 (some .int)) 4 [.ref (g.2.2 0)] M (fun v M1 => v = r ∧ M1 = M) :=
  zMi_of (by decide +kernel) (Nat.le_of_ble_eq_true rfl) (fun p e s m args below meth c Q ls E hret hZ hl => w_X10_lost g  E hret M rfl  _ _ ls h hZ hl)
theorem v_X10_lost : zYV yX10_lost cX10_lost 3 (some .int) 0 := ⟨kw_507, kw_1, kw_505, kw_506, by decide +kernel⟩

def b_X10_choices_5  (M : zM) (x0 : Int32) (x1 : Int32) : Nat → Int64 → Int32 → Option (Int64)
  | 0, _, _ => none
  | n + 1, x2, x4 =>
    if x1 < x4 then (some x2) else (zck (decide (¬ ((x4 : Int32).toInt64 : Int64) = 0)) (znm ((x2 * (((x0 - x1) + x4 : Int32).toInt64)) / ((x4 : Int32).toInt64)) (fun x2_1 => znm (x4 + 1) (fun x4_2 => b_X10_choices_5  M x0 x1 n x2_1 x4_2))))
set_option maxRecDepth 100000 in
set_option maxHeartbeats 4000000 in
theorem lb_X10_choices_5 (g : zG)  {r : Int64} {M0 : zM} (E : zX g p m c cX10_choices 5 s args (zWs yX10_choices cX10_choices 5 (some .long)) RX10) (hret : zRl g xE 125 p l e (zrm 2 0 0) s m args below meth c 0 0 Q cX10_choices (fun v M1 => v = r ∧ M1 = M0)) (M : zM) (x0 : Int32) (x1 : Int32) (hM : M = M0)  : ∀ (n : Nat) (x2 : Int64) (x4 : Int32) (H : Heap) (locs : List Loc) (ls : Array Slot), b_X10_choices_5  M x0 x1 n x2 x4 = some r → zS g xE 125 s H locs M → lv_has ls 5 [(0, .int x0), (1, .int x1), (2, .long x2), (4, .int x4)] → W p l e (zrm 2 0 0) s m args below meth c H locs 0 0 Q (F0 m 5 ls []) := by
  have hx := E.1.1
  have hb := E.1.2.1
  intro n
  induction n with
  | zero => intro x2 x4 H locs ls h hZ hl; cases h
  | succ n ih =>
    intro x2 x4 H locs ls h hZ hl
    rw [b_X10_choices_5] at h
    refine lv_iload hx hb dX10_choices_5 (lv_at hl 3 rfl) ?_
    refine lv_iload_n hx hb dX10_choices_7 rfl (lv_at hl 1 rfl) ?_
    refine zic_gt (tgt := 31) h E dX10_choices_8 (by decide) (fun c_3 h => ?_) (fun c_3 h => ?_)
    · refine lv_lload_n hx hb dX10_choices_31 rfl (lv_at hl 2 rfl) ?_
      exact hret _ _ _ _ _ _ ⟨Option.some.inj h, hM⟩ hZ dX10_choices_32
    · refine lv_lload_n hx hb dX10_choices_11 rfl (lv_at hl 2 rfl) ?_
      refine lv_iload_n hx hb dX10_choices_12 rfl (lv_at hl 0 rfl) ?_
      refine lv_iload_n hx hb dX10_choices_13 rfl (lv_at hl 1 rfl) ?_
      refine lv_isub hx hb dX10_choices_14 ?_
      refine lv_iload hx hb dX10_choices_15 (lv_at hl 3 rfl) ?_
      refine lv_iadd hx hb dX10_choices_17 ?_
      refine lv_i2l hx hb dX10_choices_18 rfl ?_
      refine lv_lmul hx hb dX10_choices_19 ?_
      refine lv_iload hx hb dX10_choices_20 (lv_at hl 3 rfl) ?_
      refine lv_i2l hx hb dX10_choices_22 rfl ?_
      refine zldv h E dX10_choices_23 (fun h => ?_)
      refine znl h (fun x2_1 ex2_1 h => ?_)
      refine lv_lstore_n (lv' := [(2, .long x2_1), (0, .int x0), (1, .int x1), (4, .int x4)]) hx hb dX10_choices_24 rfl hl (by decide) rfl (fun ls hl => ?_)
      obtain ⟨x4_2, ex4_2, h⟩ := znm_ex h
      refine lv_iinc (v := x4_2) (lv' := [(4, .int x4_2), (2, .long x2_1), (0, .int x0), (1, .int x1)]) hx hb dX10_choices_25 hl (k := 3) rfl (by rw [ex4_2]; rfl) (by decide) rfl (fun ls hl => ?_)
      refine lv_goto (tgt := 5) hx hb dX10_choices_28 (by decide) ?_
      exact ih x2_1 x4_2 H locs ls h hZ (lv_sub hl [2, 3, 1, 0] rfl)
def f_X10_choices (M : zM) (x0 : Int32) (x1 : Int32) : Option (Int64) :=
  b_X10_choices_5  M x0 x1 6000 1 1
set_option maxRecDepth 100000 in
set_option maxHeartbeats 4000000 in
theorem w_X10_choices (g : zG)  {r : Int64} {M0 : zM} (E : zX g p m c cX10_choices 5 s args (zWs yX10_choices cX10_choices 5 (some .long)) RX10) (hret : zRl g xE 125 p l e (zrm 2 0 0) s m args below meth c 0 0 Q cX10_choices (fun v M1 => v = r ∧ M1 = M0)) (M : zM) (hM : M = M0) (x0 : Int32) (x1 : Int32) (H : Heap) (locs : List Loc) (ls : Array Slot) (h : f_X10_choices M x0 x1 = some r) (hZ : zS g xE 125 s H locs M) (hl : lv_has ls 5 [(0, .int x0), (1, .int x1)]) : W p l e (zrm 2 0 0) s m args below meth c H locs 0 0 Q (F0 m 0 ls []) := by
  have hx := E.1.1
  have hb := E.1.2.1
  unfold f_X10_choices at h
  refine lv_lconst (v := 1) hx hb dX10_choices_0 (by decide) ?_
  refine lv_lstore_n (lv' := [(2, .long 1), (0, .int x0), (1, .int x1)]) hx hb dX10_choices_1 rfl hl (by decide) rfl (fun ls hl => ?_)
  refine lv_iconst (v := 1) hx hb dX10_choices_2 (by decide) ?_
  refine lv_istore (lv' := [(4, .int 1), (2, .long 1), (0, .int x0), (1, .int x1)]) hx hb dX10_choices_3 hl (by decide) rfl (fun ls hl => ?_)
  exact lb_X10_choices_5 g  E hret M x0 x1 hM  6000 1 1 H locs ls h hZ (lv_sub hl [2, 3, 1, 0] rfl)
theorem c_X10_choices (l : Launch) (g : zG) (M : zM)  (x0 : Int32) (x1 : Int32) {r : Int64} (h : f_X10_choices M x0 x1 = some r) : zMl l g xE 125 yX10_choices (zWs yX10_choices cX10_choices 5 (some .long)) 2 [.int x0, .int x1] M (fun v M1 => v = r ∧ M1 = M) :=
  zMl_of (by decide +kernel) (Nat.le_of_ble_eq_true rfl) (fun p e s m args below meth c Q ls E hret hZ hl => w_X10_choices g  E hret M rfl x0 x1 _ _ ls h hZ hl)
theorem v_X10_choices : zYS yX10_choices cX10_choices 5 (some .long) 2 := ⟨kw_1293, kw_1, kw_1292, by decide +kernel⟩

def b_X10_power_5  (M : zM) (x0 : Int32) (x1 : Int32) : Nat → Int64 → Int32 → Option (Int64)
  | 0, _, _ => none
  | n + 1, x2, x4 =>
    if x1 ≤ x4 then (some x2) else (znm (x2 * ((x0 : Int32).toInt64)) (fun x2_1 => znm (x4 + 1) (fun x4_2 => b_X10_power_5  M x0 x1 n x2_1 x4_2)))
set_option maxRecDepth 100000 in
set_option maxHeartbeats 4000000 in
theorem lb_X10_power_5 (g : zG)  {r : Int64} {M0 : zM} (E : zX g p m c cX10_power 5 s args (zWs yX10_power cX10_power 5 (some .long)) RX10) (hret : zRl g xE 125 p l e (zrm 2 0 0) s m args below meth c 0 0 Q cX10_power (fun v M1 => v = r ∧ M1 = M0)) (M : zM) (x0 : Int32) (x1 : Int32) (hM : M = M0)  : ∀ (n : Nat) (x2 : Int64) (x4 : Int32) (H : Heap) (locs : List Loc) (ls : Array Slot), b_X10_power_5  M x0 x1 n x2 x4 = some r → zS g xE 125 s H locs M → lv_has ls 5 [(0, .int x0), (1, .int x1), (2, .long x2), (4, .int x4)] → W p l e (zrm 2 0 0) s m args below meth c H locs 0 0 Q (F0 m 5 ls []) := by
  have hx := E.1.1
  have hb := E.1.2.1
  intro n
  induction n with
  | zero => intro x2 x4 H locs ls h hZ hl; cases h
  | succ n ih =>
    intro x2 x4 H locs ls h hZ hl
    rw [b_X10_power_5] at h
    refine lv_iload hx hb dX10_power_5 (lv_at hl 3 rfl) ?_
    refine lv_iload_n hx hb dX10_power_7 rfl (lv_at hl 1 rfl) ?_
    refine zic_ge (tgt := 22) h E dX10_power_8 (by decide) (fun c_3 h => ?_) (fun c_3 h => ?_)
    · refine lv_lload_n hx hb dX10_power_22 rfl (lv_at hl 2 rfl) ?_
      exact hret _ _ _ _ _ _ ⟨Option.some.inj h, hM⟩ hZ dX10_power_23
    · refine lv_lload_n hx hb dX10_power_11 rfl (lv_at hl 2 rfl) ?_
      refine lv_iload_n hx hb dX10_power_12 rfl (lv_at hl 0 rfl) ?_
      refine lv_i2l hx hb dX10_power_13 rfl ?_
      refine lv_lmul hx hb dX10_power_14 ?_
      refine znl h (fun x2_1 ex2_1 h => ?_)
      refine lv_lstore_n (lv' := [(2, .long x2_1), (0, .int x0), (1, .int x1), (4, .int x4)]) hx hb dX10_power_15 rfl hl (by decide) rfl (fun ls hl => ?_)
      obtain ⟨x4_2, ex4_2, h⟩ := znm_ex h
      refine lv_iinc (v := x4_2) (lv' := [(4, .int x4_2), (2, .long x2_1), (0, .int x0), (1, .int x1)]) hx hb dX10_power_16 hl (k := 3) rfl (by rw [ex4_2]; rfl) (by decide) rfl (fun ls hl => ?_)
      refine lv_goto (tgt := 5) hx hb dX10_power_19 (by decide) ?_
      exact ih x2_1 x4_2 H locs ls h hZ (lv_sub hl [2, 3, 1, 0] rfl)
def f_X10_power (M : zM) (x0 : Int32) (x1 : Int32) : Option (Int64) :=
  b_X10_power_5  M x0 x1 6000 1 0
set_option maxRecDepth 100000 in
set_option maxHeartbeats 4000000 in
theorem w_X10_power (g : zG)  {r : Int64} {M0 : zM} (E : zX g p m c cX10_power 5 s args (zWs yX10_power cX10_power 5 (some .long)) RX10) (hret : zRl g xE 125 p l e (zrm 2 0 0) s m args below meth c 0 0 Q cX10_power (fun v M1 => v = r ∧ M1 = M0)) (M : zM) (hM : M = M0) (x0 : Int32) (x1 : Int32) (H : Heap) (locs : List Loc) (ls : Array Slot) (h : f_X10_power M x0 x1 = some r) (hZ : zS g xE 125 s H locs M) (hl : lv_has ls 5 [(0, .int x0), (1, .int x1)]) : W p l e (zrm 2 0 0) s m args below meth c H locs 0 0 Q (F0 m 0 ls []) := by
  have hx := E.1.1
  have hb := E.1.2.1
  unfold f_X10_power at h
  refine lv_lconst (v := 1) hx hb dX10_power_0 (by decide) ?_
  refine lv_lstore_n (lv' := [(2, .long 1), (0, .int x0), (1, .int x1)]) hx hb dX10_power_1 rfl hl (by decide) rfl (fun ls hl => ?_)
  refine lv_iconst (v := 0) hx hb dX10_power_2 (by decide) ?_
  refine lv_istore (lv' := [(4, .int 0), (2, .long 1), (0, .int x0), (1, .int x1)]) hx hb dX10_power_3 hl (by decide) rfl (fun ls hl => ?_)
  exact lb_X10_power_5 g  E hret M x0 x1 hM  6000 1 0 H locs ls h hZ (lv_sub hl [2, 3, 1, 0] rfl)
theorem c_X10_power (l : Launch) (g : zG) (M : zM)  (x0 : Int32) (x1 : Int32) {r : Int64} (h : f_X10_power M x0 x1 = some r) : zMl l g xE 125 yX10_power (zWs yX10_power cX10_power 5 (some .long)) 2 [.int x0, .int x1] M (fun v M1 => v = r ∧ M1 = M) :=
  zMl_of (by decide +kernel) (Nat.le_of_ble_eq_true rfl) (fun p e s m args below meth c Q ls E hret hZ hl => w_X10_power g  E hret M rfl x0 x1 _ _ ls h hZ hl)
theorem v_X10_power : zYS yX10_power cX10_power 5 (some .long) 2 := ⟨kw_1296, kw_1, kw_1295, by decide +kernel⟩

def f_X10_seed (M : zM) (x1 : Int32) : Option (Int32 × zM) :=
  znm (M 3 2) (fun x2_1 => znm (zu M 3 2 x1) (fun M_2 => some (x2_1, M_2)))
set_option maxRecDepth 100000 in
set_option maxHeartbeats 4000000 in
theorem w_X10_seed (g : zG)  {r : Int32 × zM} (E : zX g p m c cX10_seed 3 s args (zWs yX10_seed cX10_seed 3 (some .int)) RX10) (hret : zRi g xE 125 p l e (zrm 2 0 0) s m args below meth c 0 0 Q cX10_seed .int (fun v M1 => r = (v, M1))) (M : zM) (x1 : Int32) (H : Heap) (locs : List Loc) (ls : Array Slot) (h : f_X10_seed M x1 = some r) (hZ : zS g xE 125 s H locs M) (hl : lv_has ls 3 [(0, .ref (g.2.2 0)), (1, .int x1)]) : W p l e (zrm 2 0 0) s m args below meth c H locs 0 0 Q (F0 m 0 ls []) := by
  have hx := E.1.1
  have hb := E.1.2.1
  unfold f_X10_seed at h
  refine lv_aload_n hx hb dX10_seed_0 rfl (lv_at hl 0 rfl) ?_
  refine zg (v := .ref (g.2.2 3)) E hZ (xb_X10 xs_0) ((xe_X10 xs_0) _) kc_X10 1 (by decide) kw_353 rfl rfl dX10_seed_1 ?_
  refine zg (v := .int (M 3 2)) E hZ (xb_X9 xs_3) ((xe_X9 xs_3) _) kc_X9 2 (by decide) kw_70 rfl rfl dX10_seed_4 ?_
  refine zni h (fun x2_1 ex2_1 h => ?_)
  refine lv_istore_n (lv' := [(2, .int x2_1), (0, .ref (g.2.2 0)), (1, .int x1)]) hx hb dX10_seed_7 rfl hl (by decide) rfl (fun ls hl => ?_)
  refine lv_aload_n hx hb dX10_seed_8 rfl (lv_at hl 1 rfl) ?_
  refine zg (v := .ref (g.2.2 3)) E hZ (xb_X10 xs_0) ((xe_X10 xs_0) _) kc_X10 1 (by decide) kw_353 rfl rfl dX10_seed_9 ?_
  refine lv_iload_n hx hb dX10_seed_12 rfl (lv_at hl 2 rfl) ?_
  refine zp h E hZ (xb_X9 xs_3) ((xe_X9 xs_3) _) (((xe_X9 xs_3) _).trans (congrArg (fun z => Sum.inr (8, z)) (fs_X9_2 g _ _ _))) kc_X9 (by decide) kw_70 rfl rfl rfl (Nat.le_of_ble_eq_true rfl) dX10_seed_13 (fun M_2 H locs eM_2 h hZ => ?_)
  refine lv_iload_n hx hb dX10_seed_16 rfl (lv_at hl 0 rfl) ?_
  exact hret _ _ _ _ _ _ (Option.some.inj h).symm rfl hZ dX10_seed_17
theorem c_X10_seed (l : Launch) (g : zG) (M : zM)  (x1 : Int32) {r : Int32 × zM} (h : f_X10_seed M x1 = some r) : zMi l g xE 125 yX10_seed (zWs yX10_seed cX10_seed 3 (some .int)) 2 [.ref (g.2.2 0), .int x1] M (fun v M1 => r = (v, M1)) :=
  zMi_of (by decide +kernel) (Nat.le_of_ble_eq_true rfl) (fun p e s m args below meth c Q ls E hret hZ hl => w_X10_seed g  E hret M x1 _ _ ls h hZ hl)
theorem v_X10_seed : zYV yX10_seed cX10_seed 3 (some .int) 1 := ⟨kw_519, kw_1, kw_517, kw_518, by decide +kernel⟩

def f_X10_undo (M : zM)  : Option (Int32 × zM) :=
  zbn (f_X5_recall M 3) (fun u_1 => zck (zbl u_1.1) (some (u_1.1, u_1.2)))
set_option maxRecDepth 100000 in
set_option maxHeartbeats 4000000 in
theorem w_X10_undo (g : zG)  {r : Int32 × zM} (E : zX g p m c cX10_undo 1 s args (zWs yX10_undo cX10_undo 1 (some .boolean)) RX10) (hret : zRi g xE 125 p l e (zrm 6 0 0) s m args below meth c 0 0 Q cX10_undo .boolean (fun v M1 => r = (v, M1))) (M : zM)  (H : Heap) (locs : List Loc) (ls : Array Slot) (h : f_X10_undo M  = some r) (hZ : zS g xE 125 s H locs M) (hl : lv_has ls 1 [(0, .ref (g.2.2 0))]) : W p l e (zrm 6 0 0) s m args below meth c H locs 0 0 Q (F0 m 0 ls []) := by
  have hx := E.1.1
  have hb := E.1.2.1
  unfold f_X10_undo at h
  refine lv_aload_n hx hb dX10_undo_0 rfl (lv_at hl 0 rfl) ?_
  refine zg (v := .ref (g.2.2 51)) E hZ (xb_X10 xs_0) ((xe_X10 xs_0) _) kc_X10 12 (by decide) kw_364 rfl rfl dX10_undo_1 ?_
  refine lv_aload_n hx hb dX10_undo_4 rfl (lv_at hl 0 rfl) ?_
  refine zg (v := .ref (g.2.2 3)) E hZ (xb_X10 xs_0) ((xe_X10 xs_0) _) kc_X10 1 (by decide) kw_353 rfl rfl dX10_undo_5 ?_
  obtain ⟨u_1, qu_1, h⟩ := zbn_some h
  refine zciS (zrunV E hZ (xb_X5 xs_51) ((xe_X5 xs_51) _) rfl rfl v_X5_recall kw_524 (c_X5_recall l g M 3 xs_3  qu_1 _) rfl hl.1 rfl (Nat.le_of_ble_eq_true rfl) ⟨by decide, by decide⟩ ⟨by decide, by decide⟩ dX10_undo_8) hZ (fun H locs hZ => ?_)
  obtain ⟨hbl, h⟩ := zck_some h
  exact hret _ _ _ _ _ _ (Option.some.inj h).symm (zbl_n hbl) hZ dX10_undo_11
theorem c_X10_undo (l : Launch) (g : zG) (M : zM)   {r : Int32 × zM} (h : f_X10_undo M  = some r) : zMi l g xE 125 yX10_undo (zWs yX10_undo cX10_undo 1 (some .boolean)) 6 [.ref (g.2.2 0)] M (fun v M1 => r = (v, M1)) :=
  zMi_of (by decide +kernel) (Nat.le_of_ble_eq_true rfl) (fun p e s m args below meth c Q ls E hret hZ hl => w_X10_undo g  E hret M  _ _ ls h hZ hl)
theorem v_X10_undo : zYV yX10_undo cX10_undo 1 (some .boolean) 0 := ⟨kw_523, kw_1, kw_521, kw_522, by decide +kernel⟩

def f_X10_image (M : zM)  : Option (zM) :=
  zbn (f_X9_copyFrom M 15 3) (fun u_1 => zbn (f_X3_copyFrom u_1 33 21) (fun u_2 => znm (zu u_2 0 14 1) (fun M_3 => some M_3)))
set_option maxRecDepth 100000 in
set_option maxHeartbeats 4000000 in
theorem w_X10_image (g : zG)  {r : zM} (E : zX g p m c cX10_image 1 s args (zWs yX10_image cX10_image 1 none) RX10) (hret : zRv g xE 125 p l e (zrm 5 0 0) s m args below meth c 0 0 Q cX10_image (fun M1 => M1 = r)) (M : zM)  (H : Heap) (locs : List Loc) (ls : Array Slot) (h : f_X10_image M  = some r) (hZ : zS g xE 125 s H locs M) (hl : lv_has ls 1 [(0, .ref (g.2.2 0))]) : W p l e (zrm 5 0 0) s m args below meth c H locs 0 0 Q (F0 m 0 ls []) := by
  have hx := E.1.1
  have hb := E.1.2.1
  unfold f_X10_image at h
  refine lv_aload_n hx hb dX10_image_0 rfl (lv_at hl 0 rfl) ?_
  refine zg (v := .ref (g.2.2 15)) E hZ (xb_X10 xs_0) ((xe_X10 xs_0) _) kc_X10 3 (by decide) kw_355 rfl rfl dX10_image_1 ?_
  refine lv_aload_n hx hb dX10_image_4 rfl (lv_at hl 0 rfl) ?_
  refine zg (v := .ref (g.2.2 3)) E hZ (xb_X10 xs_0) ((xe_X10 xs_0) _) kc_X10 1 (by decide) kw_353 rfl rfl dX10_image_5 ?_
  obtain ⟨u_1, qu_1, h⟩ := zbn_some h
  refine zcvS (zrunV E hZ (xb_X9 xs_15) ((xe_X9 xs_15) _) rfl rfl v_X9_copyFrom kw_549 (c_X9_copyFrom l g M 15 xs_15 3 xs_3  qu_1 _) rfl hl.1 rfl (Nat.le_of_ble_eq_true rfl) ⟨by decide, by decide⟩ ⟨by decide, by decide⟩ dX10_image_8) hZ (fun H locs hZ => ?_)
  refine lv_aload_n hx hb dX10_image_11 rfl (lv_at hl 0 rfl) ?_
  refine zg (v := .ref (g.2.2 33)) E hZ (xb_X10 xs_0) ((xe_X10 xs_0) _) kc_X10 6 (by decide) kw_358 rfl rfl dX10_image_12 ?_
  refine lv_aload_n hx hb dX10_image_15 rfl (lv_at hl 0 rfl) ?_
  refine zg (v := .ref (g.2.2 21)) E hZ (xb_X10 xs_0) ((xe_X10 xs_0) _) kc_X10 4 (by decide) kw_356 rfl rfl dX10_image_16 ?_
  obtain ⟨u_2, qu_2, h⟩ := zbn_some h
  refine zcvS (zrunV E hZ (xb_X3 xs_33) ((xe_X3 xs_33) _) rfl rfl v_X3_copyFrom kw_550 (c_X3_copyFrom l g u_1 33 xs_33 21 xs_21  qu_2 _) rfl hl.1 rfl (Nat.le_of_ble_eq_true rfl) ⟨by decide, by decide⟩ ⟨by decide, by decide⟩ dX10_image_19) hZ (fun H locs hZ => ?_)
  refine lv_aload_n hx hb dX10_image_22 rfl (lv_at hl 0 rfl) ?_
  refine lv_iconst (v := 1) hx hb dX10_image_23 (by decide) ?_
  refine zp h E hZ (xb_X10 xs_0) ((xe_X10 xs_0) _) (((xe_X10 xs_0) _).trans (congrArg (fun z => Sum.inr (9, z)) (fs_X10_14 g _ _ _))) kc_X10 (by decide) kw_366 rfl rfl rfl (Nat.le_of_ble_eq_true rfl) dX10_image_24 (fun M_3 H locs eM_3 h hZ => ?_)
  exact hret _ _ _ _ _ (Option.some.inj h) hZ dX10_image_27
theorem c_X10_image (l : Launch) (g : zG) (M : zM)   {r : zM} (h : f_X10_image M  = some r) : zMv l g xE 125 yX10_image (zWs yX10_image cX10_image 1 none) 5 [.ref (g.2.2 0)] M (fun M1 => M1 = r) :=
  zMv_of (by decide +kernel) (Nat.le_of_ble_eq_true rfl) (fun p e s m args below meth c Q ls E hret hZ hl => w_X10_image g  E hret M  _ _ ls h hZ hl)
theorem v_X10_image : zYV yX10_image cX10_image 1 none 0 := ⟨kw_548, kw_1, kw_546, kw_547, by decide +kernel⟩

def f_X10_back (M : zM)  : Option (Int32 × zM) :=
  if (M 0 14) = 0 then (some (0, M)) else (zbn (f_X9_copyFrom M 3 15) (fun u_1 => zbn (f_X3_copyFrom u_1 21 33) (fun u_2 => zbn (f_X5_forget u_2 ) (fun u_3 => some (1, u_3)))))
set_option maxRecDepth 100000 in
set_option maxHeartbeats 4000000 in
theorem w_X10_back (g : zG)  {r : Int32 × zM} (E : zX g p m c cX10_back 1 s args (zWs yX10_back cX10_back 1 (some .boolean)) RX10) (hret : zRi g xE 125 p l e (zrm 5 0 0) s m args below meth c 0 0 Q cX10_back .boolean (fun v M1 => r = (v, M1))) (M : zM)  (H : Heap) (locs : List Loc) (ls : Array Slot) (h : f_X10_back M  = some r) (hZ : zS g xE 125 s H locs M) (hl : lv_has ls 1 [(0, .ref (g.2.2 0))]) : W p l e (zrm 5 0 0) s m args below meth c H locs 0 0 Q (F0 m 0 ls []) := by
  have hx := E.1.1
  have hb := E.1.2.1
  unfold f_X10_back at h
  refine lv_aload_n hx hb dX10_back_0 rfl (lv_at hl 0 rfl) ?_
  refine zg (v := .int (M 0 14)) E hZ (xb_X10 xs_0) ((xe_X10 xs_0) _) kc_X10 14 (by decide) kw_366 rfl rfl dX10_back_1 ?_
  refine zif_ne (tgt := 9) h E dX10_back_4 (by decide) (fun c_4 h => ?_) (fun c_4 h => ?_)
  · refine lv_aload_n hx hb dX10_back_9 rfl (lv_at hl 0 rfl) ?_
    refine zg (v := .ref (g.2.2 3)) E hZ (xb_X10 xs_0) ((xe_X10 xs_0) _) kc_X10 1 (by decide) kw_353 rfl rfl dX10_back_10 ?_
    refine lv_aload_n hx hb dX10_back_13 rfl (lv_at hl 0 rfl) ?_
    refine zg (v := .ref (g.2.2 15)) E hZ (xb_X10 xs_0) ((xe_X10 xs_0) _) kc_X10 3 (by decide) kw_355 rfl rfl dX10_back_14 ?_
    obtain ⟨u_1, qu_1, h⟩ := zbn_some h
    refine zcvS (zrunV E hZ (xb_X9 xs_3) ((xe_X9 xs_3) _) rfl rfl v_X9_copyFrom kw_549 (c_X9_copyFrom l g M 3 xs_3 15 xs_15  qu_1 _) rfl hl.1 rfl (Nat.le_of_ble_eq_true rfl) ⟨by decide, by decide⟩ ⟨by decide, by decide⟩ dX10_back_17) hZ (fun H locs hZ => ?_)
    refine lv_aload_n hx hb dX10_back_20 rfl (lv_at hl 0 rfl) ?_
    refine zg (v := .ref (g.2.2 21)) E hZ (xb_X10 xs_0) ((xe_X10 xs_0) _) kc_X10 4 (by decide) kw_356 rfl rfl dX10_back_21 ?_
    refine lv_aload_n hx hb dX10_back_24 rfl (lv_at hl 0 rfl) ?_
    refine zg (v := .ref (g.2.2 33)) E hZ (xb_X10 xs_0) ((xe_X10 xs_0) _) kc_X10 6 (by decide) kw_358 rfl rfl dX10_back_25 ?_
    obtain ⟨u_2, qu_2, h⟩ := zbn_some h
    refine zcvS (zrunV E hZ (xb_X3 xs_21) ((xe_X3 xs_21) _) rfl rfl v_X3_copyFrom kw_550 (c_X3_copyFrom l g u_1 21 xs_21 33 xs_33  qu_2 _) rfl hl.1 rfl (Nat.le_of_ble_eq_true rfl) ⟨by decide, by decide⟩ ⟨by decide, by decide⟩ dX10_back_28) hZ (fun H locs hZ => ?_)
    refine lv_aload_n hx hb dX10_back_31 rfl (lv_at hl 0 rfl) ?_
    refine zg (v := .ref (g.2.2 51)) E hZ (xb_X10 xs_0) ((xe_X10 xs_0) _) kc_X10 12 (by decide) kw_364 rfl rfl dX10_back_32 ?_
    obtain ⟨u_3, qu_3, h⟩ := zbn_some h
    refine zcvS (zrunV E hZ (xb_X5 xs_51) ((xe_X5 xs_51) _) rfl rfl v_X5_forget kw_559 (c_X5_forget l g u_2   qu_3 _) rfl hl.1 rfl (Nat.le_of_ble_eq_true rfl) ⟨by decide, by decide⟩ ⟨by decide, by decide⟩ dX10_back_35) hZ (fun H locs hZ => ?_)
    refine lv_iconst (v := 1) hx hb dX10_back_38 (by decide) ?_
    exact hret _ _ _ _ _ _ (Option.some.inj h).symm rfl hZ dX10_back_39
  · refine lv_iconst (v := 0) hx hb dX10_back_7 (by decide) ?_
    exact hret _ _ _ _ _ _ (Option.some.inj h).symm rfl hZ dX10_back_8
theorem c_X10_back (l : Launch) (g : zG) (M : zM)   {r : Int32 × zM} (h : f_X10_back M  = some r) : zMi l g xE 125 yX10_back (zWs yX10_back cX10_back 1 (some .boolean)) 5 [.ref (g.2.2 0)] M (fun v M1 => r = (v, M1)) :=
  zMi_of (by decide +kernel) (Nat.le_of_ble_eq_true rfl) (fun p e s m args below meth c Q ls E hret hZ hl => w_X10_back g  E hret M  _ _ ls h hZ hl)
theorem v_X10_back : zYV yX10_back cX10_back 1 (some .boolean) 0 := ⟨kw_558, kw_1, kw_556, kw_557, by decide +kernel⟩

def f_X10_count (M : zM) (x1 : Int32) : Option (Int32) :=
  if x1 = 0 then (some (M 3 10)) else if x1 = 1 then (some (M 3 11)) else if x1 = 2 then (some (M 3 9)) else if x1 = 3 then (some (M 21 0)) else if x1 = 4 then (some (M 3 0)) else if x1 = 5 then (some (M 3 5)) else if x1 = 6 then (some (M 3 6)) else if x1 = 7 then (some (M 3 7)) else if x1 = 8 then (some (M 3 8)) else if x1 = 9 then (some ((M 3 1) + 5)) else if x1 = 10 then (some ((M 3 3) + 3)) else if x1 = 11 then (some (M 3 4)) else if x1 = 12 then (some (M 3 13)) else if x1 = 13 then (some (M 3 12)) else if x1 = 14 then (zbn (f_X9_loggedRows M 3) (fun u_1 => some u_1)) else if x1 = 15 then (some (M 51 2)) else (some ((-1)))
set_option maxRecDepth 100000 in
set_option maxHeartbeats 4000000 in
theorem w_X10_count (g : zG)  {r : Int32} {M0 : zM} (E : zX g p m c cX10_count 2 s args (zWs yX10_count cX10_count 2 (some .int)) RX10) (hret : zRi g xE 125 p l e (zrm 4 0 0) s m args below meth c 0 0 Q cX10_count .int (fun v M1 => v = r ∧ M1 = M0)) (M : zM) (hM : M = M0) (x1 : Int32) (H : Heap) (locs : List Loc) (ls : Array Slot) (h : f_X10_count M x1 = some r) (hZ : zS g xE 125 s H locs M) (hl : lv_has ls 2 [(0, .ref (g.2.2 0)), (1, .int x1)]) : W p l e (zrm 4 0 0) s m args below meth c H locs 0 0 Q (F0 m 0 ls []) := by
  have hx := E.1.1
  have hb := E.1.2.1
  unfold f_X10_count at h
  refine lv_iload_n hx hb dX10_count_0 rfl (lv_at hl 1 rfl) ?_
  rcases zsp h with ⟨c_2, h⟩ | ⟨c_2, h⟩
  · refine lv_tableIn (tgt := 80) hx hb dX10_count_1 (by rw [c_2]; decide) (by rw [c_2]; decide) (by rw [c_2]; rfl) (by decide) ?_
    refine lv_aload_n hx hb dX10_count_80 rfl (lv_at hl 0 rfl) ?_
    refine zg (v := .ref (g.2.2 3)) E hZ (xb_X10 xs_0) ((xe_X10 xs_0) _) kc_X10 1 (by decide) kw_353 rfl rfl dX10_count_81 ?_
    refine zg (v := .int (M 3 10)) E hZ (xb_X9 xs_3) ((xe_X9 xs_3) _) kc_X9 10 (by decide) kw_96 rfl rfl dX10_count_84 ?_
    exact hret _ _ _ _ _ _ ⟨Option.some.inj h, hM⟩ rfl hZ dX10_count_87
  rcases zsp h with ⟨c_3, h⟩ | ⟨c_3, h⟩
  · refine lv_tableIn (tgt := 88) hx hb dX10_count_1 (by rw [c_3]; decide) (by rw [c_3]; decide) (by rw [c_3]; rfl) (by decide) ?_
    refine lv_aload_n hx hb dX10_count_88 rfl (lv_at hl 0 rfl) ?_
    refine zg (v := .ref (g.2.2 3)) E hZ (xb_X10 xs_0) ((xe_X10 xs_0) _) kc_X10 1 (by decide) kw_353 rfl rfl dX10_count_89 ?_
    refine zg (v := .int (M 3 11)) E hZ (xb_X9 xs_3) ((xe_X9 xs_3) _) kc_X9 11 (by decide) kw_101 rfl rfl dX10_count_92 ?_
    exact hret _ _ _ _ _ _ ⟨Option.some.inj h, hM⟩ rfl hZ dX10_count_95
  rcases zsp h with ⟨c_4, h⟩ | ⟨c_4, h⟩
  · refine lv_tableIn (tgt := 96) hx hb dX10_count_1 (by rw [c_4]; decide) (by rw [c_4]; decide) (by rw [c_4]; rfl) (by decide) ?_
    refine lv_aload_n hx hb dX10_count_96 rfl (lv_at hl 0 rfl) ?_
    refine zg (v := .ref (g.2.2 3)) E hZ (xb_X10 xs_0) ((xe_X10 xs_0) _) kc_X10 1 (by decide) kw_353 rfl rfl dX10_count_97 ?_
    refine zg (v := .int (M 3 9)) E hZ (xb_X9 xs_3) ((xe_X9 xs_3) _) kc_X9 9 (by decide) kw_91 rfl rfl dX10_count_100 ?_
    exact hret _ _ _ _ _ _ ⟨Option.some.inj h, hM⟩ rfl hZ dX10_count_103
  rcases zsp h with ⟨c_5, h⟩ | ⟨c_5, h⟩
  · refine lv_tableIn (tgt := 104) hx hb dX10_count_1 (by rw [c_5]; decide) (by rw [c_5]; decide) (by rw [c_5]; rfl) (by decide) ?_
    refine lv_aload_n hx hb dX10_count_104 rfl (lv_at hl 0 rfl) ?_
    refine zg (v := .ref (g.2.2 21)) E hZ (xb_X10 xs_0) ((xe_X10 xs_0) _) kc_X10 4 (by decide) kw_356 rfl rfl dX10_count_105 ?_
    refine zg (v := .int (M 21 0)) E hZ (xb_X3 xs_21) ((xe_X3 xs_21) _) kc_X3 0 (by decide) kw_168 rfl rfl dX10_count_108 ?_
    exact hret _ _ _ _ _ _ ⟨Option.some.inj h, hM⟩ rfl hZ dX10_count_111
  rcases zsp h with ⟨c_6, h⟩ | ⟨c_6, h⟩
  · refine lv_tableIn (tgt := 112) hx hb dX10_count_1 (by rw [c_6]; decide) (by rw [c_6]; decide) (by rw [c_6]; rfl) (by decide) ?_
    refine lv_aload_n hx hb dX10_count_112 rfl (lv_at hl 0 rfl) ?_
    refine zg (v := .ref (g.2.2 3)) E hZ (xb_X10 xs_0) ((xe_X10 xs_0) _) kc_X10 1 (by decide) kw_353 rfl rfl dX10_count_113 ?_
    refine zg (v := .int (M 3 0)) E hZ (xb_X9 xs_3) ((xe_X9 xs_3) _) kc_X9 0 (by decide) kw_63 rfl rfl dX10_count_116 ?_
    exact hret _ _ _ _ _ _ ⟨Option.some.inj h, hM⟩ rfl hZ dX10_count_119
  rcases zsp h with ⟨c_7, h⟩ | ⟨c_7, h⟩
  · refine lv_tableIn (tgt := 120) hx hb dX10_count_1 (by rw [c_7]; decide) (by rw [c_7]; decide) (by rw [c_7]; rfl) (by decide) ?_
    refine lv_aload_n hx hb dX10_count_120 rfl (lv_at hl 0 rfl) ?_
    refine zg (v := .ref (g.2.2 3)) E hZ (xb_X10 xs_0) ((xe_X10 xs_0) _) kc_X10 1 (by decide) kw_353 rfl rfl dX10_count_121 ?_
    refine zg (v := .int (M 3 5)) E hZ (xb_X9 xs_3) ((xe_X9 xs_3) _) kc_X9 5 (by decide) kw_80 rfl rfl dX10_count_124 ?_
    exact hret _ _ _ _ _ _ ⟨Option.some.inj h, hM⟩ rfl hZ dX10_count_127
  rcases zsp h with ⟨c_8, h⟩ | ⟨c_8, h⟩
  · refine lv_tableIn (tgt := 128) hx hb dX10_count_1 (by rw [c_8]; decide) (by rw [c_8]; decide) (by rw [c_8]; rfl) (by decide) ?_
    refine lv_aload_n hx hb dX10_count_128 rfl (lv_at hl 0 rfl) ?_
    refine zg (v := .ref (g.2.2 3)) E hZ (xb_X10 xs_0) ((xe_X10 xs_0) _) kc_X10 1 (by decide) kw_353 rfl rfl dX10_count_129 ?_
    refine zg (v := .int (M 3 6)) E hZ (xb_X9 xs_3) ((xe_X9 xs_3) _) kc_X9 6 (by decide) kw_83 rfl rfl dX10_count_132 ?_
    exact hret _ _ _ _ _ _ ⟨Option.some.inj h, hM⟩ rfl hZ dX10_count_135
  rcases zsp h with ⟨c_9, h⟩ | ⟨c_9, h⟩
  · refine lv_tableIn (tgt := 136) hx hb dX10_count_1 (by rw [c_9]; decide) (by rw [c_9]; decide) (by rw [c_9]; rfl) (by decide) ?_
    refine lv_aload_n hx hb dX10_count_136 rfl (lv_at hl 0 rfl) ?_
    refine zg (v := .ref (g.2.2 3)) E hZ (xb_X10 xs_0) ((xe_X10 xs_0) _) kc_X10 1 (by decide) kw_353 rfl rfl dX10_count_137 ?_
    refine zg (v := .int (M 3 7)) E hZ (xb_X9 xs_3) ((xe_X9 xs_3) _) kc_X9 7 (by decide) kw_86 rfl rfl dX10_count_140 ?_
    exact hret _ _ _ _ _ _ ⟨Option.some.inj h, hM⟩ rfl hZ dX10_count_143
  rcases zsp h with ⟨c_10, h⟩ | ⟨c_10, h⟩
  · refine lv_tableIn (tgt := 144) hx hb dX10_count_1 (by rw [c_10]; decide) (by rw [c_10]; decide) (by rw [c_10]; rfl) (by decide) ?_
    refine lv_aload_n hx hb dX10_count_144 rfl (lv_at hl 0 rfl) ?_
    refine zg (v := .ref (g.2.2 3)) E hZ (xb_X10 xs_0) ((xe_X10 xs_0) _) kc_X10 1 (by decide) kw_353 rfl rfl dX10_count_145 ?_
    refine zg (v := .int (M 3 8)) E hZ (xb_X9 xs_3) ((xe_X9 xs_3) _) kc_X9 8 (by decide) kw_89 rfl rfl dX10_count_148 ?_
    exact hret _ _ _ _ _ _ ⟨Option.some.inj h, hM⟩ rfl hZ dX10_count_151
  rcases zsp h with ⟨c_11, h⟩ | ⟨c_11, h⟩
  · refine lv_tableIn (tgt := 152) hx hb dX10_count_1 (by rw [c_11]; decide) (by rw [c_11]; decide) (by rw [c_11]; rfl) (by decide) ?_
    refine lv_aload_n hx hb dX10_count_152 rfl (lv_at hl 0 rfl) ?_
    refine zg (v := .ref (g.2.2 3)) E hZ (xb_X10 xs_0) ((xe_X10 xs_0) _) kc_X10 1 (by decide) kw_353 rfl rfl dX10_count_153 ?_
    refine zg (v := .int (M 3 1)) E hZ (xb_X9 xs_3) ((xe_X9 xs_3) _) kc_X9 1 (by decide) kw_68 rfl rfl dX10_count_156 ?_
    refine lv_iconst (v := 5) hx hb dX10_count_159 (by decide) ?_
    refine lv_iadd hx hb dX10_count_160 ?_
    exact hret _ _ _ _ _ _ ⟨Option.some.inj h, hM⟩ rfl hZ dX10_count_161
  rcases zsp h with ⟨c_12, h⟩ | ⟨c_12, h⟩
  · refine lv_tableIn (tgt := 162) hx hb dX10_count_1 (by rw [c_12]; decide) (by rw [c_12]; decide) (by rw [c_12]; rfl) (by decide) ?_
    refine lv_aload_n hx hb dX10_count_162 rfl (lv_at hl 0 rfl) ?_
    refine zg (v := .ref (g.2.2 3)) E hZ (xb_X10 xs_0) ((xe_X10 xs_0) _) kc_X10 1 (by decide) kw_353 rfl rfl dX10_count_163 ?_
    refine zg (v := .int (M 3 3)) E hZ (xb_X9 xs_3) ((xe_X9 xs_3) _) kc_X9 3 (by decide) kw_73 rfl rfl dX10_count_166 ?_
    refine lv_iconst (v := 3) hx hb dX10_count_169 (by decide) ?_
    refine lv_iadd hx hb dX10_count_170 ?_
    exact hret _ _ _ _ _ _ ⟨Option.some.inj h, hM⟩ rfl hZ dX10_count_171
  rcases zsp h with ⟨c_13, h⟩ | ⟨c_13, h⟩
  · refine lv_tableIn (tgt := 172) hx hb dX10_count_1 (by rw [c_13]; decide) (by rw [c_13]; decide) (by rw [c_13]; rfl) (by decide) ?_
    refine lv_aload_n hx hb dX10_count_172 rfl (lv_at hl 0 rfl) ?_
    refine zg (v := .ref (g.2.2 3)) E hZ (xb_X10 xs_0) ((xe_X10 xs_0) _) kc_X10 1 (by decide) kw_353 rfl rfl dX10_count_173 ?_
    refine zg (v := .int (M 3 4)) E hZ (xb_X9 xs_3) ((xe_X9 xs_3) _) kc_X9 4 (by decide) kw_76 rfl rfl dX10_count_176 ?_
    exact hret _ _ _ _ _ _ ⟨Option.some.inj h, hM⟩ rfl hZ dX10_count_179
  rcases zsp h with ⟨c_14, h⟩ | ⟨c_14, h⟩
  · refine lv_tableIn (tgt := 180) hx hb dX10_count_1 (by rw [c_14]; decide) (by rw [c_14]; decide) (by rw [c_14]; rfl) (by decide) ?_
    refine lv_aload_n hx hb dX10_count_180 rfl (lv_at hl 0 rfl) ?_
    refine zg (v := .ref (g.2.2 3)) E hZ (xb_X10 xs_0) ((xe_X10 xs_0) _) kc_X10 1 (by decide) kw_353 rfl rfl dX10_count_181 ?_
    refine zg (v := .int (M 3 13)) E hZ (xb_X9 xs_3) ((xe_X9 xs_3) _) kc_X9 13 (by decide) kw_108 rfl rfl dX10_count_184 ?_
    exact hret _ _ _ _ _ _ ⟨Option.some.inj h, hM⟩ rfl hZ dX10_count_187
  rcases zsp h with ⟨c_15, h⟩ | ⟨c_15, h⟩
  · refine lv_tableIn (tgt := 188) hx hb dX10_count_1 (by rw [c_15]; decide) (by rw [c_15]; decide) (by rw [c_15]; rfl) (by decide) ?_
    refine lv_aload_n hx hb dX10_count_188 rfl (lv_at hl 0 rfl) ?_
    refine zg (v := .ref (g.2.2 3)) E hZ (xb_X10 xs_0) ((xe_X10 xs_0) _) kc_X10 1 (by decide) kw_353 rfl rfl dX10_count_189 ?_
    refine zg (v := .int (M 3 12)) E hZ (xb_X9 xs_3) ((xe_X9 xs_3) _) kc_X9 12 (by decide) kw_104 rfl rfl dX10_count_192 ?_
    exact hret _ _ _ _ _ _ ⟨Option.some.inj h, hM⟩ rfl hZ dX10_count_195
  rcases zsp h with ⟨c_16, h⟩ | ⟨c_16, h⟩
  · refine lv_tableIn (tgt := 196) hx hb dX10_count_1 (by rw [c_16]; decide) (by rw [c_16]; decide) (by rw [c_16]; rfl) (by decide) ?_
    refine lv_aload_n hx hb dX10_count_196 rfl (lv_at hl 0 rfl) ?_
    refine zg (v := .ref (g.2.2 3)) E hZ (xb_X10 xs_0) ((xe_X10 xs_0) _) kc_X10 1 (by decide) kw_353 rfl rfl dX10_count_197 ?_
    obtain ⟨u_1, qu_1, h⟩ := zbn_some h
    refine zciR (zrunV E hZ (xb_X9 xs_3) ((xe_X9 xs_3) _) rfl rfl v_X9_loggedRows kw_567 (c_X9_loggedRows l g M 3 xs_3  qu_1 _) rfl hl.1 rfl (Nat.le_of_ble_eq_true rfl) ⟨by decide, by decide⟩ ⟨by decide, by decide⟩ dX10_count_200) hZ (fun H locs hZ => ?_)
    exact hret _ _ _ _ _ _ ⟨Option.some.inj h, hM⟩ rfl hZ dX10_count_203
  rcases zsp h with ⟨c_17, h⟩ | ⟨c_17, h⟩
  · refine lv_tableIn (tgt := 204) hx hb dX10_count_1 (by rw [c_17]; decide) (by rw [c_17]; decide) (by rw [c_17]; rfl) (by decide) ?_
    refine lv_aload_n hx hb dX10_count_204 rfl (lv_at hl 0 rfl) ?_
    refine zg (v := .ref (g.2.2 51)) E hZ (xb_X10 xs_0) ((xe_X10 xs_0) _) kc_X10 12 (by decide) kw_364 rfl rfl dX10_count_205 ?_
    refine zg (v := .int (M 51 2)) E hZ (xb_X5 xs_51) ((xe_X5 xs_51) _) kc_X5 2 (by decide) kw_344 rfl rfl dX10_count_208 ?_
    exact hret _ _ _ _ _ _ ⟨Option.some.inj h, hM⟩ rfl hZ dX10_count_211
  have hdf : W p l e (zrm 4 0 0) s m args below meth c H locs 0 0 Q (F0 m 212 ls []) := by
    refine lv_iconst (v := (-1)) hx hb dX10_count_212 (by decide) ?_
    exact hret _ _ _ _ _ _ ⟨Option.some.inj h, hM⟩ rfl hZ dX10_count_213
  exact lv_tableOut (tgt := 212) hx hb dX10_count_1 (zsw_out [0, 1, 2, 3, 4, 5, 6, 7, 8, 9, 10, 11, 12, 13, 14, 15] (by decide) (by simp [c_2, c_3, c_4, c_5, c_6, c_7, c_8, c_9, c_10, c_11, c_12, c_13, c_14, c_15, c_16, c_17])) (by decide) hdf
theorem c_X10_count (l : Launch) (g : zG) (M : zM)  (x1 : Int32) {r : Int32} (h : f_X10_count M x1 = some r) : zMi l g xE 125 yX10_count (zWs yX10_count cX10_count 2 (some .int)) 4 [.ref (g.2.2 0), .int x1] M (fun v M1 => v = r ∧ M1 = M) :=
  zMi_of (by decide +kernel) (Nat.le_of_ble_eq_true rfl) (fun p e s m args below meth c Q ls E hret hZ hl => w_X10_count g  E hret M rfl x1 _ _ ls h hZ hl)
theorem v_X10_count : zYV yX10_count cX10_count 2 (some .int) 1 := ⟨kw_566, kw_1, kw_564, kw_565, by decide +kernel⟩

end
