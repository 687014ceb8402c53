section
variable {p : Program} {l : Launch} {e : Env} {s : State} {m : MethodId} {args : Array Value} {below : List Frame} {meth : Method} {c : Code} {Q : State → Prop}
def b_X11_tells_39  (M : zM) (x1 : Int32) (x2 : Int32) (x3 : Int32) : Option (zM) :=
  zck (zin 93 2030) (znm (zu M 1 (93 : Int32).toNatClampNeg x1) (fun M_1 => zck (zin 94 2030) (znm (zu M_1 1 (94 : Int32).toNatClampNeg x2) (fun M_2 => zck (zin 95 2030) (znm (zu M_2 1 (95 : Int32).toNatClampNeg x3) (fun M_3 => zck (zin 12 2030) (znm (if ((M_3 1 (12 : Int32).toNatClampNeg) + 1) < 60 then ((M_3 1 (12 : Int32).toNatClampNeg) + 1) else 60) (fun v_4 => zck (zin 12 2030) (znm (zu M_3 1 (12 : Int32).toNatClampNeg v_4) (fun M_5 => some M_5))))))))))
set_option maxRecDepth 100000 in
set_option maxHeartbeats 4000000 in
theorem lb_X11_tells_39 (g : zG)  {r : zM} (E : zX g p m c cX11_tells 5 s args (zWs yX11_tells cX11_tells 5 none) RX11) (hret : zRv g rE 15 p l e (zrm 3 0 0) s m args below meth c 0 0 Q cX11_tells (fun M1 => M1 = r)) (M : zM) (x1 : Int32) (x2 : Int32) (x3 : Int32)  (H : Heap) (locs : List Loc) (ls : Array Slot) (h : b_X11_tells_39  M x1 x2 x3 = some r) (hZ : zS g rE 15 s H locs M) (hl : lv_has ls 5 [(0, .ref (g.2.2 0)), (1, .int x1), (2, .int x2), (3, .int x3)]) : W p l e (zrm 3 0 0) s m args below meth c H locs 0 0 Q (F0 m 39 ls []) := by
  have hx := E.1.1
  have hb := E.1.2.1
  unfold b_X11_tells_39 at h
  refine lv_aload_n hx hb dX11_tells_39 rfl (lv_at hl 0 rfl) ?_
  refine zg (v := .ref (g.2.2 1)) E hZ (by decide) (re_0 _) kc_X11 1 (by decide) kw_1369 rfl rfl dX11_tells_40 ?_
  refine lv_bipush (v := 93) hx hb dX11_tells_43 (by decide) ?_
  refine lv_iload_n hx hb dX11_tells_45 rfl (lv_at hl 1 rfl) ?_
  refine zis h E hZ (by decide) re_1 dX11_tells_46 (fun M_1 H locs eM_1 h hZ => ?_)
  refine lv_aload_n hx hb dX11_tells_47 rfl (lv_at hl 0 rfl) ?_
  refine zg (v := .ref (g.2.2 1)) E hZ (by decide) (re_0 _) kc_X11 1 (by decide) kw_1369 rfl rfl dX11_tells_48 ?_
  refine lv_bipush (v := 94) hx hb dX11_tells_51 (by decide) ?_
  refine lv_iload_n hx hb dX11_tells_53 rfl (lv_at hl 2 rfl) ?_
  refine zis h E hZ (by decide) re_1 dX11_tells_54 (fun M_2 H locs eM_2 h hZ => ?_)
  refine lv_aload_n hx hb dX11_tells_55 rfl (lv_at hl 0 rfl) ?_
  refine zg (v := .ref (g.2.2 1)) E hZ (by decide) (re_0 _) kc_X11 1 (by decide) kw_1369 rfl rfl dX11_tells_56 ?_
  refine lv_bipush (v := 95) hx hb dX11_tells_59 (by decide) ?_
  refine lv_iload_n hx hb dX11_tells_61 rfl (lv_at hl 3 rfl) ?_
  refine zis h E hZ (by decide) re_1 dX11_tells_62 (fun M_3 H locs eM_3 h hZ => ?_)
  refine lv_aload_n hx hb dX11_tells_63 rfl (lv_at hl 0 rfl) ?_
  refine zg (v := .ref (g.2.2 1)) E hZ (by decide) (re_0 _) kc_X11 1 (by decide) kw_1369 rfl rfl dX11_tells_64 ?_
  refine lv_bipush (v := 12) hx hb dX11_tells_67 (by decide) ?_
  refine lv_bipush (v := 60) hx hb dX11_tells_69 (by decide) ?_
  refine lv_aload_n hx hb dX11_tells_71 rfl (lv_at hl 0 rfl) ?_
  refine zg (v := .ref (g.2.2 1)) E hZ (by decide) (re_0 _) kc_X11 1 (by decide) kw_1369 rfl rfl dX11_tells_72 ?_
  refine lv_bipush (v := 12) hx hb dX11_tells_75 (by decide) ?_
  refine zia h E hZ (by decide) re_1 dX11_tells_77 (fun h => ?_)
  refine lv_iconst (v := 1) hx hb dX11_tells_78 (by decide) ?_
  refine lv_iadd hx hb dX11_tells_79 ?_
  refine va_mmin hx hb (E.1.2.2.1.trans hl.1.symm) E.1.2.2.2.1 (E.w kw_1862) (E.w kw_540) (E.w kw_16) (E.w kw_541) (Nat.le_of_ble_eq_true rfl) (Nat.le_of_ble_eq_true rfl) (Nat.le_of_ble_eq_true rfl) (Nat.le_of_ble_eq_true rfl) dX11_tells_80 ?_
  refine zni h (fun v_4 ev_4 h => ?_)
  refine zis h E hZ (by decide) re_1 dX11_tells_83 (fun M_5 H locs eM_5 h hZ => ?_)
  exact hret _ _ _ _ _ (Option.some.inj h) hZ dX11_tells_84
def b_X11_tells_5  (x1 : Int32) (x2 : Int32) (x3 : Int32) : Nat → zM → Int32 → Option (zM)
  | 0, _, _ => none
  | n + 1, M, x4 =>
    if x4 < 4 then (b_X11_tells_39  M x1 x2 x3) else (zck (zin ((92 + x4) - 4) 2030) (zck (zin (92 + x4) 2030) (znm (zu M 1 (92 + x4 : Int32).toNatClampNeg (M 1 ((92 + x4) - 4 : Int32).toNatClampNeg)) (fun M_6 => znm (x4 + (-1)) (fun x4_7 => b_X11_tells_5  x1 x2 x3 n M_6 x4_7)))))
set_option maxRecDepth 100000 in
set_option maxHeartbeats 4000000 in
theorem lb_X11_tells_5 (g : zG)  {r : zM} (E : zX g p m c cX11_tells 5 s args (zWs yX11_tells cX11_tells 5 none) RX11) (hret : zRv g rE 15 p l e (zrm 3 0 0) s m args below meth c 0 0 Q cX11_tells (fun M1 => M1 = r)) (x1 : Int32) (x2 : Int32) (x3 : Int32)  : ∀ (n : Nat) (M : zM) (x4 : Int32) (H : Heap) (locs : List Loc) (ls : Array Slot), b_X11_tells_5  x1 x2 x3 n M x4 = some r → zS g rE 15 s H locs M → lv_has ls 5 [(0, .ref (g.2.2 0)), (1, .int x1), (2, .int x2), (3, .int x3), (4, .int x4)] → W p l e (zrm 3 0 0) s m args below meth c H locs 0 0 Q (F0 m 5 ls []) := by
  have hx := E.1.1
  have hb := E.1.2.1
  intro n
  induction n with
  | zero => intro M x4 H locs ls h hZ hl; cases h
  | succ n ih =>
    intro M x4 H locs ls h hZ hl
    rw [b_X11_tells_5] at h
    refine lv_iload hx hb dX11_tells_5 (lv_at hl 4 rfl) ?_
    refine lv_iconst (v := 4) hx hb dX11_tells_7 (by decide) ?_
    refine zic_lt (tgt := 39) h E dX11_tells_8 (by decide) (fun c_8 h => ?_) (fun c_8 h => ?_)
    · exact lb_X11_tells_39 g  E hret M x1 x2 x3  H locs ls h hZ (lv_sub hl [0, 1, 2, 3] rfl)
    · refine lv_aload_n hx hb dX11_tells_11 rfl (lv_at hl 0 rfl) ?_
      refine zg (v := .ref (g.2.2 1)) E hZ (by decide) (re_0 _) kc_X11 1 (by decide) kw_1369 rfl rfl dX11_tells_12 ?_
      refine lv_bipush (v := 92) hx hb dX11_tells_15 (by decide) ?_
      refine lv_iload hx hb dX11_tells_17 (lv_at hl 4 rfl) ?_
      refine lv_iadd hx hb dX11_tells_19 ?_
      refine lv_aload_n hx hb dX11_tells_20 rfl (lv_at hl 0 rfl) ?_
      refine zg (v := .ref (g.2.2 1)) E hZ (by decide) (re_0 _) kc_X11 1 (by decide) kw_1369 rfl rfl dX11_tells_21 ?_
      refine lv_bipush (v := 92) hx hb dX11_tells_24 (by decide) ?_
      refine lv_iload hx hb dX11_tells_26 (lv_at hl 4 rfl) ?_
      refine lv_iadd hx hb dX11_tells_28 ?_
      refine lv_iconst (v := 4) hx hb dX11_tells_29 (by decide) ?_
      refine lv_isub hx hb dX11_tells_30 ?_
      refine zia h E hZ (by decide) re_1 dX11_tells_31 (fun h => ?_)
      refine zis h E hZ (by decide) re_1 dX11_tells_32 (fun M_6 H locs eM_6 h hZ => ?_)
      obtain ⟨x4_7, ex4_7, h⟩ := znm_ex h
      refine lv_iinc (v := x4_7) (lv' := [(4, .int x4_7), (0, .ref (g.2.2 0)), (1, .int x1), (2, .int x2), (3, .int x3)]) hx hb dX11_tells_33 hl (k := 4) rfl (by rw [ex4_7]; rfl) (by decide) rfl (fun ls hl => ?_)
      refine lv_goto (tgt := 5) hx hb dX11_tells_36 (by decide) ?_
      exact ih M_6 x4_7 H locs ls h hZ (lv_sub hl [1, 2, 3, 4, 0] rfl)
def f_X11_tells (M : zM) (x1 : Int32) (x2 : Int32) (x3 : Int32) : Option (zM) :=
  b_X11_tells_5  x1 x2 x3 6000 M 239
set_option maxRecDepth 100000 in
set_option maxHeartbeats 4000000 in
theorem w_X11_tells (g : zG)  {r : zM} (E : zX g p m c cX11_tells 5 s args (zWs yX11_tells cX11_tells 5 none) RX11) (hret : zRv g rE 15 p l e (zrm 3 0 0) s m args below meth c 0 0 Q cX11_tells (fun M1 => M1 = r)) (M : zM) (x1 : Int32) (x2 : Int32) (x3 : Int32) (H : Heap) (locs : List Loc) (ls : Array Slot) (h : f_X11_tells M x1 x2 x3 = some r) (hZ : zS g rE 15 s H locs M) (hl : lv_has ls 5 [(0, .ref (g.2.2 0)), (1, .int x1), (2, .int x2), (3, .int x3)]) : W p l e (zrm 3 0 0) s m args below meth c H locs 0 0 Q (F0 m 0 ls []) := by
  have hx := E.1.1
  have hb := E.1.2.1
  unfold f_X11_tells at h
  refine lv_sipush (v := 239) hx hb dX11_tells_0 (by decide) ?_
  refine lv_istore (lv' := [(4, .int 239), (0, .ref (g.2.2 0)), (1, .int x1), (2, .int x2), (3, .int x3)]) hx hb dX11_tells_3 hl (by decide) rfl (fun ls hl => ?_)
  exact lb_X11_tells_5 g  E hret x1 x2 x3  6000 M 239 H locs ls h hZ (lv_sub hl [1, 2, 3, 4, 0] rfl)
theorem c_X11_tells (l : Launch) (g : zG) (M : zM)  (x1 : Int32) (x2 : Int32) (x3 : Int32) {r : zM} (h : f_X11_tells M x1 x2 x3 = some r) : zMv l g rE 15 yX11_tells (zWs yX11_tells cX11_tells 5 none) 3 [.ref (g.2.2 0), .int x1, .int x2, .int x3] M (fun M1 => M1 = r) :=
  zMv_of (by decide +kernel) (Nat.le_of_ble_eq_true rfl) (fun p e s m args below meth c Q ls E hret hZ hl => w_X11_tells g  E hret M x1 x2 x3 _ _ ls h hZ hl)
theorem v_X11_tells : zYV yX11_tells cX11_tells 5 none 3 := ⟨kw_1874, kw_15, kw_1873, kp_98, by decide +kernel⟩

def b_X11_blows_48  (M : zM) (t0 : Int32) (t1 : Int32) : Option (zM) :=
  zck (zin t1 2030) (znm (zu M 1 (t1 : Int32).toNatClampNeg t0) (fun M_1 => some M_1))
set_option maxRecDepth 100000 in
set_option maxHeartbeats 4000000 in
theorem lb_X11_blows_48 (g : zG)  {r : zM} (E : zX g p m c cX11_blows 1 s args (zWs yX11_blows cX11_blows 1 none) RX11) (hret : zRv g rE 15 p l e (zrm 3 0 0) s m args below meth c 0 0 Q cX11_blows (fun M1 => M1 = r)) (M : zM) (t0 : Int32) (t1 : Int32)  (H : Heap) (locs : List Loc) (ls : Array Slot) (h : b_X11_blows_48  M t0 t1 = some r) (hZ : zS g rE 15 s H locs M) (hl : lv_has ls 1 []) : W p l e (zrm 3 0 0) s m args below meth c H locs 0 0 Q (F0 m 48 ls [.int t0, .int t1, .ref (g.2.2 1)]) := by
  have hx := E.1.1
  have hb := E.1.2.1
  unfold b_X11_blows_48 at h
  refine zis h E hZ (by decide) re_1 dX11_blows_48 (fun M_1 H locs eM_1 h hZ => ?_)
  exact hret _ _ _ _ _ (Option.some.inj h) hZ dX11_blows_49
def f_X11_blows (M : zM)  : Option (zM) :=
  zck (zin 4 2030) (zbn (f_X11_stepOf M (M 1 (4 : Int32).toNatClampNeg)) (fun u_2 => if u_2 = 0 then (zbn (f_X11_drawn M 100) (fun u_3 => zck (zin 11 2030) (if (u_3.2 1 (11 : Int32).toNatClampNeg) ≤ u_3.1 then (b_X11_blows_48  u_3.2 0 9) else (zbn (f_X11_drawn u_3.2 11) (fun u_4 => b_X11_blows_48  u_4.2 (u_4.1 - 5) 9))))) else (some M)))
set_option maxRecDepth 100000 in
set_option maxHeartbeats 4000000 in
theorem w_X11_blows (g : zG)  {r : zM} (E : zX g p m c cX11_blows 1 s args (zWs yX11_blows cX11_blows 1 none) RX11) (hret : zRv g rE 15 p l e (zrm 3 0 0) s m args below meth c 0 0 Q cX11_blows (fun M1 => M1 = r)) (M : zM)  (H : Heap) (locs : List Loc) (ls : Array Slot) (h : f_X11_blows M  = some r) (hZ : zS g rE 15 s H locs M) (hl : lv_has ls 1 [(0, .ref (g.2.2 0))]) : W p l e (zrm 3 0 0) s m args below meth c H locs 0 0 Q (F0 m 0 ls []) := by
  have hx := E.1.1
  have hb := E.1.2.1
  unfold f_X11_blows at h
  refine lv_aload_n hx hb dX11_blows_0 rfl (lv_at hl 0 rfl) ?_
  refine lv_aload_n hx hb dX11_blows_1 rfl (lv_at hl 0 rfl) ?_
  refine zg (v := .ref (g.2.2 1)) E hZ (by decide) (re_0 _) kc_X11 1 (by decide) kw_1369 rfl rfl dX11_blows_2 ?_
  refine lv_iconst (v := 4) hx hb dX11_blows_5 (by decide) ?_
  refine zia h E hZ (by decide) re_1 dX11_blows_6 (fun h => ?_)
  obtain ⟨u_2, qu_2, h⟩ := zbn_some h
  refine zciR (zrunV E hZ (by decide) (re_0 _) rfl rfl v_X11_stepOf kw_1693 (c_X11_stepOf l g M  (M 1 (4 : Int32).toNatClampNeg) qu_2 _) rfl hl.1 rfl (Nat.le_of_ble_eq_true rfl) ⟨by decide, by decide⟩ ⟨by decide, by decide⟩ dX11_blows_7) hZ (fun H locs hZ => ?_)
  refine zif_eq (tgt := 14) h E dX11_blows_10 (by decide) (fun c_6 h => ?_) (fun c_6 h => ?_)
  · refine lv_aload_n hx hb dX11_blows_14 rfl (lv_at hl 0 rfl) ?_
    refine zg (v := .ref (g.2.2 1)) E hZ (by decide) (re_0 _) kc_X11 1 (by decide) kw_1369 rfl rfl dX11_blows_15 ?_
    refine lv_bipush (v := 9) hx hb dX11_blows_18 (by decide) ?_
    refine lv_aload_n hx hb dX11_blows_20 rfl (lv_at hl 0 rfl) ?_
    refine lv_bipush (v := 100) hx hb dX11_blows_21 (by decide) ?_
    obtain ⟨u_3, qu_3, h⟩ := zbn_some h
    refine zciS (zrunV E hZ (by decide) (re_0 _) rfl rfl v_X11_drawn kw_1853 (c_X11_drawn l g M  100 qu_3 _) rfl hl.1 rfl (Nat.le_of_ble_eq_true rfl) ⟨by decide, by decide⟩ ⟨by decide, by decide⟩ dX11_blows_23) hZ (fun H locs hZ => ?_)
    refine lv_aload_n hx hb dX11_blows_26 rfl (lv_at hl 0 rfl) ?_
    refine zg (v := .ref (g.2.2 1)) E hZ (by decide) (re_0 _) kc_X11 1 (by decide) kw_1369 rfl rfl dX11_blows_27 ?_
    refine lv_bipush (v := 11) hx hb dX11_blows_30 (by decide) ?_
    refine zia h E hZ (by decide) re_1 dX11_blows_32 (fun h => ?_)
    refine zic_ge (tgt := 47) h E dX11_blows_33 (by decide) (fun c_5 h => ?_) (fun c_5 h => ?_)
    · refine lv_iconst (v := 0) hx hb dX11_blows_47 (by decide) ?_
      exact lb_X11_blows_48 g  E hret u_3.2 0 9  H locs ls h hZ (lv_sub hl [] rfl)
    · refine lv_aload_n hx hb dX11_blows_36 rfl (lv_at hl 0 rfl) ?_
      refine lv_bipush (v := 11) hx hb dX11_blows_37 (by decide) ?_
      obtain ⟨u_4, qu_4, h⟩ := zbn_some h
      refine zciS (zrunV E hZ (by decide) (re_0 _) rfl rfl v_X11_drawn kw_1853 (c_X11_drawn l g u_3.2  11 qu_4 _) rfl hl.1 rfl (Nat.le_of_ble_eq_true rfl) ⟨by decide, by decide⟩ ⟨by decide, by decide⟩ dX11_blows_39) hZ (fun H locs hZ => ?_)
      refine lv_iconst (v := 5) hx hb dX11_blows_42 (by decide) ?_
      refine lv_isub hx hb dX11_blows_43 ?_
      refine lv_goto (tgt := 48) hx hb dX11_blows_44 (by decide) ?_
      exact lb_X11_blows_48 g  E hret u_4.2 (u_4.1 - 5) 9  H locs ls h hZ (lv_sub hl [] rfl)
  · exact hret _ _ _ _ _ (Option.some.inj h) hZ dX11_blows_13
theorem c_X11_blows (l : Launch) (g : zG) (M : zM)   {r : zM} (h : f_X11_blows M  = some r) : zMv l g rE 15 yX11_blows (zWs yX11_blows cX11_blows 1 none) 3 [.ref (g.2.2 0)] M (fun M1 => M1 = r) :=
  zMv_of (by decide +kernel) (Nat.le_of_ble_eq_true rfl) (fun p e s m args below meth c Q ls E hret hZ hl => w_X11_blows g  E hret M  _ _ ls h hZ hl)
theorem v_X11_blows : zYV yX11_blows cX11_blows 1 none 0 := ⟨kw_1852, kw_15, kw_1851, kp_93, by decide +kernel⟩

def b_X11_walks_52 (K8 : zM → Int32 → Option (zM)) (M : zM) (x1 : Int32) (x2 : Int32) (x3 : Int32) (t0 : Int32) (t1 : Int32) : Option (zM) :=
  znm (t1 + t0) (fun x4_1 => zbn (f_X11_depthNow M x4_1) (fun u_2 => if u_2 ≤ x2 then (zbn (f_X11_monkAt M x1 0) (fun u_3 => zck (zin u_3 2030) (znm (zu M 1 (u_3 : Int32).toNatClampNeg x4_1) (fun M_4 => znm (x3 + 1) (fun x3_5 => K8 M_4 x3_5))))) else (some M)))
set_option maxRecDepth 100000 in
set_option maxHeartbeats 4000000 in
theorem lb_X11_walks_52 (g : zG)  {r : zM} (E : zX g p m c cX11_walks 5 s args (zWs yX11_walks cX11_walks 5 none) RX11) (hret : zRv g rE 15 p l e (zrm 12 0 0) s m args below meth c 0 0 Q cX11_walks (fun M1 => M1 = r)) (M : zM) (x1 : Int32) (x2 : Int32) (x3 : Int32) (t0 : Int32) (t1 : Int32) (K8 : zM → Int32 → Option (zM)) (hK8 : ∀ (M : zM) (x3 : Int32) (H : Heap) (locs : List Loc) (ls : Array Slot), K8 M x3 = some r → zS g rE 15 s H locs M → lv_has ls 5 [(0, .ref (g.2.2 0)), (1, .int x1), (2, .int x2), (3, .int x3)] → W p l e (zrm 12 0 0) s m args below meth c H locs 0 0 Q (F0 m 8 ls [])) (H : Heap) (locs : List Loc) (ls : Array Slot) (h : b_X11_walks_52 K8 M x1 x2 x3 t0 t1 = some r) (hZ : zS g rE 15 s H locs M) (hl : lv_has ls 5 [(0, .ref (g.2.2 0)), (1, .int x1), (2, .int x2), (3, .int x3)]) : W p l e (zrm 12 0 0) s m args below meth c H locs 0 0 Q (F0 m 52 ls [.int t0, .int t1]) := by
  have hx := E.1.1
  have hb := E.1.2.1
  unfold b_X11_walks_52 at h
  refine lv_iadd hx hb dX11_walks_52 ?_
  refine zni h (fun x4_1 ex4_1 h => ?_)
  refine lv_istore (lv' := [(4, .int x4_1), (0, .ref (g.2.2 0)), (1, .int x1), (2, .int x2), (3, .int x3)]) hx hb dX11_walks_53 hl (by decide) rfl (fun ls hl => ?_)
  refine lv_aload_n hx hb dX11_walks_55 rfl (lv_at hl 1 rfl) ?_
  refine lv_iload hx hb dX11_walks_56 (lv_at hl 0 rfl) ?_
  obtain ⟨u_2, qu_2, h⟩ := zbn_some h
  refine zciR (zrunV E hZ (by decide) (re_0 _) rfl rfl v_X11_depthNow kw_1769 (c_X11_depthNow l g M  x4_1 qu_2 _) rfl hl.1 rfl (Nat.le_of_ble_eq_true rfl) ⟨by decide, by decide⟩ ⟨by decide, by decide⟩ dX11_walks_58) hZ (fun H locs hZ => ?_)
  refine lv_iload_n hx hb dX11_walks_61 rfl (lv_at hl 3 rfl) ?_
  refine zic_le (tgt := 66) h E dX11_walks_62 (by decide) (fun c_6 h => ?_) (fun c_6 h => ?_)
  · refine lv_aload_n hx hb dX11_walks_66 rfl (lv_at hl 1 rfl) ?_
    refine zg (v := .ref (g.2.2 1)) E hZ (by decide) (re_0 _) kc_X11 1 (by decide) kw_1369 rfl rfl dX11_walks_67 ?_
    refine lv_iload_n hx hb dX11_walks_70 rfl (lv_at hl 2 rfl) ?_
    refine lv_iconst (v := 0) hx hb dX11_walks_71 (by decide) ?_
    obtain ⟨u_3, qu_3, h⟩ := zbn_some h
    refine zciR (zrunS E hZ v_X11_monkAt kw_1572 (c_X11_monkAt l g M  x1 0 qu_3 _) rfl hl.1 rfl (Nat.le_of_ble_eq_true rfl) ⟨by decide, by decide⟩ ⟨by decide, by decide⟩ dX11_walks_72) hZ (fun H locs hZ => ?_)
    refine lv_iload hx hb dX11_walks_75 (lv_at hl 0 rfl) ?_
    refine zis h E hZ (by decide) re_1 dX11_walks_77 (fun M_4 H locs eM_4 h hZ => ?_)
    obtain ⟨x3_5, ex3_5, h⟩ := znm_ex h
    refine lv_iinc (v := x3_5) (lv' := [(3, .int x3_5), (4, .int x4_1), (0, .ref (g.2.2 0)), (1, .int x1), (2, .int x2)]) hx hb dX11_walks_78 hl (k := 4) rfl (by rw [ex3_5]; rfl) (by decide) rfl (fun ls hl => ?_)
    refine lv_goto (tgt := 8) hx hb dX11_walks_81 (by decide) ?_
    exact hK8 M_4 x3_5 H locs ls h hZ (lv_sub hl [2, 3, 4, 0] rfl)
  · exact hret _ _ _ _ _ (Option.some.inj h) hZ dX11_walks_65
def b_X11_walks_8  (x1 : Int32) (x2 : Int32) : Nat → zM → Int32 → Option (zM)
  | 0, _, _ => none
  | n + 1, M, x3 =>
    zbn (f_X11_of M x1 2) (fun u_7 => if u_7 ≤ x3 then (some M) else (zbn (f_X11_isThere M x1) (fun u_8 => if u_8 = 0 then (zbn (f_X11_of M x1 0) (fun u_9 => zbn (f_X11_of M x1 1) (fun u_10 => zbn (f_X11_of M x1 0) (fun u_11 => if u_10 ≤ u_11 then (b_X11_walks_52 (fun M x3 => b_X11_walks_8  x1 x2 n M x3) M x1 x2 x3 ((-1)) u_9) else (b_X11_walks_52 (fun M x3 => b_X11_walks_8  x1 x2 n M x3) M x1 x2 x3 1 u_9))))) else (some M))))
set_option maxRecDepth 100000 in
set_option maxHeartbeats 4000000 in
theorem lb_X11_walks_8 (g : zG)  {r : zM} (E : zX g p m c cX11_walks 5 s args (zWs yX11_walks cX11_walks 5 none) RX11) (hret : zRv g rE 15 p l e (zrm 12 0 0) s m args below meth c 0 0 Q cX11_walks (fun M1 => M1 = r)) (x1 : Int32) (x2 : Int32)  : ∀ (n : Nat) (M : zM) (x3 : Int32) (H : Heap) (locs : List Loc) (ls : Array Slot), b_X11_walks_8  x1 x2 n M x3 = some r → zS g rE 15 s H locs M → lv_has ls 5 [(0, .ref (g.2.2 0)), (1, .int x1), (2, .int x2), (3, .int x3)] → W p l e (zrm 12 0 0) s m args below meth c H locs 0 0 Q (F0 m 8 ls []) := by
  have hx := E.1.1
  have hb := E.1.2.1
  intro n
  induction n with
  | zero => intro M x3 H locs ls h hZ hl; cases h
  | succ n ih =>
    intro M x3 H locs ls h hZ hl
    rw [b_X11_walks_8] at h
    refine lv_iload_n hx hb dX11_walks_8 rfl (lv_at hl 3 rfl) ?_
    refine lv_aload_n hx hb dX11_walks_9 rfl (lv_at hl 0 rfl) ?_
    refine lv_iload_n hx hb dX11_walks_10 rfl (lv_at hl 1 rfl) ?_
    refine lv_iconst (v := 2) hx hb dX11_walks_11 (by decide) ?_
    obtain ⟨u_7, qu_7, h⟩ := zbn_some h
    refine zciR (zrunV E hZ (by decide) (re_0 _) rfl rfl v_X11_of kw_1765 (c_X11_of l g M  x1 2 qu_7 _) rfl hl.1 rfl (Nat.le_of_ble_eq_true rfl) ⟨by decide, by decide⟩ ⟨by decide, by decide⟩ dX11_walks_12) hZ (fun H locs hZ => ?_)
    refine zic_ge (tgt := 84) h E dX11_walks_15 (by decide) (fun c_14 h => ?_) (fun c_14 h => ?_)
    · exact hret _ _ _ _ _ (Option.some.inj h) hZ dX11_walks_84
    · refine lv_aload_n hx hb dX11_walks_18 rfl (lv_at hl 0 rfl) ?_
      refine lv_iload_n hx hb dX11_walks_19 rfl (lv_at hl 1 rfl) ?_
      obtain ⟨u_8, qu_8, h⟩ := zbn_some h
      refine zciR (zrunV E hZ (by decide) (re_0 _) rfl rfl v_X11_isThere kw_1773 (c_X11_isThere l g M  x1 qu_8 _) rfl hl.1 rfl (Nat.le_of_ble_eq_true rfl) ⟨by decide, by decide⟩ ⟨by decide, by decide⟩ dX11_walks_20) hZ (fun H locs hZ => ?_)
      refine zif_ne (tgt := 84) h E dX11_walks_23 (by decide) (fun c_13 h => ?_) (fun c_13 h => ?_)
      · exact hret _ _ _ _ _ (Option.some.inj h) hZ dX11_walks_84
      · refine lv_aload_n hx hb dX11_walks_26 rfl (lv_at hl 0 rfl) ?_
        refine lv_iload_n hx hb dX11_walks_27 rfl (lv_at hl 1 rfl) ?_
        refine lv_iconst (v := 0) hx hb dX11_walks_28 (by decide) ?_
        obtain ⟨u_9, qu_9, h⟩ := zbn_some h
        refine zciR (zrunV E hZ (by decide) (re_0 _) rfl rfl v_X11_of kw_1765 (c_X11_of l g M  x1 0 qu_9 _) rfl hl.1 rfl (Nat.le_of_ble_eq_true rfl) ⟨by decide, by decide⟩ ⟨by decide, by decide⟩ dX11_walks_29) hZ (fun H locs hZ => ?_)
        refine lv_aload_n hx hb dX11_walks_32 rfl (lv_at hl 0 rfl) ?_
        refine lv_iload_n hx hb dX11_walks_33 rfl (lv_at hl 1 rfl) ?_
        refine lv_iconst (v := 1) hx hb dX11_walks_34 (by decide) ?_
        obtain ⟨u_10, qu_10, h⟩ := zbn_some h
        refine zciR (zrunV E hZ (by decide) (re_0 _) rfl rfl v_X11_of kw_1765 (c_X11_of l g M  x1 1 qu_10 _) rfl hl.1 rfl (Nat.le_of_ble_eq_true rfl) ⟨by decide, by decide⟩ ⟨by decide, by decide⟩ dX11_walks_35) hZ (fun H locs hZ => ?_)
        refine lv_aload_n hx hb dX11_walks_38 rfl (lv_at hl 0 rfl) ?_
        refine lv_iload_n hx hb dX11_walks_39 rfl (lv_at hl 1 rfl) ?_
        refine lv_iconst (v := 0) hx hb dX11_walks_40 (by decide) ?_
        obtain ⟨u_11, qu_11, h⟩ := zbn_some h
        refine zciR (zrunV E hZ (by decide) (re_0 _) rfl rfl v_X11_of kw_1765 (c_X11_of l g M  x1 0 qu_11 _) rfl hl.1 rfl (Nat.le_of_ble_eq_true rfl) ⟨by decide, by decide⟩ ⟨by decide, by decide⟩ dX11_walks_41) hZ (fun H locs hZ => ?_)
        refine zic_le (tgt := 51) h E dX11_walks_44 (by decide) (fun c_12 h => ?_) (fun c_12 h => ?_)
        · refine lv_iconst (v := (-1)) hx hb dX11_walks_51 (by decide) ?_
          exact lb_X11_walks_52 g  E hret M x1 x2 x3 ((-1)) u_9 (fun M x3 => b_X11_walks_8  x1 x2 n M x3) ih H locs ls h hZ (lv_sub hl [0, 1, 2, 3] rfl)
        · refine lv_iconst (v := 1) hx hb dX11_walks_47 (by decide) ?_
          refine lv_goto (tgt := 52) hx hb dX11_walks_48 (by decide) ?_
          exact lb_X11_walks_52 g  E hret M x1 x2 x3 1 u_9 (fun M x3 => b_X11_walks_8  x1 x2 n M x3) ih H locs ls h hZ (lv_sub hl [0, 1, 2, 3] rfl)
def f_X11_walks (M : zM) (x1 : Int32) : Option (zM) :=
  zbn (f_X11_wadesBy M x1) (fun u_15 => b_X11_walks_8  x1 u_15.1 6000 u_15.2 0)
set_option maxRecDepth 100000 in
set_option maxHeartbeats 4000000 in
theorem w_X11_walks (g : zG)  {r : zM} (E : zX g p m c cX11_walks 5 s args (zWs yX11_walks cX11_walks 5 none) RX11) (hret : zRv g rE 15 p l e (zrm 12 0 0) s m args below meth c 0 0 Q cX11_walks (fun M1 => M1 = r)) (M : zM) (x1 : Int32) (H : Heap) (locs : List Loc) (ls : Array Slot) (h : f_X11_walks M x1 = some r) (hZ : zS g rE 15 s H locs M) (hl : lv_has ls 5 [(0, .ref (g.2.2 0)), (1, .int x1)]) : W p l e (zrm 12 0 0) s m args below meth c H locs 0 0 Q (F0 m 0 ls []) := by
  have hx := E.1.1
  have hb := E.1.2.1
  unfold f_X11_walks at h
  refine lv_aload_n hx hb dX11_walks_0 rfl (lv_at hl 0 rfl) ?_
  refine lv_iload_n hx hb dX11_walks_1 rfl (lv_at hl 1 rfl) ?_
  obtain ⟨u_15, qu_15, h⟩ := zbn_some h
  refine zciS (zrunV E hZ (by decide) (re_0 _) rfl rfl v_X11_wadesBy kw_1749 (c_X11_wadesBy l g M  x1 qu_15 _) rfl hl.1 rfl (Nat.le_of_ble_eq_true rfl) ⟨by decide, by decide⟩ ⟨by decide, by decide⟩ dX11_walks_2) hZ (fun H locs hZ => ?_)
  refine lv_istore_n (lv' := [(2, .int u_15.1), (0, .ref (g.2.2 0)), (1, .int x1)]) hx hb dX11_walks_5 rfl hl (by decide) rfl (fun ls hl => ?_)
  refine lv_iconst (v := 0) hx hb dX11_walks_6 (by decide) ?_
  refine lv_istore_n (lv' := [(3, .int 0), (2, .int u_15.1), (0, .ref (g.2.2 0)), (1, .int x1)]) hx hb dX11_walks_7 rfl hl (by decide) rfl (fun ls hl => ?_)
  exact lb_X11_walks_8 g  E hret x1 u_15.1  6000 u_15.2 0 H locs ls h hZ (lv_sub hl [2, 3, 1, 0] rfl)
theorem c_X11_walks (l : Launch) (g : zG) (M : zM)  (x1 : Int32) {r : zM} (h : f_X11_walks M x1 = some r) : zMv l g rE 15 yX11_walks (zWs yX11_walks cX11_walks 5 none) 12 [.ref (g.2.2 0), .int x1] M (fun M1 => M1 = r) :=
  zMv_of (by decide +kernel) (Nat.le_of_ble_eq_true rfl) (fun p e s m args below meth c Q ls E hret hZ hl => w_X11_walks g  E hret M x1 _ _ ls h hZ hl)
theorem v_X11_walks : zYV yX11_walks cX11_walks 5 none 1 := ⟨kw_1861, kw_15, kw_1860, kp_95, by decide +kernel⟩

def b_X11_hasMonk_30 (K2 : Int32 → Option (Int32)) (M : zM) (x1 : Int32) (x2 : Int32) : Option (Int32) :=
  znm (x2 + 1) (fun x2_1 => K2 x2_1)
set_option maxRecDepth 100000 in
set_option maxHeartbeats 4000000 in
theorem lb_X11_hasMonk_30 (g : zG)  {r : Int32} {M0 : zM} (E : zX g p m c cX11_hasMonk 3 s args (zWs yX11_hasMonk cX11_hasMonk 3 (some .boolean)) RX11) (hret : zRi g rE 15 p l e (zrm 5 0 0) s m args below meth c 0 0 Q cX11_hasMonk .boolean (fun v M1 => v = r ∧ M1 = M0)) (M : zM) (x1 : Int32) (x2 : Int32) (hM : M = M0) (K2 : Int32 → Option (Int32)) (hK2 : ∀ (x2 : Int32) (H : Heap) (locs : List Loc) (ls : Array Slot), K2 x2 = some r → zS g rE 15 s H locs M → lv_has ls 3 [(0, .ref (g.2.2 0)), (1, .int x1), (2, .int x2)] → W p l e (zrm 5 0 0) s m args below meth c H locs 0 0 Q (F0 m 2 ls [])) (H : Heap) (locs : List Loc) (ls : Array Slot) (h : b_X11_hasMonk_30 K2 M x1 x2 = some r) (hZ : zS g rE 15 s H locs M) (hl : lv_has ls 3 [(0, .ref (g.2.2 0)), (1, .int x1), (2, .int x2)]) : W p l e (zrm 5 0 0) s m args below meth c H locs 0 0 Q (F0 m 30 ls []) := by
  have hx := E.1.1
  have hb := E.1.2.1
  unfold b_X11_hasMonk_30 at h
  obtain ⟨x2_1, ex2_1, h⟩ := znm_ex h
  refine lv_iinc (v := x2_1) (lv' := [(2, .int x2_1), (0, .ref (g.2.2 0)), (1, .int x1)]) hx hb dX11_hasMonk_30 hl (k := 2) rfl (by rw [ex2_1]; rfl) (by decide) rfl (fun ls hl => ?_)
  refine lv_goto (tgt := 2) hx hb dX11_hasMonk_33 (by decide) ?_
  exact hK2 x2_1 H locs ls h hZ (lv_sub hl [1, 2, 0] rfl)
def b_X11_hasMonk_2  (M : zM) (x1 : Int32) : Nat → Int32 → Option (Int32)
  | 0, _ => none
  | n + 1, x2 =>
    zbn (f_X11_monks M ) (fun u_2 => if u_2 ≤ x2 then (some 0) else (zbn (f_X11_isDrowned M x2) (fun u_3 => if u_3 = 0 then (zbn (f_X11_of M x2 0) (fun u_4 => if u_4 = x1 then (some 1) else (b_X11_hasMonk_30 (fun x2 => b_X11_hasMonk_2  M x1 n x2) M x1 x2))) else (b_X11_hasMonk_30 (fun x2 => b_X11_hasMonk_2  M x1 n x2) M x1 x2))))
set_option maxRecDepth 100000 in
set_option maxHeartbeats 4000000 in
theorem lb_X11_hasMonk_2 (g : zG)  {r : Int32} {M0 : zM} (E : zX g p m c cX11_hasMonk 3 s args (zWs yX11_hasMonk cX11_hasMonk 3 (some .boolean)) RX11) (hret : zRi g rE 15 p l e (zrm 5 0 0) s m args below meth c 0 0 Q cX11_hasMonk .boolean (fun v M1 => v = r ∧ M1 = M0)) (M : zM) (x1 : Int32) (hM : M = M0)  : ∀ (n : Nat) (x2 : Int32) (H : Heap) (locs : List Loc) (ls : Array Slot), b_X11_hasMonk_2  M x1 n x2 = some r → zS g rE 15 s H locs M → lv_has ls 3 [(0, .ref (g.2.2 0)), (1, .int x1), (2, .int x2)] → W p l e (zrm 5 0 0) s m args below meth c H locs 0 0 Q (F0 m 2 ls []) := by
  have hx := E.1.1
  have hb := E.1.2.1
  intro n
  induction n with
  | zero => intro x2 H locs ls h hZ hl; cases h
  | succ n ih =>
    intro x2 H locs ls h hZ hl
    rw [b_X11_hasMonk_2] at h
    refine lv_iload_n hx hb dX11_hasMonk_2 rfl (lv_at hl 2 rfl) ?_
    refine lv_aload_n hx hb dX11_hasMonk_3 rfl (lv_at hl 0 rfl) ?_
    obtain ⟨u_2, qu_2, h⟩ := zbn_some h
    refine zciR (zrunV E hZ (by decide) (re_0 _) rfl rfl v_X11_monks kw_1562 (c_X11_monks l g M   qu_2 _) rfl hl.1 rfl (Nat.le_of_ble_eq_true rfl) ⟨by decide, by decide⟩ ⟨by decide, by decide⟩ dX11_hasMonk_4) hZ (fun H locs hZ => ?_)
    refine zic_ge (tgt := 36) h E dX11_hasMonk_7 (by decide) (fun c_7 h => ?_) (fun c_7 h => ?_)
    · refine lv_iconst (v := 0) hx hb dX11_hasMonk_36 (by decide) ?_
      exact hret _ _ _ _ _ _ ⟨Option.some.inj h, hM⟩ rfl hZ dX11_hasMonk_37
    · refine lv_aload_n hx hb dX11_hasMonk_10 rfl (lv_at hl 0 rfl) ?_
      refine lv_iload_n hx hb dX11_hasMonk_11 rfl (lv_at hl 2 rfl) ?_
      obtain ⟨u_3, qu_3, h⟩ := zbn_some h
      refine zciR (zrunV E hZ (by decide) (re_0 _) rfl rfl v_X11_isDrowned kw_1797 (c_X11_isDrowned l g M  x2 qu_3 _) rfl hl.1 rfl (Nat.le_of_ble_eq_true rfl) ⟨by decide, by decide⟩ ⟨by decide, by decide⟩ dX11_hasMonk_12) hZ (fun H locs hZ => ?_)
      refine zif_ne (tgt := 30) h E dX11_hasMonk_15 (by decide) (fun c_6 h => ?_) (fun c_6 h => ?_)
      · exact lb_X11_hasMonk_30 g  E hret M x1 x2 hM (fun x2 => b_X11_hasMonk_2  M x1 n x2) ih H locs ls h hZ (lv_sub hl [0, 1, 2] rfl)
      · refine lv_aload_n hx hb dX11_hasMonk_18 rfl (lv_at hl 0 rfl) ?_
        refine lv_iload_n hx hb dX11_hasMonk_19 rfl (lv_at hl 2 rfl) ?_
        refine lv_iconst (v := 0) hx hb dX11_hasMonk_20 (by decide) ?_
        obtain ⟨u_4, qu_4, h⟩ := zbn_some h
        refine zciR (zrunV E hZ (by decide) (re_0 _) rfl rfl v_X11_of kw_1765 (c_X11_of l g M  x2 0 qu_4 _) rfl hl.1 rfl (Nat.le_of_ble_eq_true rfl) ⟨by decide, by decide⟩ ⟨by decide, by decide⟩ dX11_hasMonk_21) hZ (fun H locs hZ => ?_)
        refine lv_iload_n hx hb dX11_hasMonk_24 rfl (lv_at hl 1 rfl) ?_
        refine zic_ne (tgt := 30) h E dX11_hasMonk_25 (by decide) (fun c_5 h => ?_) (fun c_5 h => ?_)
        · exact lb_X11_hasMonk_30 g  E hret M x1 x2 hM (fun x2 => b_X11_hasMonk_2  M x1 n x2) ih H locs ls h hZ (lv_sub hl [0, 1, 2] rfl)
        · refine lv_iconst (v := 1) hx hb dX11_hasMonk_28 (by decide) ?_
          exact hret _ _ _ _ _ _ ⟨Option.some.inj h, hM⟩ rfl hZ dX11_hasMonk_29
def f_X11_hasMonk (M : zM) (x1 : Int32) : Option (Int32) :=
  b_X11_hasMonk_2  M x1 6000 0
set_option maxRecDepth 100000 in
set_option maxHeartbeats 4000000 in
theorem w_X11_hasMonk (g : zG)  {r : Int32} {M0 : zM} (E : zX g p m c cX11_hasMonk 3 s args (zWs yX11_hasMonk cX11_hasMonk 3 (some .boolean)) RX11) (hret : zRi g rE 15 p l e (zrm 5 0 0) s m args below meth c 0 0 Q cX11_hasMonk .boolean (fun v M1 => v = r ∧ M1 = M0)) (M : zM) (hM : M = M0) (x1 : Int32) (H : Heap) (locs : List Loc) (ls : Array Slot) (h : f_X11_hasMonk M x1 = some r) (hZ : zS g rE 15 s H locs M) (hl : lv_has ls 3 [(0, .ref (g.2.2 0)), (1, .int x1)]) : W p l e (zrm 5 0 0) s m args below meth c H locs 0 0 Q (F0 m 0 ls []) := by
  have hx := E.1.1
  have hb := E.1.2.1
  unfold f_X11_hasMonk at h
  refine lv_iconst (v := 0) hx hb dX11_hasMonk_0 (by decide) ?_
  refine lv_istore_n (lv' := [(2, .int 0), (0, .ref (g.2.2 0)), (1, .int x1)]) hx hb dX11_hasMonk_1 rfl hl (by decide) rfl (fun ls hl => ?_)
  exact lb_X11_hasMonk_2 g  E hret M x1 hM  6000 0 H locs ls h hZ (lv_sub hl [1, 2, 0] rfl)
theorem c_X11_hasMonk (l : Launch) (g : zG) (M : zM)  (x1 : Int32) {r : Int32} (h : f_X11_hasMonk M x1 = some r) : zMi l g rE 15 yX11_hasMonk (zWs yX11_hasMonk cX11_hasMonk 3 (some .boolean)) 5 [.ref (g.2.2 0), .int x1] M (fun v M1 => v = r ∧ M1 = M) :=
  zMi_of (by decide +kernel) (Nat.le_of_ble_eq_true rfl) (fun p e s m args below meth c Q ls E hret hZ hl => w_X11_hasMonk g  E hret M rfl x1 _ _ ls h hZ hl)
theorem v_X11_hasMonk : zYV yX11_hasMonk cX11_hasMonk 3 (some .boolean) 1 := ⟨kw_1870, kw_15, kw_1869, kp_97, by decide +kernel⟩

def f_X11_keeps (M : zM) (x1 : Int32) : Option (zM) :=
  zbn (f_X11_isKept M x1) (fun u_1 => if u_1 = 0 then (zck (zin 4 2030) (zbn (f_X11_ofDuty M x1 1) (fun u_2 => zbn (f_X11_ofDuty M x1 2) (fun u_3 => zbn (f_X11_in M (M 1 (4 : Int32).toNatClampNeg) u_2 u_3) (fun u_4 => if u_4 = 0 then (some M) else (zbn (f_X11_ofDuty M x1 0) (fun u_5 => zbn (f_X11_hasMonk M u_5) (fun u_6 => if u_6 = 0 then (some M) else (zbn (f_X11_dutyAt M x1 3) (fun u_7 => zck (zin u_7 2030) (znm (zu M 1 (u_7 : Int32).toNatClampNeg 1) (fun M_8 => zbn (f_X11_ofDuty M_8 x1 0) (fun u_9 => zbn (f_X11_tells M_8 x1 0 u_9) (fun u_10 => zck (zin 4 2030) (zck (zin 92 2030) (znm (zu u_10 1 (92 : Int32).toNatClampNeg (u_10 1 (4 : Int32).toNatClampNeg)) (fun M_11 => some M_11))))))))))))))))) else (some M))
set_option maxRecDepth 100000 in
set_option maxHeartbeats 4000000 in
theorem w_X11_keeps (g : zG)  {r : zM} (E : zX g p m c cX11_keeps 2 s args (zWs yX11_keeps cX11_keeps 2 none) RX11) (hret : zRv g rE 15 p l e (zrm 6 0 0) s m args below meth c 0 0 Q cX11_keeps (fun M1 => M1 = r)) (M : zM) (x1 : Int32) (H : Heap) (locs : List Loc) (ls : Array Slot) (h : f_X11_keeps M x1 = some r) (hZ : zS g rE 15 s H locs M) (hl : lv_has ls 2 [(0, .ref (g.2.2 0)), (1, .int x1)]) : W p l e (zrm 6 0 0) s m args below meth c H locs 0 0 Q (F0 m 0 ls []) := by
  have hx := E.1.1
  have hb := E.1.2.1
  unfold f_X11_keeps at h
  refine lv_aload_n hx hb dX11_keeps_0 rfl (lv_at hl 0 rfl) ?_
  refine lv_iload_n hx hb dX11_keeps_1 rfl (lv_at hl 1 rfl) ?_
  obtain ⟨u_1, qu_1, h⟩ := zbn_some h
  refine zciR (zrunV E hZ (by decide) (re_0 _) rfl rfl v_X11_isKept kw_1828 (c_X11_isKept l g M  x1 qu_1 _) rfl hl.1 rfl (Nat.le_of_ble_eq_true rfl) ⟨by decide, by decide⟩ ⟨by decide, by decide⟩ dX11_keeps_2) hZ (fun H locs hZ => ?_)
  refine zif_ne (tgt := 45) h E dX11_keeps_5 (by decide) (fun c_14 h => ?_) (fun c_14 h => ?_)
  · exact hret _ _ _ _ _ (Option.some.inj h) hZ dX11_keeps_45
  · refine lv_aload_n hx hb dX11_keeps_8 rfl (lv_at hl 0 rfl) ?_
    refine zg (v := .ref (g.2.2 1)) E hZ (by decide) (re_0 _) kc_X11 1 (by decide) kw_1369 rfl rfl dX11_keeps_9 ?_
    refine lv_iconst (v := 4) hx hb dX11_keeps_12 (by decide) ?_
    refine zia h E hZ (by decide) re_1 dX11_keeps_13 (fun h => ?_)
    refine lv_aload_n hx hb dX11_keeps_14 rfl (lv_at hl 0 rfl) ?_
    refine lv_iload_n hx hb dX11_keeps_15 rfl (lv_at hl 1 rfl) ?_
    refine lv_iconst (v := 1) hx hb dX11_keeps_16 (by decide) ?_
    obtain ⟨u_2, qu_2, h⟩ := zbn_some h
    refine zciR (zrunV E hZ (by decide) (re_0 _) rfl rfl v_X11_ofDuty kw_1789 (c_X11_ofDuty l g M  x1 1 qu_2 _) rfl hl.1 rfl (Nat.le_of_ble_eq_true rfl) ⟨by decide, by decide⟩ ⟨by decide, by decide⟩ dX11_keeps_17) hZ (fun H locs hZ => ?_)
    refine lv_aload_n hx hb dX11_keeps_20 rfl (lv_at hl 0 rfl) ?_
    refine lv_iload_n hx hb dX11_keeps_21 rfl (lv_at hl 1 rfl) ?_
    refine lv_iconst (v := 2) hx hb dX11_keeps_22 (by decide) ?_
    obtain ⟨u_3, qu_3, h⟩ := zbn_some h
    refine zciR (zrunV E hZ (by decide) (re_0 _) rfl rfl v_X11_ofDuty kw_1789 (c_X11_ofDuty l g M  x1 2 qu_3 _) rfl hl.1 rfl (Nat.le_of_ble_eq_true rfl) ⟨by decide, by decide⟩ ⟨by decide, by decide⟩ dX11_keeps_23) hZ (fun H locs hZ => ?_)
    obtain ⟨u_4, qu_4, h⟩ := zbn_some h
    refine zciR (zrunS E hZ v_X11_in kw_1666 (c_X11_in l g M  (M 1 (4 : Int32).toNatClampNeg) u_2 u_3 qu_4 _) rfl hl.1 rfl (Nat.le_of_ble_eq_true rfl) ⟨by decide, by decide⟩ ⟨by decide, by decide⟩ dX11_keeps_26) hZ (fun H locs hZ => ?_)
    refine zif_eq (tgt := 45) h E dX11_keeps_29 (by decide) (fun c_13 h => ?_) (fun c_13 h => ?_)
    · exact hret _ _ _ _ _ (Option.some.inj h) hZ dX11_keeps_45
    · refine lv_aload_n hx hb dX11_keeps_32 rfl (lv_at hl 0 rfl) ?_
      refine lv_aload_n hx hb dX11_keeps_33 rfl (lv_at hl 0 rfl) ?_
      refine lv_iload_n hx hb dX11_keeps_34 rfl (lv_at hl 1 rfl) ?_
      refine lv_iconst (v := 0) hx hb dX11_keeps_35 (by decide) ?_
      obtain ⟨u_5, qu_5, h⟩ := zbn_some h
      refine zciR (zrunV E hZ (by decide) (re_0 _) rfl rfl v_X11_ofDuty kw_1789 (c_X11_ofDuty l g M  x1 0 qu_5 _) rfl hl.1 rfl (Nat.le_of_ble_eq_true rfl) ⟨by decide, by decide⟩ ⟨by decide, by decide⟩ dX11_keeps_36) hZ (fun H locs hZ => ?_)
      obtain ⟨u_6, qu_6, h⟩ := zbn_some h
      refine zciR (zrunV E hZ (by decide) (re_0 _) rfl rfl v_X11_hasMonk kw_1867 (c_X11_hasMonk l g M  u_5 qu_6 _) rfl hl.1 rfl (Nat.le_of_ble_eq_true rfl) ⟨by decide, by decide⟩ ⟨by decide, by decide⟩ dX11_keeps_39) hZ (fun H locs hZ => ?_)
      refine zif_ne (tgt := 46) h E dX11_keeps_42 (by decide) (fun c_12 h => ?_) (fun c_12 h => ?_)
      · refine lv_aload_n hx hb dX11_keeps_46 rfl (lv_at hl 0 rfl) ?_
        refine zg (v := .ref (g.2.2 1)) E hZ (by decide) (re_0 _) kc_X11 1 (by decide) kw_1369 rfl rfl dX11_keeps_47 ?_
        refine lv_iload_n hx hb dX11_keeps_50 rfl (lv_at hl 1 rfl) ?_
        refine lv_iconst (v := 3) hx hb dX11_keeps_51 (by decide) ?_
        obtain ⟨u_7, qu_7, h⟩ := zbn_some h
        refine zciR (zrunS E hZ v_X11_dutyAt kw_1585 (c_X11_dutyAt l g M  x1 3 qu_7 _) rfl hl.1 rfl (Nat.le_of_ble_eq_true rfl) ⟨by decide, by decide⟩ ⟨by decide, by decide⟩ dX11_keeps_52) hZ (fun H locs hZ => ?_)
        refine lv_iconst (v := 1) hx hb dX11_keeps_55 (by decide) ?_
        refine zis h E hZ (by decide) re_1 dX11_keeps_56 (fun M_8 H locs eM_8 h hZ => ?_)
        refine lv_aload_n hx hb dX11_keeps_57 rfl (lv_at hl 0 rfl) ?_
        refine lv_iload_n hx hb dX11_keeps_58 rfl (lv_at hl 1 rfl) ?_
        refine lv_iconst (v := 0) hx hb dX11_keeps_59 (by decide) ?_
        refine lv_aload_n hx hb dX11_keeps_60 rfl (lv_at hl 0 rfl) ?_
        refine lv_iload_n hx hb dX11_keeps_61 rfl (lv_at hl 1 rfl) ?_
        refine lv_iconst (v := 0) hx hb dX11_keeps_62 (by decide) ?_
        obtain ⟨u_9, qu_9, h⟩ := zbn_some h
        refine zciR (zrunV E hZ (by decide) (re_0 _) rfl rfl v_X11_ofDuty kw_1789 (c_X11_ofDuty l g M_8  x1 0 qu_9 _) rfl hl.1 rfl (Nat.le_of_ble_eq_true rfl) ⟨by decide, by decide⟩ ⟨by decide, by decide⟩ dX11_keeps_63) hZ (fun H locs hZ => ?_)
        obtain ⟨u_10, qu_10, h⟩ := zbn_some h
        refine zcvS (zrunV E hZ (by decide) (re_0 _) rfl rfl v_X11_tells kw_1871 (c_X11_tells l g M_8  x1 0 u_9 qu_10 _) rfl hl.1 rfl (Nat.le_of_ble_eq_true rfl) ⟨by decide, by decide⟩ ⟨by decide, by decide⟩ dX11_keeps_66) hZ (fun H locs hZ => ?_)
        refine lv_aload_n hx hb dX11_keeps_69 rfl (lv_at hl 0 rfl) ?_
        refine zg (v := .ref (g.2.2 1)) E hZ (by decide) (re_0 _) kc_X11 1 (by decide) kw_1369 rfl rfl dX11_keeps_70 ?_
        refine lv_bipush (v := 92) hx hb dX11_keeps_73 (by decide) ?_
        refine lv_aload_n hx hb dX11_keeps_75 rfl (lv_at hl 0 rfl) ?_
        refine zg (v := .ref (g.2.2 1)) E hZ (by decide) (re_0 _) kc_X11 1 (by decide) kw_1369 rfl rfl dX11_keeps_76 ?_
        refine lv_iconst (v := 4) hx hb dX11_keeps_79 (by decide) ?_
        refine zia h E hZ (by decide) re_1 dX11_keeps_80 (fun h => ?_)
        refine zis h E hZ (by decide) re_1 dX11_keeps_81 (fun M_11 H locs eM_11 h hZ => ?_)
        exact hret _ _ _ _ _ (Option.some.inj h) hZ dX11_keeps_82
      · exact hret _ _ _ _ _ (Option.some.inj h) hZ dX11_keeps_45
theorem c_X11_keeps (l : Launch) (g : zG) (M : zM)  (x1 : Int32) {r : zM} (h : f_X11_keeps M x1 = some r) : zMv l g rE 15 yX11_keeps (zWs yX11_keeps cX11_keeps 2 none) 6 [.ref (g.2.2 0), .int x1] M (fun M1 => M1 = r) :=
  zMv_of (by decide +kernel) (Nat.le_of_ble_eq_true rfl) (fun p e s m args below meth c Q ls E hret hZ hl => w_X11_keeps g  E hret M x1 _ _ ls h hZ hl)
theorem v_X11_keeps : zYV yX11_keeps cX11_keeps 2 none 1 := ⟨kw_1866, kw_15, kw_1865, kp_96, by decide +kernel⟩

def b_X11_oneHour_191 (K121 : zM → Int32 → Option (zM)) (M : zM) (x2 : Int32) (x3 : Int32) : Option (zM) :=
  znm (x3 + 1) (fun x3_1 => K121 M x3_1)
set_option maxRecDepth 100000 in
set_option maxHeartbeats 4000000 in
theorem lb_X11_oneHour_191 (g : zG)  {r : zM} (E : zX g p m c cX11_oneHour 4 s args (zWs yX11_oneHour cX11_oneHour 4 none) RX11) (hret : zRv g rE 15 p l e (zrm 13 0 0) s m args below meth c 0 0 Q cX11_oneHour (fun M1 => M1 = r)) (M : zM) (x2 : Int32) (x3 : Int32) (K121 : zM → Int32 → Option (zM)) (hK121 : ∀ (M : zM) (x3 : Int32) (H : Heap) (locs : List Loc) (ls : Array Slot), K121 M x3 = some r → zS g rE 15 s H locs M → lv_has ls 4 [(0, .ref (g.2.2 0)), (2, .int x2), (3, .int x3)] → W p l e (zrm 13 0 0) s m args below meth c H locs 0 0 Q (F0 m 121 ls [])) (H : Heap) (locs : List Loc) (ls : Array Slot) (h : b_X11_oneHour_191 K121 M x2 x3 = some r) (hZ : zS g rE 15 s H locs M) (hl : lv_has ls 4 [(0, .ref (g.2.2 0)), (2, .int x2), (3, .int x3)]) : W p l e (zrm 13 0 0) s m args below meth c H locs 0 0 Q (F0 m 191 ls []) := by
  have hx := E.1.1
  have hb := E.1.2.1
  unfold b_X11_oneHour_191 at h
  obtain ⟨x3_1, ex3_1, h⟩ := znm_ex h
  refine lv_iinc (v := x3_1) (lv' := [(3, .int x3_1), (0, .ref (g.2.2 0)), (2, .int x2)]) hx hb dX11_oneHour_191 hl (k := 2) rfl (by rw [ex3_1]; rfl) (by decide) rfl (fun ls hl => ?_)
  refine lv_goto (tgt := 121) hx hb dX11_oneHour_194 (by decide) ?_
  exact hK121 M x3_1 H locs ls h hZ (lv_sub hl [1, 2, 0] rfl)
def b_X11_oneHour_121  (x2 : Int32) : Nat → zM → Int32 → Option (zM)
  | 0, _, _ => none
  | n + 1, M, x3 =>
    zbn (f_X11_monks M ) (fun u_2 => if u_2 ≤ x3 then (some M) else (zbn (f_X11_isDrowned M x3) (fun u_3 => if u_3 = 0 then (zbn (f_X11_of M x3 0) (fun u_4 => zbn (f_X11_depthNow M u_4) (fun u_5 => zbn (f_X11_wadesBy M x3) (fun u_6 => if (u_6.1 + 3) < u_5 then (zbn (f_X11_monkAt u_6.2 x3 4) (fun u_7 => zck (zin u_7 2030) (znm (zu u_6.2 1 (u_7 : Int32).toNatClampNeg 1) (fun M_8 => zbn (f_X11_of M_8 x3 0) (fun u_9 => zbn (f_X11_tells M_8 x3 1 u_9) (fun u_10 => zck (zin 92 2030) (znm (zu u_10 1 (92 : Int32).toNatClampNeg x2) (fun M_11 => b_X11_oneHour_191 (fun M x3 => b_X11_oneHour_121  x2 n M x3) M_11 x2 x3)))))))) else (b_X11_oneHour_191 (fun M x3 => b_X11_oneHour_121  x2 n M x3) u_6.2 x2 x3))))) else (b_X11_oneHour_191 (fun M x3 => b_X11_oneHour_121  x2 n M x3) M x2 x3))))
set_option maxRecDepth 100000 in
set_option maxHeartbeats 4000000 in
theorem lb_X11_oneHour_121 (g : zG)  {r : zM} (E : zX g p m c cX11_oneHour 4 s args (zWs yX11_oneHour cX11_oneHour 4 none) RX11) (hret : zRv g rE 15 p l e (zrm 13 0 0) s m args below meth c 0 0 Q cX11_oneHour (fun M1 => M1 = r)) (x2 : Int32)  : ∀ (n : Nat) (M : zM) (x3 : Int32) (H : Heap) (locs : List Loc) (ls : Array Slot), b_X11_oneHour_121  x2 n M x3 = some r → zS g rE 15 s H locs M → lv_has ls 4 [(0, .ref (g.2.2 0)), (2, .int x2), (3, .int x3)] → W p l e (zrm 13 0 0) s m args below meth c H locs 0 0 Q (F0 m 121 ls []) := by
  have hx := E.1.1
  have hb := E.1.2.1
  intro n
  induction n with
  | zero => intro M x3 H locs ls h hZ hl; cases h
  | succ n ih =>
    intro M x3 H locs ls h hZ hl
    rw [b_X11_oneHour_121] at h
    refine lv_iload_n hx hb dX11_oneHour_121 rfl (lv_at hl 2 rfl) ?_
    refine lv_aload_n hx hb dX11_oneHour_122 rfl (lv_at hl 0 rfl) ?_
    obtain ⟨u_2, qu_2, h⟩ := zbn_some h
    refine zciR (zrunV E hZ (by decide) (re_0 _) rfl rfl v_X11_monks kw_1562 (c_X11_monks l g M   qu_2 _) rfl hl.1 rfl (Nat.le_of_ble_eq_true rfl) ⟨by decide, by decide⟩ ⟨by decide, by decide⟩ dX11_oneHour_123) hZ (fun H locs hZ => ?_)
    refine zic_ge (tgt := 197) h E dX11_oneHour_126 (by decide) (fun c_14 h => ?_) (fun c_14 h => ?_)
    · exact hret _ _ _ _ _ (Option.some.inj h) hZ dX11_oneHour_197
    · refine lv_aload_n hx hb dX11_oneHour_129 rfl (lv_at hl 0 rfl) ?_
      refine lv_iload_n hx hb dX11_oneHour_130 rfl (lv_at hl 2 rfl) ?_
      obtain ⟨u_3, qu_3, h⟩ := zbn_some h
      refine zciR (zrunV E hZ (by decide) (re_0 _) rfl rfl v_X11_isDrowned kw_1797 (c_X11_isDrowned l g M  x3 qu_3 _) rfl hl.1 rfl (Nat.le_of_ble_eq_true rfl) ⟨by decide, by decide⟩ ⟨by decide, by decide⟩ dX11_oneHour_131) hZ (fun H locs hZ => ?_)
      refine zif_ne (tgt := 191) h E dX11_oneHour_134 (by decide) (fun c_13 h => ?_) (fun c_13 h => ?_)
      · exact lb_X11_oneHour_191 g  E hret M x2 x3 (fun M x3 => b_X11_oneHour_121  x2 n M x3) ih H locs ls h hZ (lv_sub hl [0, 1, 2] rfl)
      · refine lv_aload_n hx hb dX11_oneHour_137 rfl (lv_at hl 0 rfl) ?_
        refine lv_aload_n hx hb dX11_oneHour_138 rfl (lv_at hl 0 rfl) ?_
        refine lv_iload_n hx hb dX11_oneHour_139 rfl (lv_at hl 2 rfl) ?_
        refine lv_iconst (v := 0) hx hb dX11_oneHour_140 (by decide) ?_
        obtain ⟨u_4, qu_4, h⟩ := zbn_some h
        refine zciR (zrunV E hZ (by decide) (re_0 _) rfl rfl v_X11_of kw_1765 (c_X11_of l g M  x3 0 qu_4 _) rfl hl.1 rfl (Nat.le_of_ble_eq_true rfl) ⟨by decide, by decide⟩ ⟨by decide, by decide⟩ dX11_oneHour_141) hZ (fun H locs hZ => ?_)
        obtain ⟨u_5, qu_5, h⟩ := zbn_some h
        refine zciR (zrunV E hZ (by decide) (re_0 _) rfl rfl v_X11_depthNow kw_1769 (c_X11_depthNow l g M  u_4 qu_5 _) rfl hl.1 rfl (Nat.le_of_ble_eq_true rfl) ⟨by decide, by decide⟩ ⟨by decide, by decide⟩ dX11_oneHour_144) hZ (fun H locs hZ => ?_)
        refine lv_aload_n hx hb dX11_oneHour_147 rfl (lv_at hl 0 rfl) ?_
        refine lv_iload_n hx hb dX11_oneHour_148 rfl (lv_at hl 2 rfl) ?_
        obtain ⟨u_6, qu_6, h⟩ := zbn_some h
        refine zciS (zrunV E hZ (by decide) (re_0 _) rfl rfl v_X11_wadesBy kw_1749 (c_X11_wadesBy l g M  x3 qu_6 _) rfl hl.1 rfl (Nat.le_of_ble_eq_true rfl) ⟨by decide, by decide⟩ ⟨by decide, by decide⟩ dX11_oneHour_149) hZ (fun H locs hZ => ?_)
        refine lv_iconst (v := 3) hx hb dX11_oneHour_152 (by decide) ?_
        refine lv_iadd hx hb dX11_oneHour_153 ?_
        refine zic_gt (tgt := 160) h E dX11_oneHour_154 (by decide) (fun c_12 h => ?_) (fun c_12 h => ?_)
        · refine lv_aload_n hx hb dX11_oneHour_160 rfl (lv_at hl 0 rfl) ?_
          refine zg (v := .ref (g.2.2 1)) E hZ (by decide) (re_0 _) kc_X11 1 (by decide) kw_1369 rfl rfl dX11_oneHour_161 ?_
          refine lv_iload_n hx hb dX11_oneHour_164 rfl (lv_at hl 2 rfl) ?_
          refine lv_iconst (v := 4) hx hb dX11_oneHour_165 (by decide) ?_
          obtain ⟨u_7, qu_7, h⟩ := zbn_some h
          refine zciR (zrunS E hZ v_X11_monkAt kw_1572 (c_X11_monkAt l g u_6.2  x3 4 qu_7 _) rfl hl.1 rfl (Nat.le_of_ble_eq_true rfl) ⟨by decide, by decide⟩ ⟨by decide, by decide⟩ dX11_oneHour_166) hZ (fun H locs hZ => ?_)
          refine lv_iconst (v := 1) hx hb dX11_oneHour_169 (by decide) ?_
          refine zis h E hZ (by decide) re_1 dX11_oneHour_170 (fun M_8 H locs eM_8 h hZ => ?_)
          refine lv_aload_n hx hb dX11_oneHour_171 rfl (lv_at hl 0 rfl) ?_
          refine lv_iload_n hx hb dX11_oneHour_172 rfl (lv_at hl 2 rfl) ?_
          refine lv_iconst (v := 1) hx hb dX11_oneHour_173 (by decide) ?_
          refine lv_aload_n hx hb dX11_oneHour_174 rfl (lv_at hl 0 rfl) ?_
          refine lv_iload_n hx hb dX11_oneHour_175 rfl (lv_at hl 2 rfl) ?_
          refine lv_iconst (v := 0) hx hb dX11_oneHour_176 (by decide) ?_
          obtain ⟨u_9, qu_9, h⟩ := zbn_some h
          refine zciR (zrunV E hZ (by decide) (re_0 _) rfl rfl v_X11_of kw_1765 (c_X11_of l g M_8  x3 0 qu_9 _) rfl hl.1 rfl (Nat.le_of_ble_eq_true rfl) ⟨by decide, by decide⟩ ⟨by decide, by decide⟩ dX11_oneHour_177) hZ (fun H locs hZ => ?_)
          obtain ⟨u_10, qu_10, h⟩ := zbn_some h
          refine zcvS (zrunV E hZ (by decide) (re_0 _) rfl rfl v_X11_tells kw_1871 (c_X11_tells l g M_8  x3 1 u_9 qu_10 _) rfl hl.1 rfl (Nat.le_of_ble_eq_true rfl) ⟨by decide, by decide⟩ ⟨by decide, by decide⟩ dX11_oneHour_180) hZ (fun H locs hZ => ?_)
          refine lv_aload_n hx hb dX11_oneHour_183 rfl (lv_at hl 0 rfl) ?_
          refine zg (v := .ref (g.2.2 1)) E hZ (by decide) (re_0 _) kc_X11 1 (by decide) kw_1369 rfl rfl dX11_oneHour_184 ?_
          refine lv_bipush (v := 92) hx hb dX11_oneHour_187 (by decide) ?_
          refine lv_iload_n hx hb dX11_oneHour_189 rfl (lv_at hl 1 rfl) ?_
          refine zis h E hZ (by decide) re_1 dX11_oneHour_190 (fun M_11 H locs eM_11 h hZ => ?_)
          exact lb_X11_oneHour_191 g  E hret M_11 x2 x3 (fun M x3 => b_X11_oneHour_121  x2 n M x3) ih H locs ls h hZ (lv_sub hl [0, 1, 2] rfl)
        · refine lv_goto (tgt := 191) hx hb dX11_oneHour_157 (by decide) ?_
          exact lb_X11_oneHour_191 g  E hret u_6.2 x2 x3 (fun M x3 => b_X11_oneHour_121  x2 n M x3) ih H locs ls h hZ (lv_sub hl [0, 1, 2] rfl)
def b_X11_oneHour_97  (M : zM) : Option (zM) :=
  zck (zin 4 2030) (znm (M 1 (4 : Int32).toNatClampNeg) (fun x2_15 => znm (if (x2_15 + 1) < 9999 then (x2_15 + 1) else 9999) (fun v_16 => zck (zin 4 2030) (znm (zu M 1 (4 : Int32).toNatClampNeg v_16) (fun M_17 => b_X11_oneHour_121  x2_15 6000 M_17 0)))))
set_option maxRecDepth 100000 in
set_option maxHeartbeats 4000000 in
theorem lb_X11_oneHour_97 (g : zG)  {r : zM} (E : zX g p m c cX11_oneHour 4 s args (zWs yX11_oneHour cX11_oneHour 4 none) RX11) (hret : zRv g rE 15 p l e (zrm 13 0 0) s m args below meth c 0 0 Q cX11_oneHour (fun M1 => M1 = r)) (M : zM)  (H : Heap) (locs : List Loc) (ls : Array Slot) (h : b_X11_oneHour_97  M = some r) (hZ : zS g rE 15 s H locs M) (hl : lv_has ls 4 [(0, .ref (g.2.2 0))]) : W p l e (zrm 13 0 0) s m args below meth c H locs 0 0 Q (F0 m 97 ls []) := by
  have hx := E.1.1
  have hb := E.1.2.1
  unfold b_X11_oneHour_97 at h
  refine lv_aload_n hx hb dX11_oneHour_97 rfl (lv_at hl 0 rfl) ?_
  refine zg (v := .ref (g.2.2 1)) E hZ (by decide) (re_0 _) kc_X11 1 (by decide) kw_1369 rfl rfl dX11_oneHour_98 ?_
  refine lv_iconst (v := 4) hx hb dX11_oneHour_101 (by decide) ?_
  refine zia h E hZ (by decide) re_1 dX11_oneHour_102 (fun h => ?_)
  refine zni h (fun x2_15 ex2_15 h => ?_)
  refine lv_istore_n (lv' := [(2, .int x2_15), (0, .ref (g.2.2 0))]) hx hb dX11_oneHour_103 rfl hl (by decide) rfl (fun ls hl => ?_)
  refine lv_aload_n hx hb dX11_oneHour_104 rfl (lv_at hl 1 rfl) ?_
  refine zg (v := .ref (g.2.2 1)) E hZ (by decide) (re_0 _) kc_X11 1 (by decide) kw_1369 rfl rfl dX11_oneHour_105 ?_
  refine lv_iconst (v := 4) hx hb dX11_oneHour_108 (by decide) ?_
  refine lv_sipush (v := 9999) hx hb dX11_oneHour_109 (by decide) ?_
  refine lv_iload_n hx hb dX11_oneHour_112 rfl (lv_at hl 0 rfl) ?_
  refine lv_iconst (v := 1) hx hb dX11_oneHour_113 (by decide) ?_
  refine lv_iadd hx hb dX11_oneHour_114 ?_
  refine va_mmin hx hb (E.1.2.2.1.trans hl.1.symm) E.1.2.2.2.1 (E.w kw_1862) (E.w kw_540) (E.w kw_16) (E.w kw_541) (Nat.le_of_ble_eq_true rfl) (Nat.le_of_ble_eq_true rfl) (Nat.le_of_ble_eq_true rfl) (Nat.le_of_ble_eq_true rfl) dX11_oneHour_115 ?_
  refine zni h (fun v_16 ev_16 h => ?_)
  refine zis h E hZ (by decide) re_1 dX11_oneHour_118 (fun M_17 H locs eM_17 h hZ => ?_)
  refine lv_iconst (v := 0) hx hb dX11_oneHour_119 (by decide) ?_
  refine lv_istore_n (lv' := [(3, .int 0), (2, .int x2_15), (0, .ref (g.2.2 0))]) hx hb dX11_oneHour_120 rfl hl (by decide) rfl (fun ls hl => ?_)
  exact lb_X11_oneHour_121 g  E hret x2_15  6000 M_17 0 H locs ls h hZ (lv_sub hl [2, 1, 0] rfl)
def b_X11_oneHour_78   : Nat → zM → Int32 → Option (zM)
  | 0, _, _ => none
  | n + 1, M, x2 =>
    zbn (f_X11_duties M ) (fun u_18 => if u_18 ≤ x2 then (b_X11_oneHour_97  M) else (zbn (f_X11_keeps M x2) (fun u_19 => znm (x2 + 1) (fun x2_20 => b_X11_oneHour_78   n u_19 x2_20))))
set_option maxRecDepth 100000 in
set_option maxHeartbeats 4000000 in
theorem lb_X11_oneHour_78 (g : zG)  {r : zM} (E : zX g p m c cX11_oneHour 4 s args (zWs yX11_oneHour cX11_oneHour 4 none) RX11) (hret : zRv g rE 15 p l e (zrm 13 0 0) s m args below meth c 0 0 Q cX11_oneHour (fun M1 => M1 = r))   : ∀ (n : Nat) (M : zM) (x2 : Int32) (H : Heap) (locs : List Loc) (ls : Array Slot), b_X11_oneHour_78   n M x2 = some r → zS g rE 15 s H locs M → lv_has ls 4 [(0, .ref (g.2.2 0)), (2, .int x2)] → W p l e (zrm 13 0 0) s m args below meth c H locs 0 0 Q (F0 m 78 ls []) := by
  have hx := E.1.1
  have hb := E.1.2.1
  intro n
  induction n with
  | zero => intro M x2 H locs ls h hZ hl; cases h
  | succ n ih =>
    intro M x2 H locs ls h hZ hl
    rw [b_X11_oneHour_78] at h
    refine lv_iload_n hx hb dX11_oneHour_78 rfl (lv_at hl 1 rfl) ?_
    refine lv_aload_n hx hb dX11_oneHour_79 rfl (lv_at hl 0 rfl) ?_
    obtain ⟨u_18, qu_18, h⟩ := zbn_some h
    refine zciR (zrunV E hZ (by decide) (re_0 _) rfl rfl v_X11_duties kw_1580 (c_X11_duties l g M   qu_18 _) rfl hl.1 rfl (Nat.le_of_ble_eq_true rfl) ⟨by decide, by decide⟩ ⟨by decide, by decide⟩ dX11_oneHour_80) hZ (fun H locs hZ => ?_)
    refine zic_ge (tgt := 97) h E dX11_oneHour_83 (by decide) (fun c_21 h => ?_) (fun c_21 h => ?_)
    · exact lb_X11_oneHour_97 g  E hret M  H locs ls h hZ (lv_sub hl [0] rfl)
    · refine lv_aload_n hx hb dX11_oneHour_86 rfl (lv_at hl 0 rfl) ?_
      refine lv_iload_n hx hb dX11_oneHour_87 rfl (lv_at hl 1 rfl) ?_
      obtain ⟨u_19, qu_19, h⟩ := zbn_some h
      refine zcvS (zrunV E hZ (by decide) (re_0 _) rfl rfl v_X11_keeps kw_1863 (c_X11_keeps l g M  x2 qu_19 _) rfl hl.1 rfl (Nat.le_of_ble_eq_true rfl) ⟨by decide, by decide⟩ ⟨by decide, by decide⟩ dX11_oneHour_88) hZ (fun H locs hZ => ?_)
      obtain ⟨x2_20, ex2_20, h⟩ := znm_ex h
      refine lv_iinc (v := x2_20) (lv' := [(2, .int x2_20), (0, .ref (g.2.2 0))]) hx hb dX11_oneHour_91 hl (k := 1) rfl (by rw [ex2_20]; rfl) (by decide) rfl (fun ls hl => ?_)
      refine lv_goto (tgt := 78) hx hb dX11_oneHour_94 (by decide) ?_
      exact ih u_19 x2_20 H locs ls h hZ (lv_sub hl [1, 0] rfl)
def b_X11_oneHour_76  (M : zM) : Option (zM) :=
  b_X11_oneHour_78   6000 M 0
set_option maxRecDepth 100000 in
set_option maxHeartbeats 4000000 in
theorem lb_X11_oneHour_76 (g : zG)  {r : zM} (E : zX g p m c cX11_oneHour 4 s args (zWs yX11_oneHour cX11_oneHour 4 none) RX11) (hret : zRv g rE 15 p l e (zrm 13 0 0) s m args below meth c 0 0 Q cX11_oneHour (fun M1 => M1 = r)) (M : zM)  (H : Heap) (locs : List Loc) (ls : Array Slot) (h : b_X11_oneHour_76  M = some r) (hZ : zS g rE 15 s H locs M) (hl : lv_has ls 4 [(0, .ref (g.2.2 0))]) : W p l e (zrm 13 0 0) s m args below meth c H locs 0 0 Q (F0 m 76 ls []) := by
  have hx := E.1.1
  have hb := E.1.2.1
  unfold b_X11_oneHour_76 at h
  refine lv_iconst (v := 0) hx hb dX11_oneHour_76 (by decide) ?_
  refine lv_istore_n (lv' := [(2, .int 0), (0, .ref (g.2.2 0))]) hx hb dX11_oneHour_77 rfl hl (by decide) rfl (fun ls hl => ?_)
  exact lb_X11_oneHour_78 g  E hret   6000 M 0 H locs ls h hZ (lv_sub hl [1, 0] rfl)
def b_X11_oneHour_70 (K10 : zM → Int32 → Option (zM)) (M : zM) (x2 : Int32) : Option (zM) :=
  znm (x2 + 1) (fun x2_22 => K10 M x2_22)
set_option maxRecDepth 100000 in
set_option maxHeartbeats 4000000 in
theorem lb_X11_oneHour_70 (g : zG)  {r : zM} (E : zX g p m c cX11_oneHour 4 s args (zWs yX11_oneHour cX11_oneHour 4 none) RX11) (hret : zRv g rE 15 p l e (zrm 13 0 0) s m args below meth c 0 0 Q cX11_oneHour (fun M1 => M1 = r)) (M : zM) (x2 : Int32) (K10 : zM → Int32 → Option (zM)) (hK10 : ∀ (M : zM) (x2 : Int32) (H : Heap) (locs : List Loc) (ls : Array Slot), K10 M x2 = some r → zS g rE 15 s H locs M → lv_has ls 4 [(0, .ref (g.2.2 0)), (2, .int x2)] → W p l e (zrm 13 0 0) s m args below meth c H locs 0 0 Q (F0 m 10 ls [])) (H : Heap) (locs : List Loc) (ls : Array Slot) (h : b_X11_oneHour_70 K10 M x2 = some r) (hZ : zS g rE 15 s H locs M) (hl : lv_has ls 4 [(0, .ref (g.2.2 0)), (2, .int x2)]) : W p l e (zrm 13 0 0) s m args below meth c H locs 0 0 Q (F0 m 70 ls []) := by
  have hx := E.1.1
  have hb := E.1.2.1
  unfold b_X11_oneHour_70 at h
  obtain ⟨x2_22, ex2_22, h⟩ := znm_ex h
  refine lv_iinc (v := x2_22) (lv' := [(2, .int x2_22), (0, .ref (g.2.2 0))]) hx hb dX11_oneHour_70 hl (k := 1) rfl (by rw [ex2_22]; rfl) (by decide) rfl (fun ls hl => ?_)
  refine lv_goto (tgt := 10) hx hb dX11_oneHour_73 (by decide) ?_
  exact hK10 M x2_22 H locs ls h hZ (lv_sub hl [1, 0] rfl)
def b_X11_oneHour_42 (K10 : zM → Int32 → Option (zM)) (M : zM) (x2 : Int32) : Option (zM) :=
  zbn (f_X11_monkAt M x2 3) (fun u_23 => zbn (f_X11_of M x2 3) (fun u_24 => zbn (f_X11_sumOf M 2 x2) (fun u_25 => znm (if (u_24 + u_25.1) < 9 then (u_24 + u_25.1) else 9) (fun v_26 => zck (zin u_23 2030) (znm (zu u_25.2 1 (u_23 : Int32).toNatClampNeg v_26) (fun M_27 => b_X11_oneHour_70 K10 M_27 x2))))))
set_option maxRecDepth 100000 in
set_option maxHeartbeats 4000000 in
theorem lb_X11_oneHour_42 (g : zG)  {r : zM} (E : zX g p m c cX11_oneHour 4 s args (zWs yX11_oneHour cX11_oneHour 4 none) RX11) (hret : zRv g rE 15 p l e (zrm 13 0 0) s m args below meth c 0 0 Q cX11_oneHour (fun M1 => M1 = r)) (M : zM) (x2 : Int32) (K10 : zM → Int32 → Option (zM)) (hK10 : ∀ (M : zM) (x2 : Int32) (H : Heap) (locs : List Loc) (ls : Array Slot), K10 M x2 = some r → zS g rE 15 s H locs M → lv_has ls 4 [(0, .ref (g.2.2 0)), (2, .int x2)] → W p l e (zrm 13 0 0) s m args below meth c H locs 0 0 Q (F0 m 10 ls [])) (H : Heap) (locs : List Loc) (ls : Array Slot) (h : b_X11_oneHour_42 K10 M x2 = some r) (hZ : zS g rE 15 s H locs M) (hl : lv_has ls 4 [(0, .ref (g.2.2 0)), (2, .int x2)]) : W p l e (zrm 13 0 0) s m args below meth c H locs 0 0 Q (F0 m 42 ls []) := by
  have hx := E.1.1
  have hb := E.1.2.1
  unfold b_X11_oneHour_42 at h
  refine lv_aload_n hx hb dX11_oneHour_42 rfl (lv_at hl 0 rfl) ?_
  refine zg (v := .ref (g.2.2 1)) E hZ (by decide) (re_0 _) kc_X11 1 (by decide) kw_1369 rfl rfl dX11_oneHour_43 ?_
  refine lv_iload_n hx hb dX11_oneHour_46 rfl (lv_at hl 1 rfl) ?_
  refine lv_iconst (v := 3) hx hb dX11_oneHour_47 (by decide) ?_
  obtain ⟨u_23, qu_23, h⟩ := zbn_some h
  refine zciR (zrunS E hZ v_X11_monkAt kw_1572 (c_X11_monkAt l g M  x2 3 qu_23 _) rfl hl.1 rfl (Nat.le_of_ble_eq_true rfl) ⟨by decide, by decide⟩ ⟨by decide, by decide⟩ dX11_oneHour_48) hZ (fun H locs hZ => ?_)
  refine lv_bipush (v := 9) hx hb dX11_oneHour_51 (by decide) ?_
  refine lv_aload_n hx hb dX11_oneHour_53 rfl (lv_at hl 0 rfl) ?_
  refine lv_iload_n hx hb dX11_oneHour_54 rfl (lv_at hl 1 rfl) ?_
  refine lv_iconst (v := 3) hx hb dX11_oneHour_55 (by decide) ?_
  obtain ⟨u_24, qu_24, h⟩ := zbn_some h
  refine zciR (zrunV E hZ (by decide) (re_0 _) rfl rfl v_X11_of kw_1765 (c_X11_of l g M  x2 3 qu_24 _) rfl hl.1 rfl (Nat.le_of_ble_eq_true rfl) ⟨by decide, by decide⟩ ⟨by decide, by decide⟩ dX11_oneHour_56) hZ (fun H locs hZ => ?_)
  refine lv_aload_n hx hb dX11_oneHour_59 rfl (lv_at hl 0 rfl) ?_
  refine lv_iconst (v := 2) hx hb dX11_oneHour_60 (by decide) ?_
  refine lv_iload_n hx hb dX11_oneHour_61 rfl (lv_at hl 1 rfl) ?_
  obtain ⟨u_25, qu_25, h⟩ := zbn_some h
  refine zciS (zrunV E hZ (by decide) (re_0 _) rfl rfl v_X11_sumOf kw_1753 (c_X11_sumOf l g M  2 x2 qu_25 _) rfl hl.1 rfl (Nat.le_of_ble_eq_true rfl) ⟨by decide, by decide⟩ ⟨by decide, by decide⟩ dX11_oneHour_62) hZ (fun H locs hZ => ?_)
  refine lv_iadd hx hb dX11_oneHour_65 ?_
  refine va_mmin hx hb (E.1.2.2.1.trans hl.1.symm) E.1.2.2.2.1 (E.w kw_1862) (E.w kw_540) (E.w kw_16) (E.w kw_541) (Nat.le_of_ble_eq_true rfl) (Nat.le_of_ble_eq_true rfl) (Nat.le_of_ble_eq_true rfl) (Nat.le_of_ble_eq_true rfl) dX11_oneHour_66 ?_
  refine zni h (fun v_26 ev_26 h => ?_)
  refine zis h E hZ (by decide) re_1 dX11_oneHour_69 (fun M_27 H locs eM_27 h hZ => ?_)
  exact lb_X11_oneHour_70 g  E hret M_27 x2 K10 hK10 H locs ls h hZ (lv_sub hl [0, 1] rfl)
def b_X11_oneHour_10   : Nat → zM → Int32 → Option (zM)
  | 0, _, _ => none
  | n + 1, M, x2 =>
    zbn (f_X11_monks M ) (fun u_28 => if u_28 ≤ x2 then (b_X11_oneHour_76  M) else (zbn (f_X11_isDrowned M x2) (fun u_29 => if u_29 = 0 then (zbn (f_X11_doesWait M x2) (fun u_30 => if u_30.1 = 0 then (zbn (f_X11_walks u_30.2 x2) (fun u_31 => b_X11_oneHour_42 (fun M x2 => b_X11_oneHour_10   n M x2) u_31 x2)) else (b_X11_oneHour_42 (fun M x2 => b_X11_oneHour_10   n M x2) u_30.2 x2))) else (b_X11_oneHour_70 (fun M x2 => b_X11_oneHour_10   n M x2) M x2))))
set_option maxRecDepth 100000 in
set_option maxHeartbeats 4000000 in
theorem lb_X11_oneHour_10 (g : zG)  {r : zM} (E : zX g p m c cX11_oneHour 4 s args (zWs yX11_oneHour cX11_oneHour 4 none) RX11) (hret : zRv g rE 15 p l e (zrm 13 0 0) s m args below meth c 0 0 Q cX11_oneHour (fun M1 => M1 = r))   : ∀ (n : Nat) (M : zM) (x2 : Int32) (H : Heap) (locs : List Loc) (ls : Array Slot), b_X11_oneHour_10   n M x2 = some r → zS g rE 15 s H locs M → lv_has ls 4 [(0, .ref (g.2.2 0)), (2, .int x2)] → W p l e (zrm 13 0 0) s m args below meth c H locs 0 0 Q (F0 m 10 ls []) := by
  have hx := E.1.1
  have hb := E.1.2.1
  intro n
  induction n with
  | zero => intro M x2 H locs ls h hZ hl; cases h
  | succ n ih =>
    intro M x2 H locs ls h hZ hl
    rw [b_X11_oneHour_10] at h
    refine lv_iload_n hx hb dX11_oneHour_10 rfl (lv_at hl 1 rfl) ?_
    refine lv_aload_n hx hb dX11_oneHour_11 rfl (lv_at hl 0 rfl) ?_
    obtain ⟨u_28, qu_28, h⟩ := zbn_some h
    refine zciR (zrunV E hZ (by decide) (re_0 _) rfl rfl v_X11_monks kw_1562 (c_X11_monks l g M   qu_28 _) rfl hl.1 rfl (Nat.le_of_ble_eq_true rfl) ⟨by decide, by decide⟩ ⟨by decide, by decide⟩ dX11_oneHour_12) hZ (fun H locs hZ => ?_)
    refine zic_ge (tgt := 76) h E dX11_oneHour_15 (by decide) (fun c_34 h => ?_) (fun c_34 h => ?_)
    · exact lb_X11_oneHour_76 g  E hret M  H locs ls h hZ (lv_sub hl [0] rfl)
    · refine lv_aload_n hx hb dX11_oneHour_18 rfl (lv_at hl 0 rfl) ?_
      refine lv_iload_n hx hb dX11_oneHour_19 rfl (lv_at hl 1 rfl) ?_
      obtain ⟨u_29, qu_29, h⟩ := zbn_some h
      refine zciR (zrunV E hZ (by decide) (re_0 _) rfl rfl v_X11_isDrowned kw_1797 (c_X11_isDrowned l g M  x2 qu_29 _) rfl hl.1 rfl (Nat.le_of_ble_eq_true rfl) ⟨by decide, by decide⟩ ⟨by decide, by decide⟩ dX11_oneHour_20) hZ (fun H locs hZ => ?_)
      refine zif_eq (tgt := 29) h E dX11_oneHour_23 (by decide) (fun c_33 h => ?_) (fun c_33 h => ?_)
      · refine lv_aload_n hx hb dX11_oneHour_29 rfl (lv_at hl 0 rfl) ?_
        refine lv_iload_n hx hb dX11_oneHour_30 rfl (lv_at hl 1 rfl) ?_
        obtain ⟨u_30, qu_30, h⟩ := zbn_some h
        refine zciS (zrunV E hZ (by decide) (re_0 _) rfl rfl v_X11_doesWait kw_1777 (c_X11_doesWait l g M  x2 qu_30 _) rfl hl.1 rfl (Nat.le_of_ble_eq_true rfl) ⟨by decide, by decide⟩ ⟨by decide, by decide⟩ dX11_oneHour_31) hZ (fun H locs hZ => ?_)
        refine zif_ne (tgt := 42) h E dX11_oneHour_34 (by decide) (fun c_32 h => ?_) (fun c_32 h => ?_)
        · exact lb_X11_oneHour_42 g  E hret u_30.2 x2 (fun M x2 => b_X11_oneHour_10   n M x2) ih H locs ls h hZ (lv_sub hl [0, 1] rfl)
        · refine lv_aload_n hx hb dX11_oneHour_37 rfl (lv_at hl 0 rfl) ?_
          refine lv_iload_n hx hb dX11_oneHour_38 rfl (lv_at hl 1 rfl) ?_
          obtain ⟨u_31, qu_31, h⟩ := zbn_some h
          refine zcvS (zrunV E hZ (by decide) (re_0 _) rfl rfl v_X11_walks kw_1858 (c_X11_walks l g u_30.2  x2 qu_31 _) rfl hl.1 rfl (Nat.le_of_ble_eq_true rfl) ⟨by decide, by decide⟩ ⟨by decide, by decide⟩ dX11_oneHour_39) hZ (fun H locs hZ => ?_)
          exact lb_X11_oneHour_42 g  E hret u_31 x2 (fun M x2 => b_X11_oneHour_10   n M x2) ih H locs ls h hZ (lv_sub hl [0, 1] rfl)
      · refine lv_goto (tgt := 70) hx hb dX11_oneHour_26 (by decide) ?_
        exact lb_X11_oneHour_70 g  E hret M x2 (fun M x2 => b_X11_oneHour_10   n M x2) ih H locs ls h hZ (lv_sub hl [0, 1] rfl)
def b_X11_oneHour_8  (M : zM) : Option (zM) :=
  b_X11_oneHour_10   6000 M 0
set_option maxRecDepth 100000 in
set_option maxHeartbeats 4000000 in
theorem lb_X11_oneHour_8 (g : zG)  {r : zM} (E : zX g p m c cX11_oneHour 4 s args (zWs yX11_oneHour cX11_oneHour 4 none) RX11) (hret : zRv g rE 15 p l e (zrm 13 0 0) s m args below meth c 0 0 Q cX11_oneHour (fun M1 => M1 = r)) (M : zM)  (H : Heap) (locs : List Loc) (ls : Array Slot) (h : b_X11_oneHour_8  M = some r) (hZ : zS g rE 15 s H locs M) (hl : lv_has ls 4 [(0, .ref (g.2.2 0))]) : W p l e (zrm 13 0 0) s m args below meth c H locs 0 0 Q (F0 m 8 ls []) := by
  have hx := E.1.1
  have hb := E.1.2.1
  unfold b_X11_oneHour_8 at h
  refine lv_iconst (v := 0) hx hb dX11_oneHour_8 (by decide) ?_
  refine lv_istore_n (lv' := [(2, .int 0), (0, .ref (g.2.2 0))]) hx hb dX11_oneHour_9 rfl hl (by decide) rfl (fun ls hl => ?_)
  exact lb_X11_oneHour_10 g  E hret   6000 M 0 H locs ls h hZ (lv_sub hl [1, 0] rfl)
def f_X11_oneHour (M : zM) (x1 : Int32) : Option (zM) :=
  if x1 = 0 then (zbn (f_X11_blows M ) (fun u_35 => b_X11_oneHour_8  u_35)) else (b_X11_oneHour_8  M)
set_option maxRecDepth 100000 in
set_option maxHeartbeats 4000000 in
theorem w_X11_oneHour (g : zG)  {r : zM} (E : zX g p m c cX11_oneHour 4 s args (zWs yX11_oneHour cX11_oneHour 4 none) RX11) (hret : zRv g rE 15 p l e (zrm 13 0 0) s m args below meth c 0 0 Q cX11_oneHour (fun M1 => M1 = r)) (M : zM) (x1 : Int32) (H : Heap) (locs : List Loc) (ls : Array Slot) (h : f_X11_oneHour M x1 = some r) (hZ : zS g rE 15 s H locs M) (hl : lv_has ls 4 [(0, .ref (g.2.2 0)), (1, .int x1)]) : W p l e (zrm 13 0 0) s m args below meth c H locs 0 0 Q (F0 m 0 ls []) := by
  have hx := E.1.1
  have hb := E.1.2.1
  unfold f_X11_oneHour at h
  refine lv_iload_n hx hb dX11_oneHour_0 rfl (lv_at hl 1 rfl) ?_
  refine zif_ne (tgt := 8) h E dX11_oneHour_1 (by decide) (fun c_36 h => ?_) (fun c_36 h => ?_)
  · exact lb_X11_oneHour_8 g  E hret M  H locs ls h hZ (lv_sub hl [0] rfl)
  · refine lv_aload_n hx hb dX11_oneHour_4 rfl (lv_at hl 0 rfl) ?_
    obtain ⟨u_35, qu_35, h⟩ := zbn_some h
    refine zcvS (zrunV E hZ (by decide) (re_0 _) rfl rfl v_X11_blows kw_1849 (c_X11_blows l g M   qu_35 _) rfl hl.1 rfl (Nat.le_of_ble_eq_true rfl) ⟨by decide, by decide⟩ ⟨by decide, by decide⟩ dX11_oneHour_5) hZ (fun H locs hZ => ?_)
    exact lb_X11_oneHour_8 g  E hret u_35  H locs ls h hZ (lv_sub hl [0] rfl)
theorem c_X11_oneHour (l : Launch) (g : zG) (M : zM)  (x1 : Int32) {r : zM} (h : f_X11_oneHour M x1 = some r) : zMv l g rE 15 yX11_oneHour (zWs yX11_oneHour cX11_oneHour 4 none) 13 [.ref (g.2.2 0), .int x1] M (fun M1 => M1 = r) :=
  zMv_of (by decide +kernel) (Nat.le_of_ble_eq_true rfl) (fun p e s m args below meth c Q ls E hret hZ hl => w_X11_oneHour g  E hret M x1 _ _ ls h hZ hl)
theorem v_X11_oneHour : zYV yX11_oneHour cX11_oneHour 4 none 1 := ⟨kw_1848, kw_15, kw_1847, kp_92, by decide +kernel⟩

def b_X11_keepsAll_2   : Nat → zM → Int32 → Option (zM)
  | 0, _, _ => none
  | n + 1, M, x1 =>
    if 332 ≤ x1 then (some M) else (zck (zin x1 2030) (zck (zin x1 332) (znm (zu M 4 (x1 : Int32).toNatClampNeg (M 1 (x1 : Int32).toNatClampNeg)) (fun M_1 => znm (x1 + 1) (fun x1_2 => b_X11_keepsAll_2   n M_1 x1_2)))))
set_option maxRecDepth 100000 in
set_option maxHeartbeats 4000000 in
theorem lb_X11_keepsAll_2 (g : zG)  {r : zM} (E : zX g p m c cX11_keepsAll 2 s args (zWs yX11_keepsAll cX11_keepsAll 2 none) RX11) (hret : zRv g rE 15 p l e (zrm 2 0 0) s m args below meth c 0 0 Q cX11_keepsAll (fun M1 => M1 = r))   : ∀ (n : Nat) (M : zM) (x1 : Int32) (H : Heap) (locs : List Loc) (ls : Array Slot), b_X11_keepsAll_2   n M x1 = some r → zS g rE 15 s H locs M → lv_has ls 2 [(0, .ref (g.2.2 0)), (1, .int x1)] → W p l e (zrm 2 0 0) s m args below meth c H locs 0 0 Q (F0 m 2 ls []) := by
  have hx := E.1.1
  have hb := E.1.2.1
  intro n
  induction n with
  | zero => intro M x1 H locs ls h hZ hl; cases h
  | succ n ih =>
    intro M x1 H locs ls h hZ hl
    rw [b_X11_keepsAll_2] at h
    refine lv_iload_n hx hb dX11_keepsAll_2 rfl (lv_at hl 1 rfl) ?_
    refine lv_sipush (v := 332) hx hb dX11_keepsAll_3 (by decide) ?_
    refine zic_ge (tgt := 27) h E dX11_keepsAll_6 (by decide) (fun c_3 h => ?_) (fun c_3 h => ?_)
    · exact hret _ _ _ _ _ (Option.some.inj h) hZ dX11_keepsAll_27
    · refine lv_aload_n hx hb dX11_keepsAll_9 rfl (lv_at hl 0 rfl) ?_
      refine zg (v := .ref (g.2.2 4)) E hZ (by decide) (re_0 _) kc_X11 4 (by decide) kw_1372 rfl rfl dX11_keepsAll_10 ?_
      refine lv_iload_n hx hb dX11_keepsAll_13 rfl (lv_at hl 1 rfl) ?_
      refine lv_aload_n hx hb dX11_keepsAll_14 rfl (lv_at hl 0 rfl) ?_
      refine zg (v := .ref (g.2.2 1)) E hZ (by decide) (re_0 _) kc_X11 1 (by decide) kw_1369 rfl rfl dX11_keepsAll_15 ?_
      refine lv_iload_n hx hb dX11_keepsAll_18 rfl (lv_at hl 1 rfl) ?_
      refine zia h E hZ (by decide) re_1 dX11_keepsAll_19 (fun h => ?_)
      refine zis h E hZ (by decide) re_4 dX11_keepsAll_20 (fun M_1 H locs eM_1 h hZ => ?_)
      obtain ⟨x1_2, ex1_2, h⟩ := znm_ex h
      refine lv_iinc (v := x1_2) (lv' := [(1, .int x1_2), (0, .ref (g.2.2 0))]) hx hb dX11_keepsAll_21 hl (k := 1) rfl (by rw [ex1_2]; rfl) (by decide) rfl (fun ls hl => ?_)
      refine lv_goto (tgt := 2) hx hb dX11_keepsAll_24 (by decide) ?_
      exact ih M_1 x1_2 H locs ls h hZ (lv_sub hl [1, 0] rfl)
def f_X11_keepsAll (M : zM)  : Option (zM) :=
  b_X11_keepsAll_2   6000 M 0
set_option maxRecDepth 100000 in
set_option maxHeartbeats 4000000 in
theorem w_X11_keepsAll (g : zG)  {r : zM} (E : zX g p m c cX11_keepsAll 2 s args (zWs yX11_keepsAll cX11_keepsAll 2 none) RX11) (hret : zRv g rE 15 p l e (zrm 2 0 0) s m args below meth c 0 0 Q cX11_keepsAll (fun M1 => M1 = r)) (M : zM)  (H : Heap) (locs : List Loc) (ls : Array Slot) (h : f_X11_keepsAll M  = some r) (hZ : zS g rE 15 s H locs M) (hl : lv_has ls 2 [(0, .ref (g.2.2 0))]) : W p l e (zrm 2 0 0) s m args below meth c H locs 0 0 Q (F0 m 0 ls []) := by
  have hx := E.1.1
  have hb := E.1.2.1
  unfold f_X11_keepsAll at h
  refine lv_iconst (v := 0) hx hb dX11_keepsAll_0 (by decide) ?_
  refine lv_istore_n (lv' := [(1, .int 0), (0, .ref (g.2.2 0))]) hx hb dX11_keepsAll_1 rfl hl (by decide) rfl (fun ls hl => ?_)
  exact lb_X11_keepsAll_2 g  E hret   6000 M 0 H locs ls h hZ (lv_sub hl [1, 0] rfl)
theorem c_X11_keepsAll (l : Launch) (g : zG) (M : zM)   {r : zM} (h : f_X11_keepsAll M  = some r) : zMv l g rE 15 yX11_keepsAll (zWs yX11_keepsAll cX11_keepsAll 2 none) 2 [.ref (g.2.2 0)] M (fun M1 => M1 = r) :=
  zMv_of (by decide +kernel) (Nat.le_of_ble_eq_true rfl) (fun p e s m args below meth c Q ls E hret hZ hl => w_X11_keepsAll g  E hret M  _ _ ls h hZ hl)
theorem v_X11_keepsAll : zYV yX11_keepsAll cX11_keepsAll 2 none 0 := ⟨kw_1882, kw_15, kw_1881, kp_99, by decide +kernel⟩

def b_X11_bringsBack_2   : Nat → zM → Int32 → Option (zM)
  | 0, _, _ => none
  | n + 1, M, x1 =>
    if 332 ≤ x1 then (some M) else (zck (zin x1 332) (zck (zin x1 2030) (znm (zu M 1 (x1 : Int32).toNatClampNeg (M 4 (x1 : Int32).toNatClampNeg)) (fun M_1 => znm (x1 + 1) (fun x1_2 => b_X11_bringsBack_2   n M_1 x1_2)))))
set_option maxRecDepth 100000 in
set_option maxHeartbeats 4000000 in
theorem lb_X11_bringsBack_2 (g : zG)  {r : zM} (E : zX g p m c cX11_bringsBack 2 s args (zWs yX11_bringsBack cX11_bringsBack 2 none) RX11) (hret : zRv g rE 15 p l e (zrm 2 0 0) s m args below meth c 0 0 Q cX11_bringsBack (fun M1 => M1 = r))   : ∀ (n : Nat) (M : zM) (x1 : Int32) (H : Heap) (locs : List Loc) (ls : Array Slot), b_X11_bringsBack_2   n M x1 = some r → zS g rE 15 s H locs M → lv_has ls 2 [(0, .ref (g.2.2 0)), (1, .int x1)] → W p l e (zrm 2 0 0) s m args below meth c H locs 0 0 Q (F0 m 2 ls []) := by
  have hx := E.1.1
  have hb := E.1.2.1
  intro n
  induction n with
  | zero => intro M x1 H locs ls h hZ hl; cases h
  | succ n ih =>
    intro M x1 H locs ls h hZ hl
    rw [b_X11_bringsBack_2] at h
    refine lv_iload_n hx hb dX11_bringsBack_2 rfl (lv_at hl 1 rfl) ?_
    refine lv_sipush (v := 332) hx hb dX11_bringsBack_3 (by decide) ?_
    refine zic_ge (tgt := 27) h E dX11_bringsBack_6 (by decide) (fun c_3 h => ?_) (fun c_3 h => ?_)
    · exact hret _ _ _ _ _ (Option.some.inj h) hZ dX11_bringsBack_27
    · refine lv_aload_n hx hb dX11_bringsBack_9 rfl (lv_at hl 0 rfl) ?_
      refine zg (v := .ref (g.2.2 1)) E hZ (by decide) (re_0 _) kc_X11 1 (by decide) kw_1369 rfl rfl dX11_bringsBack_10 ?_
      refine lv_iload_n hx hb dX11_bringsBack_13 rfl (lv_at hl 1 rfl) ?_
      refine lv_aload_n hx hb dX11_bringsBack_14 rfl (lv_at hl 0 rfl) ?_
      refine zg (v := .ref (g.2.2 4)) E hZ (by decide) (re_0 _) kc_X11 4 (by decide) kw_1372 rfl rfl dX11_bringsBack_15 ?_
      refine lv_iload_n hx hb dX11_bringsBack_18 rfl (lv_at hl 1 rfl) ?_
      refine zia h E hZ (by decide) re_4 dX11_bringsBack_19 (fun h => ?_)
      refine zis h E hZ (by decide) re_1 dX11_bringsBack_20 (fun M_1 H locs eM_1 h hZ => ?_)
      obtain ⟨x1_2, ex1_2, h⟩ := znm_ex h
      refine lv_iinc (v := x1_2) (lv' := [(1, .int x1_2), (0, .ref (g.2.2 0))]) hx hb dX11_bringsBack_21 hl (k := 1) rfl (by rw [ex1_2]; rfl) (by decide) rfl (fun ls hl => ?_)
      refine lv_goto (tgt := 2) hx hb dX11_bringsBack_24 (by decide) ?_
      exact ih M_1 x1_2 H locs ls h hZ (lv_sub hl [1, 0] rfl)
def f_X11_bringsBack (M : zM)  : Option (zM) :=
  b_X11_bringsBack_2   6000 M 0
set_option maxRecDepth 100000 in
set_option maxHeartbeats 4000000 in
theorem w_X11_bringsBack (g : zG)  {r : zM} (E : zX g p m c cX11_bringsBack 2 s args (zWs yX11_bringsBack cX11_bringsBack 2 none) RX11) (hret : zRv g rE 15 p l e (zrm 2 0 0) s m args below meth c 0 0 Q cX11_bringsBack (fun M1 => M1 = r)) (M : zM)  (H : Heap) (locs : List Loc) (ls : Array Slot) (h : f_X11_bringsBack M  = some r) (hZ : zS g rE 15 s H locs M) (hl : lv_has ls 2 [(0, .ref (g.2.2 0))]) : W p l e (zrm 2 0 0) s m args below meth c H locs 0 0 Q (F0 m 0 ls []) := by
  have hx := E.1.1
  have hb := E.1.2.1
  unfold f_X11_bringsBack at h
  refine lv_iconst (v := 0) hx hb dX11_bringsBack_0 (by decide) ?_
  refine lv_istore_n (lv' := [(1, .int 0), (0, .ref (g.2.2 0))]) hx hb dX11_bringsBack_1 rfl hl (by decide) rfl (fun ls hl => ?_)
  exact lb_X11_bringsBack_2 g  E hret   6000 M 0 H locs ls h hZ (lv_sub hl [1, 0] rfl)
theorem c_X11_bringsBack (l : Launch) (g : zG) (M : zM)   {r : zM} (h : f_X11_bringsBack M  = some r) : zMv l g rE 15 yX11_bringsBack (zWs yX11_bringsBack cX11_bringsBack 2 none) 2 [.ref (g.2.2 0)] M (fun M1 => M1 = r) :=
  zMv_of (by decide +kernel) (Nat.le_of_ble_eq_true rfl) (fun p e s m args below meth c Q ls E hret hZ hl => w_X11_bringsBack g  E hret M  _ _ ls h hZ hl)
theorem v_X11_bringsBack : zYV yX11_bringsBack cX11_bringsBack 2 none 0 := ⟨kw_1886, kw_15, kw_1885, kp_100, by decide +kernel⟩

def b_X11_keptOnes_28 (K4 : Int32 → Int32 → Option (Int32)) (M : zM) (x2 : Int32) (t0 : Int32) (t1 : Int32) : Option (Int32) :=
  znm (t1 ||| t0) (fun x1_1 => znm (x2 + 1) (fun x2_2 => K4 x1_1 x2_2))
set_option maxRecDepth 100000 in
set_option maxHeartbeats 4000000 in
theorem lb_X11_keptOnes_28 (g : zG)  {r : Int32} {M0 : zM} (E : zX g p m c cX11_keptOnes 3 s args (zWs yX11_keptOnes cX11_keptOnes 3 (some .int)) RX11) (hret : zRi g rE 15 p l e (zrm 5 0 0) s m args below meth c 0 0 Q cX11_keptOnes .int (fun v M1 => v = r ∧ M1 = M0)) (M : zM) (x2 : Int32) (t0 : Int32) (t1 : Int32) (hM : M = M0) (K4 : Int32 → Int32 → Option (Int32)) (hK4 : ∀ (x1 : Int32) (x2 : Int32) (H : Heap) (locs : List Loc) (ls : Array Slot), K4 x1 x2 = some r → zS g rE 15 s H locs M → lv_has ls 3 [(0, .ref (g.2.2 0)), (1, .int x1), (2, .int x2)] → W p l e (zrm 5 0 0) s m args below meth c H locs 0 0 Q (F0 m 4 ls [])) (H : Heap) (locs : List Loc) (ls : Array Slot) (h : b_X11_keptOnes_28 K4 M x2 t0 t1 = some r) (hZ : zS g rE 15 s H locs M) (hl : lv_has ls 3 [(0, .ref (g.2.2 0)), (2, .int x2)]) : W p l e (zrm 5 0 0) s m args below meth c H locs 0 0 Q (F0 m 28 ls [.int t0, .int t1]) := by
  have hx := E.1.1
  have hb := E.1.2.1
  unfold b_X11_keptOnes_28 at h
  refine lv_ior hx hb dX11_keptOnes_28 ?_
  refine zni h (fun x1_1 ex1_1 h => ?_)
  refine lv_istore_n (lv' := [(1, .int x1_1), (0, .ref (g.2.2 0)), (2, .int x2)]) hx hb dX11_keptOnes_29 rfl hl (by decide) rfl (fun ls hl => ?_)
  obtain ⟨x2_2, ex2_2, h⟩ := znm_ex h
  refine lv_iinc (v := x2_2) (lv' := [(2, .int x2_2), (1, .int x1_1), (0, .ref (g.2.2 0))]) hx hb dX11_keptOnes_30 hl (k := 2) rfl (by rw [ex2_2]; rfl) (by decide) rfl (fun ls hl => ?_)
  refine lv_goto (tgt := 4) hx hb dX11_keptOnes_33 (by decide) ?_
  exact hK4 x1_1 x2_2 H locs ls h hZ (lv_sub hl [2, 1, 0] rfl)
def b_X11_keptOnes_4  (M : zM) : Nat → Int32 → Int32 → Option (Int32)
  | 0, _, _ => none
  | n + 1, x1, x2 =>
    zbn (f_X11_duties M ) (fun u_3 => if u_3 ≤ x2 then (some x1) else (zbn (f_X11_isKept M x2) (fun u_4 => if u_4 = 0 then (b_X11_keptOnes_28 (fun x1 x2 => b_X11_keptOnes_4  M n x1 x2) M x2 0 x1) else (b_X11_keptOnes_28 (fun x1 x2 => b_X11_keptOnes_4  M n x1 x2) M x2 ((1 : Int32) <<< (x2 &&& 31)) x1))))
set_option maxRecDepth 100000 in
set_option maxHeartbeats 4000000 in
theorem lb_X11_keptOnes_4 (g : zG)  {r : Int32} {M0 : zM} (E : zX g p m c cX11_keptOnes 3 s args (zWs yX11_keptOnes cX11_keptOnes 3 (some .int)) RX11) (hret : zRi g rE 15 p l e (zrm 5 0 0) s m args below meth c 0 0 Q cX11_keptOnes .int (fun v M1 => v = r ∧ M1 = M0)) (M : zM) (hM : M = M0)  : ∀ (n : Nat) (x1 : Int32) (x2 : Int32) (H : Heap) (locs : List Loc) (ls : Array Slot), b_X11_keptOnes_4  M n x1 x2 = some r → zS g rE 15 s H locs M → lv_has ls 3 [(0, .ref (g.2.2 0)), (1, .int x1), (2, .int x2)] → W p l e (zrm 5 0 0) s m args below meth c H locs 0 0 Q (F0 m 4 ls []) := by
  have hx := E.1.1
  have hb := E.1.2.1
  intro n
  induction n with
  | zero => intro x1 x2 H locs ls h hZ hl; cases h
  | succ n ih =>
    intro x1 x2 H locs ls h hZ hl
    rw [b_X11_keptOnes_4] at h
    refine lv_iload_n hx hb dX11_keptOnes_4 rfl (lv_at hl 2 rfl) ?_
    refine lv_aload_n hx hb dX11_keptOnes_5 rfl (lv_at hl 0 rfl) ?_
    obtain ⟨u_3, qu_3, h⟩ := zbn_some h
    refine zciR (zrunV E hZ (by decide) (re_0 _) rfl rfl v_X11_duties kw_1580 (c_X11_duties l g M   qu_3 _) rfl hl.1 rfl (Nat.le_of_ble_eq_true rfl) ⟨by decide, by decide⟩ ⟨by decide, by decide⟩ dX11_keptOnes_6) hZ (fun H locs hZ => ?_)
    refine zic_ge (tgt := 36) h E dX11_keptOnes_9 (by decide) (fun c_6 h => ?_) (fun c_6 h => ?_)
    · refine lv_iload_n hx hb dX11_keptOnes_36 rfl (lv_at hl 1 rfl) ?_
      exact hret _ _ _ _ _ _ ⟨Option.some.inj h, hM⟩ rfl hZ dX11_keptOnes_37
    · refine lv_iload_n hx hb dX11_keptOnes_12 rfl (lv_at hl 1 rfl) ?_
      refine lv_aload_n hx hb dX11_keptOnes_13 rfl (lv_at hl 0 rfl) ?_
      refine lv_iload_n hx hb dX11_keptOnes_14 rfl (lv_at hl 2 rfl) ?_
      obtain ⟨u_4, qu_4, h⟩ := zbn_some h
      refine zciR (zrunV E hZ (by decide) (re_0 _) rfl rfl v_X11_isKept kw_1828 (c_X11_isKept l g M  x2 qu_4 _) rfl hl.1 rfl (Nat.le_of_ble_eq_true rfl) ⟨by decide, by decide⟩ ⟨by decide, by decide⟩ dX11_keptOnes_15) hZ (fun H locs hZ => ?_)
      refine zif_eq (tgt := 27) h E dX11_keptOnes_18 (by decide) (fun c_5 h => ?_) (fun c_5 h => ?_)
      · refine lv_iconst (v := 0) hx hb dX11_keptOnes_27 (by decide) ?_
        exact lb_X11_keptOnes_28 g  E hret M x2 0 x1 hM (fun x1 x2 => b_X11_keptOnes_4  M n x1 x2) ih H locs ls h hZ (lv_sub hl [0, 2] rfl)
      · refine lv_iconst (v := 1) hx hb dX11_keptOnes_21 (by decide) ?_
        refine lv_iload_n hx hb dX11_keptOnes_22 rfl (lv_at hl 2 rfl) ?_
        refine lv_ishl hx hb dX11_keptOnes_23 ?_
        refine lv_goto (tgt := 28) hx hb dX11_keptOnes_24 (by decide) ?_
        exact lb_X11_keptOnes_28 g  E hret M x2 ((1 : Int32) <<< (x2 &&& 31)) x1 hM (fun x1 x2 => b_X11_keptOnes_4  M n x1 x2) ih H locs ls h hZ (lv_sub hl [0, 2] rfl)
def f_X11_keptOnes (M : zM)  : Option (Int32) :=
  b_X11_keptOnes_4  M 6000 0 0
set_option maxRecDepth 100000 in
set_option maxHeartbeats 4000000 in
theorem w_X11_keptOnes (g : zG)  {r : Int32} {M0 : zM} (E : zX g p m c cX11_keptOnes 3 s args (zWs yX11_keptOnes cX11_keptOnes 3 (some .int)) RX11) (hret : zRi g rE 15 p l e (zrm 5 0 0) s m args below meth c 0 0 Q cX11_keptOnes .int (fun v M1 => v = r ∧ M1 = M0)) (M : zM) (hM : M = M0)  (H : Heap) (locs : List Loc) (ls : Array Slot) (h : f_X11_keptOnes M  = some r) (hZ : zS g rE 15 s H locs M) (hl : lv_has ls 3 [(0, .ref (g.2.2 0))]) : W p l e (zrm 5 0 0) s m args below meth c H locs 0 0 Q (F0 m 0 ls []) := by
  have hx := E.1.1
  have hb := E.1.2.1
  unfold f_X11_keptOnes at h
  refine lv_iconst (v := 0) hx hb dX11_keptOnes_0 (by decide) ?_
  refine lv_istore_n (lv' := [(1, .int 0), (0, .ref (g.2.2 0))]) hx hb dX11_keptOnes_1 rfl hl (by decide) rfl (fun ls hl => ?_)
  refine lv_iconst (v := 0) hx hb dX11_keptOnes_2 (by decide) ?_
  refine lv_istore_n (lv' := [(2, .int 0), (1, .int 0), (0, .ref (g.2.2 0))]) hx hb dX11_keptOnes_3 rfl hl (by decide) rfl (fun ls hl => ?_)
  exact lb_X11_keptOnes_4 g  E hret M hM  6000 0 0 H locs ls h hZ (lv_sub hl [2, 1, 0] rfl)
theorem c_X11_keptOnes (l : Launch) (g : zG) (M : zM)   {r : Int32} (h : f_X11_keptOnes M  = some r) : zMi l g rE 15 yX11_keptOnes (zWs yX11_keptOnes cX11_keptOnes 3 (some .int)) 5 [.ref (g.2.2 0)] M (fun v M1 => v = r ∧ M1 = M) :=
  zMi_of (by decide +kernel) (Nat.le_of_ble_eq_true rfl) (fun p e s m args below meth c Q ls E hret hZ hl => w_X11_keptOnes g  E hret M rfl  _ _ ls h hZ hl)
theorem v_X11_keptOnes : zYV yX11_keptOnes cX11_keptOnes 3 (some .int) 0 := ⟨kw_1843, kw_15, kw_1842, kp_91, by decide +kernel⟩

def b_X11_drownedOnes_28 (K4 : Int32 → Int32 → Option (Int32)) (M : zM) (x2 : Int32) (t0 : Int32) (t1 : Int32) : Option (Int32) :=
  znm (t1 ||| t0) (fun x1_1 => znm (x2 + 1) (fun x2_2 => K4 x1_1 x2_2))
set_option maxRecDepth 100000 in
set_option maxHeartbeats 4000000 in
theorem lb_X11_drownedOnes_28 (g : zG)  {r : Int32} {M0 : zM} (E : zX g p m c cX11_drownedOnes 3 s args (zWs yX11_drownedOnes cX11_drownedOnes 3 (some .int)) RX11) (hret : zRi g rE 15 p l e (zrm 5 0 0) s m args below meth c 0 0 Q cX11_drownedOnes .int (fun v M1 => v = r ∧ M1 = M0)) (M : zM) (x2 : Int32) (t0 : Int32) (t1 : Int32) (hM : M = M0) (K4 : Int32 → Int32 → Option (Int32)) (hK4 : ∀ (x1 : Int32) (x2 : Int32) (H : Heap) (locs : List Loc) (ls : Array Slot), K4 x1 x2 = some r → zS g rE 15 s H locs M → lv_has ls 3 [(0, .ref (g.2.2 0)), (1, .int x1), (2, .int x2)] → W p l e (zrm 5 0 0) s m args below meth c H locs 0 0 Q (F0 m 4 ls [])) (H : Heap) (locs : List Loc) (ls : Array Slot) (h : b_X11_drownedOnes_28 K4 M x2 t0 t1 = some r) (hZ : zS g rE 15 s H locs M) (hl : lv_has ls 3 [(0, .ref (g.2.2 0)), (2, .int x2)]) : W p l e (zrm 5 0 0) s m args below meth c H locs 0 0 Q (F0 m 28 ls [.int t0, .int t1]) := by
  have hx := E.1.1
  have hb := E.1.2.1
  unfold b_X11_drownedOnes_28 at h
  refine lv_ior hx hb dX11_drownedOnes_28 ?_
  refine zni h (fun x1_1 ex1_1 h => ?_)
  refine lv_istore_n (lv' := [(1, .int x1_1), (0, .ref (g.2.2 0)), (2, .int x2)]) hx hb dX11_drownedOnes_29 rfl hl (by decide) rfl (fun ls hl => ?_)
  obtain ⟨x2_2, ex2_2, h⟩ := znm_ex h
  refine lv_iinc (v := x2_2) (lv' := [(2, .int x2_2), (1, .int x1_1), (0, .ref (g.2.2 0))]) hx hb dX11_drownedOnes_30 hl (k := 2) rfl (by rw [ex2_2]; rfl) (by decide) rfl (fun ls hl => ?_)
  refine lv_goto (tgt := 4) hx hb dX11_drownedOnes_33 (by decide) ?_
  exact hK4 x1_1 x2_2 H locs ls h hZ (lv_sub hl [2, 1, 0] rfl)
def b_X11_drownedOnes_4  (M : zM) : Nat → Int32 → Int32 → Option (Int32)
  | 0, _, _ => none
  | n + 1, x1, x2 =>
    zbn (f_X11_monks M ) (fun u_3 => if u_3 ≤ x2 then (some x1) else (zbn (f_X11_isDrowned M x2) (fun u_4 => if u_4 = 0 then (b_X11_drownedOnes_28 (fun x1 x2 => b_X11_drownedOnes_4  M n x1 x2) M x2 0 x1) else (b_X11_drownedOnes_28 (fun x1 x2 => b_X11_drownedOnes_4  M n x1 x2) M x2 ((1 : Int32) <<< (x2 &&& 31)) x1))))
set_option maxRecDepth 100000 in
set_option maxHeartbeats 4000000 in
theorem lb_X11_drownedOnes_4 (g : zG)  {r : Int32} {M0 : zM} (E : zX g p m c cX11_drownedOnes 3 s args (zWs yX11_drownedOnes cX11_drownedOnes 3 (some .int)) RX11) (hret : zRi g rE 15 p l e (zrm 5 0 0) s m args below meth c 0 0 Q cX11_drownedOnes .int (fun v M1 => v = r ∧ M1 = M0)) (M : zM) (hM : M = M0)  : ∀ (n : Nat) (x1 : Int32) (x2 : Int32) (H : Heap) (locs : List Loc) (ls : Array Slot), b_X11_drownedOnes_4  M n x1 x2 = some r → zS g rE 15 s H locs M → lv_has ls 3 [(0, .ref (g.2.2 0)), (1, .int x1), (2, .int x2)] → W p l e (zrm 5 0 0) s m args below meth c H locs 0 0 Q (F0 m 4 ls []) := by
  have hx := E.1.1
  have hb := E.1.2.1
  intro n
  induction n with
  | zero => intro x1 x2 H locs ls h hZ hl; cases h
  | succ n ih =>
    intro x1 x2 H locs ls h hZ hl
    rw [b_X11_drownedOnes_4] at h
    refine lv_iload_n hx hb dX11_drownedOnes_4 rfl (lv_at hl 2 rfl) ?_
    refine lv_aload_n hx hb dX11_drownedOnes_5 rfl (lv_at hl 0 rfl) ?_
    obtain ⟨u_3, qu_3, h⟩ := zbn_some h
    refine zciR (zrunV E hZ (by decide) (re_0 _) rfl rfl v_X11_monks kw_1562 (c_X11_monks l g M   qu_3 _) rfl hl.1 rfl (Nat.le_of_ble_eq_true rfl) ⟨by decide, by decide⟩ ⟨by decide, by decide⟩ dX11_drownedOnes_6) hZ (fun H locs hZ => ?_)
    refine zic_ge (tgt := 36) h E dX11_drownedOnes_9 (by decide) (fun c_6 h => ?_) (fun c_6 h => ?_)
    · refine lv_iload_n hx hb dX11_drownedOnes_36 rfl (lv_at hl 1 rfl) ?_
      exact hret _ _ _ _ _ _ ⟨Option.some.inj h, hM⟩ rfl hZ dX11_drownedOnes_37
    · refine lv_iload_n hx hb dX11_drownedOnes_12 rfl (lv_at hl 1 rfl) ?_
      refine lv_aload_n hx hb dX11_drownedOnes_13 rfl (lv_at hl 0 rfl) ?_
      refine lv_iload_n hx hb dX11_drownedOnes_14 rfl (lv_at hl 2 rfl) ?_
      obtain ⟨u_4, qu_4, h⟩ := zbn_some h
      refine zciR (zrunV E hZ (by decide) (re_0 _) rfl rfl v_X11_isDrowned kw_1797 (c_X11_isDrowned l g M  x2 qu_4 _) rfl hl.1 rfl (Nat.le_of_ble_eq_true rfl) ⟨by decide, by decide⟩ ⟨by decide, by decide⟩ dX11_drownedOnes_15) hZ (fun H locs hZ => ?_)
      refine zif_eq (tgt := 27) h E dX11_drownedOnes_18 (by decide) (fun c_5 h => ?_) (fun c_5 h => ?_)
      · refine lv_iconst (v := 0) hx hb dX11_drownedOnes_27 (by decide) ?_
        exact lb_X11_drownedOnes_28 g  E hret M x2 0 x1 hM (fun x1 x2 => b_X11_drownedOnes_4  M n x1 x2) ih H locs ls h hZ (lv_sub hl [0, 2] rfl)
      · refine lv_iconst (v := 1) hx hb dX11_drownedOnes_21 (by decide) ?_
        refine lv_iload_n hx hb dX11_drownedOnes_22 rfl (lv_at hl 2 rfl) ?_
        refine lv_ishl hx hb dX11_drownedOnes_23 ?_
        refine lv_goto (tgt := 28) hx hb dX11_drownedOnes_24 (by decide) ?_
        exact lb_X11_drownedOnes_28 g  E hret M x2 ((1 : Int32) <<< (x2 &&& 31)) x1 hM (fun x1 x2 => b_X11_drownedOnes_4  M n x1 x2) ih H locs ls h hZ (lv_sub hl [0, 2] rfl)
def f_X11_drownedOnes (M : zM)  : Option (Int32) :=
  b_X11_drownedOnes_4  M 6000 0 0
set_option maxRecDepth 100000 in
set_option maxHeartbeats 4000000 in
theorem w_X11_drownedOnes (g : zG)  {r : Int32} {M0 : zM} (E : zX g p m c cX11_drownedOnes 3 s args (zWs yX11_drownedOnes cX11_drownedOnes 3 (some .int)) RX11) (hret : zRi g rE 15 p l e (zrm 5 0 0) s m args below meth c 0 0 Q cX11_drownedOnes .int (fun v M1 => v = r ∧ M1 = M0)) (M : zM) (hM : M = M0)  (H : Heap) (locs : List Loc) (ls : Array Slot) (h : f_X11_drownedOnes M  = some r) (hZ : zS g rE 15 s H locs M) (hl : lv_has ls 3 [(0, .ref (g.2.2 0))]) : W p l e (zrm 5 0 0) s m args below meth c H locs 0 0 Q (F0 m 0 ls []) := by
  have hx := E.1.1
  have hb := E.1.2.1
  unfold f_X11_drownedOnes at h
  refine lv_iconst (v := 0) hx hb dX11_drownedOnes_0 (by decide) ?_
  refine lv_istore_n (lv' := [(1, .int 0), (0, .ref (g.2.2 0))]) hx hb dX11_drownedOnes_1 rfl hl (by decide) rfl (fun ls hl => ?_)
  refine lv_iconst (v := 0) hx hb dX11_drownedOnes_2 (by decide) ?_
  refine lv_istore_n (lv' := [(2, .int 0), (1, .int 0), (0, .ref (g.2.2 0))]) hx hb dX11_drownedOnes_3 rfl hl (by decide) rfl (fun ls hl => ?_)
  exact lb_X11_drownedOnes_4 g  E hret M hM  6000 0 0 H locs ls h hZ (lv_sub hl [2, 1, 0] rfl)
theorem c_X11_drownedOnes (l : Launch) (g : zG) (M : zM)   {r : Int32} (h : f_X11_drownedOnes M  = some r) : zMi l g rE 15 yX11_drownedOnes (zWs yX11_drownedOnes cX11_drownedOnes 3 (some .int)) 5 [.ref (g.2.2 0)] M (fun v M1 => v = r ∧ M1 = M) :=
  zMi_of (by decide +kernel) (Nat.le_of_ble_eq_true rfl) (fun p e s m args below meth c Q ls E hret hZ hl => w_X11_drownedOnes g  E hret M rfl  _ _ ls h hZ hl)
theorem v_X11_drownedOnes : zYV yX11_drownedOnes cX11_drownedOnes 3 (some .int) 0 := ⟨kw_1894, kw_15, kw_1893, kp_101, by decide +kernel⟩

def b_X11_goesBy_28  (M : zM) (x3 : Int32) : Option (Int32 × zM) :=
  zbn (f_X11_keptOnes M ) (fun u_1 => zbn (f_J6_bitCount_0f7a4 u_1) (fun u_2 => some (u_2 - x3, M)))
set_option maxRecDepth 100000 in
set_option maxHeartbeats 4000000 in
theorem lb_X11_goesBy_28 (g : zG)  {r : Int32 × zM} (E : zX g p m c cX11_goesBy 5 s args (zWs yX11_goesBy cX11_goesBy 5 (some .int)) RX11) (hret : zRi g rE 15 p l e (zrm 14 0 0) s m args below meth c 0 0 Q cX11_goesBy .int (fun v M1 => r = (v, M1))) (M : zM) (x3 : Int32)  (H : Heap) (locs : List Loc) (ls : Array Slot) (h : b_X11_goesBy_28  M x3 = some r) (hZ : zS g rE 15 s H locs M) (hl : lv_has ls 5 [(0, .ref (g.2.2 0)), (3, .int x3)]) : W p l e (zrm 14 0 0) s m args below meth c H locs 0 0 Q (F0 m 28 ls []) := by
  have hx := E.1.1
  have hb := E.1.2.1
  unfold b_X11_goesBy_28 at h
  refine lv_aload_n hx hb dX11_goesBy_28 rfl (lv_at hl 0 rfl) ?_
  obtain ⟨u_1, qu_1, h⟩ := zbn_some h
  refine zciR (zrunV E hZ (by decide) (re_0 _) rfl rfl v_X11_keptOnes kw_1840 (c_X11_keptOnes l g M   qu_1 _) rfl hl.1 rfl (Nat.le_of_ble_eq_true rfl) ⟨by decide, by decide⟩ ⟨by decide, by decide⟩ dX11_goesBy_29) hZ (fun H locs hZ => ?_)
  obtain ⟨u_2, qu_2, h⟩ := zbn_some h
  refine zciR (zrunS E hZ v_J6_bitCount_0f7a4 kw_1844 (c_J6_bitCount_0f7a4 l g rE 15 M  u_1 qu_2 _) rfl hl.1 rfl (Nat.le_of_ble_eq_true rfl) ⟨by decide, by decide⟩ ⟨by decide, by decide⟩ dX11_goesBy_32) hZ (fun H locs hZ => ?_)
  refine lv_iload_n hx hb dX11_goesBy_35 rfl (lv_at hl 1 rfl) ?_
  refine lv_isub hx hb dX11_goesBy_36 ?_
  exact hret _ _ _ _ _ _ (Option.some.inj h).symm rfl hZ dX11_goesBy_37
def b_X11_goesBy_11  (x1 : Int32) (x2 : Int32) (x3 : Int32) : Nat → zM → Int32 → Option (Int32 × zM)
  | 0, _, _ => none
  | n + 1, M, x4 =>
    if x1 ≤ x4 then (b_X11_goesBy_28  M x3) else (zbn (f_X11_oneHour M x2) (fun u_3 => znm (x4 + 1) (fun x4_4 => b_X11_goesBy_11  x1 x2 x3 n u_3 x4_4)))
set_option maxRecDepth 100000 in
set_option maxHeartbeats 4000000 in
theorem lb_X11_goesBy_11 (g : zG)  {r : Int32 × zM} (E : zX g p m c cX11_goesBy 5 s args (zWs yX11_goesBy cX11_goesBy 5 (some .int)) RX11) (hret : zRi g rE 15 p l e (zrm 14 0 0) s m args below meth c 0 0 Q cX11_goesBy .int (fun v M1 => r = (v, M1))) (x1 : Int32) (x2 : Int32) (x3 : Int32)  : ∀ (n : Nat) (M : zM) (x4 : Int32) (H : Heap) (locs : List Loc) (ls : Array Slot), b_X11_goesBy_11  x1 x2 x3 n M x4 = some r → zS g rE 15 s H locs M → lv_has ls 5 [(0, .ref (g.2.2 0)), (1, .int x1), (2, .int x2), (3, .int x3), (4, .int x4)] → W p l e (zrm 14 0 0) s m args below meth c H locs 0 0 Q (F0 m 11 ls []) := by
  have hx := E.1.1
  have hb := E.1.2.1
  intro n
  induction n with
  | zero => intro M x4 H locs ls h hZ hl; cases h
  | succ n ih =>
    intro M x4 H locs ls h hZ hl
    rw [b_X11_goesBy_11] at h
    refine lv_iload hx hb dX11_goesBy_11 (lv_at hl 4 rfl) ?_
    refine lv_iload_n hx hb dX11_goesBy_13 rfl (lv_at hl 1 rfl) ?_
    refine zic_ge (tgt := 28) h E dX11_goesBy_14 (by decide) (fun c_5 h => ?_) (fun c_5 h => ?_)
    · exact lb_X11_goesBy_28 g  E hret M x3  H locs ls h hZ (lv_sub hl [0, 3] rfl)
    · refine lv_aload_n hx hb dX11_goesBy_17 rfl (lv_at hl 0 rfl) ?_
      refine lv_iload_n hx hb dX11_goesBy_18 rfl (lv_at hl 2 rfl) ?_
      obtain ⟨u_3, qu_3, h⟩ := zbn_some h
      refine zcvS (zrunV E hZ (by decide) (re_0 _) rfl rfl v_X11_oneHour kw_1845 (c_X11_oneHour l g M  x2 qu_3 _) rfl hl.1 rfl (Nat.le_of_ble_eq_true rfl) ⟨by decide, by decide⟩ ⟨by decide, by decide⟩ dX11_goesBy_19) hZ (fun H locs hZ => ?_)
      obtain ⟨x4_4, ex4_4, h⟩ := znm_ex h
      refine lv_iinc (v := x4_4) (lv' := [(4, .int x4_4), (0, .ref (g.2.2 0)), (1, .int x1), (2, .int x2), (3, .int x3)]) hx hb dX11_goesBy_22 hl (k := 4) rfl (by rw [ex4_4]; rfl) (by decide) rfl (fun ls hl => ?_)
      refine lv_goto (tgt := 11) hx hb dX11_goesBy_25 (by decide) ?_
      exact ih u_3 x4_4 H locs ls h hZ (lv_sub hl [1, 2, 3, 4, 0] rfl)
def f_X11_goesBy (M : zM) (x1 : Int32) (x2 : Int32) : Option (Int32 × zM) :=
  zbn (f_X11_keptOnes M ) (fun u_6 => zbn (f_J6_bitCount_0f7a4 u_6) (fun u_7 => b_X11_goesBy_11  x1 x2 u_7 6000 M 0))
set_option maxRecDepth 100000 in
set_option maxHeartbeats 4000000 in
theorem w_X11_goesBy (g : zG)  {r : Int32 × zM} (E : zX g p m c cX11_goesBy 5 s args (zWs yX11_goesBy cX11_goesBy 5 (some .int)) RX11) (hret : zRi g rE 15 p l e (zrm 14 0 0) s m args below meth c 0 0 Q cX11_goesBy .int (fun v M1 => r = (v, M1))) (M : zM) (x1 : Int32) (x2 : Int32) (H : Heap) (locs : List Loc) (ls : Array Slot) (h : f_X11_goesBy M x1 x2 = some r) (hZ : zS g rE 15 s H locs M) (hl : lv_has ls 5 [(0, .ref (g.2.2 0)), (1, .int x1), (2, .int x2)]) : W p l e (zrm 14 0 0) s m args below meth c H locs 0 0 Q (F0 m 0 ls []) := by
  have hx := E.1.1
  have hb := E.1.2.1
  unfold f_X11_goesBy at h
  refine lv_aload_n hx hb dX11_goesBy_0 rfl (lv_at hl 0 rfl) ?_
  obtain ⟨u_6, qu_6, h⟩ := zbn_some h
  refine zciR (zrunV E hZ (by decide) (re_0 _) rfl rfl v_X11_keptOnes kw_1840 (c_X11_keptOnes l g M   qu_6 _) rfl hl.1 rfl (Nat.le_of_ble_eq_true rfl) ⟨by decide, by decide⟩ ⟨by decide, by decide⟩ dX11_goesBy_1) hZ (fun H locs hZ => ?_)
  obtain ⟨u_7, qu_7, h⟩ := zbn_some h
  refine zciR (zrunS E hZ v_J6_bitCount_0f7a4 kw_1844 (c_J6_bitCount_0f7a4 l g rE 15 M  u_6 qu_7 _) rfl hl.1 rfl (Nat.le_of_ble_eq_true rfl) ⟨by decide, by decide⟩ ⟨by decide, by decide⟩ dX11_goesBy_4) hZ (fun H locs hZ => ?_)
  refine lv_istore_n (lv' := [(3, .int u_7), (0, .ref (g.2.2 0)), (1, .int x1), (2, .int x2)]) hx hb dX11_goesBy_7 rfl hl (by decide) rfl (fun ls hl => ?_)
  refine lv_iconst (v := 0) hx hb dX11_goesBy_8 (by decide) ?_
  refine lv_istore (lv' := [(4, .int 0), (3, .int u_7), (0, .ref (g.2.2 0)), (1, .int x1), (2, .int x2)]) hx hb dX11_goesBy_9 hl (by decide) rfl (fun ls hl => ?_)
  exact lb_X11_goesBy_11 g  E hret x1 x2 u_7  6000 M 0 H locs ls h hZ (lv_sub hl [2, 3, 4, 1, 0] rfl)
theorem c_X11_goesBy (l : Launch) (g : zG) (M : zM)  (x1 : Int32) (x2 : Int32) {r : Int32 × zM} (h : f_X11_goesBy M x1 x2 = some r) : zMi l g rE 15 yX11_goesBy (zWs yX11_goesBy cX11_goesBy 5 (some .int)) 14 [.ref (g.2.2 0), .int x1, .int x2] M (fun v M1 => r = (v, M1)) :=
  zMi_of (by decide +kernel) (Nat.le_of_ble_eq_true rfl) (fun p e s m args below meth c Q ls E hret hZ hl => w_X11_goesBy g  E hret M x1 x2 _ _ ls h hZ hl)
theorem v_X11_goesBy : zYV yX11_goesBy cX11_goesBy 5 (some .int) 2 := ⟨kw_1839, kw_15, kw_1838, kp_90, by decide +kernel⟩

def b_X11_hours_21  (M : zM) (x1 : Int32) (t0 : Int32) : Option (Int32 × zM) :=
  zbn (f_X11_throwsIf M t0 1) (fun u_1 => if u_1.1 = 0 then (zbn (f_X11_remembers u_1.2 ) (fun u_2 => zbn (f_X11_goesBy u_2 x1 0) (fun u_3 => some (u_3.1, u_3.2)))) else (some (0, u_1.2)))
set_option maxRecDepth 100000 in
set_option maxHeartbeats 4000000 in
theorem lb_X11_hours_21 (g : zG)  {r : Int32 × zM} (E : zX g p m c cX11_hours 2 s args (zWs yX11_hours cX11_hours 2 (some .int)) RX11) (hret : zRi g rE 15 p l e (zrm 15 0 0) s m args below meth c 0 0 Q cX11_hours .int (fun v M1 => r = (v, M1))) (M : zM) (x1 : Int32) (t0 : Int32)  (H : Heap) (locs : List Loc) (ls : Array Slot) (h : b_X11_hours_21  M x1 t0 = some r) (hZ : zS g rE 15 s H locs M) (hl : lv_has ls 2 [(0, .ref (g.2.2 0)), (1, .int x1)]) : W p l e (zrm 15 0 0) s m args below meth c H locs 0 0 Q (F0 m 21 ls [.int t0, .ref (g.2.2 0)]) := by
  have hx := E.1.1
  have hb := E.1.2.1
  unfold b_X11_hours_21 at h
  refine lv_iconst (v := 1) hx hb dX11_hours_21 (by decide) ?_
  obtain ⟨u_1, qu_1, h⟩ := zbn_some h
  refine zciS (zrunV E hZ (by decide) (re_0 _) rfl rfl v_X11_throwsIf kw_1651 (c_X11_throwsIf l g M  t0 1 qu_1 _) rfl hl.1 rfl (Nat.le_of_ble_eq_true rfl) ⟨by decide, by decide⟩ ⟨by decide, by decide⟩ dX11_hours_22) hZ (fun H locs hZ => ?_)
  refine zif_eq (tgt := 30) h E dX11_hours_25 (by decide) (fun c_4 h => ?_) (fun c_4 h => ?_)
  · refine lv_aload_n hx hb dX11_hours_30 rfl (lv_at hl 0 rfl) ?_
    obtain ⟨u_2, qu_2, h⟩ := zbn_some h
    refine zcvS (zrunV E hZ (by decide) (re_0 _) rfl rfl v_X11_remembers kw_1801 (c_X11_remembers l g u_1.2   qu_2 _) rfl hl.1 rfl (Nat.le_of_ble_eq_true rfl) ⟨by decide, by decide⟩ ⟨by decide, by decide⟩ dX11_hours_31) hZ (fun H locs hZ => ?_)
    refine lv_aload_n hx hb dX11_hours_34 rfl (lv_at hl 0 rfl) ?_
    refine lv_iload_n hx hb dX11_hours_35 rfl (lv_at hl 1 rfl) ?_
    refine lv_iconst (v := 0) hx hb dX11_hours_36 (by decide) ?_
    obtain ⟨u_3, qu_3, h⟩ := zbn_some h
    refine zciS (zrunV E hZ (by decide) (re_0 _) rfl rfl v_X11_goesBy kw_1836 (c_X11_goesBy l g u_2  x1 0 qu_3 _) rfl hl.1 rfl (Nat.le_of_ble_eq_true rfl) ⟨by decide, by decide⟩ ⟨by decide, by decide⟩ dX11_hours_37) hZ (fun H locs hZ => ?_)
    exact hret _ _ _ _ _ _ (Option.some.inj h).symm rfl hZ dX11_hours_40
  · refine lv_iconst (v := 0) hx hb dX11_hours_28 (by decide) ?_
    exact hret _ _ _ _ _ _ (Option.some.inj h).symm rfl hZ dX11_hours_29
def f_X11_hours (M : zM) (x1 : Int32) : Option (Int32 × zM) :=
  znm (zu M 0 0 0) (fun M_5 => zbn (f_X11_in M_5 x1 1 100) (fun u_6 => if u_6 = 0 then (b_X11_hours_21  M_5 x1 1) else (b_X11_hours_21  M_5 x1 0)))
set_option maxRecDepth 100000 in
set_option maxHeartbeats 4000000 in
theorem w_X11_hours (g : zG)  {r : Int32 × zM} (E : zX g p m c cX11_hours 2 s args (zWs yX11_hours cX11_hours 2 (some .int)) RX11) (hret : zRi g rE 15 p l e (zrm 15 0 0) s m args below meth c 0 0 Q cX11_hours .int (fun v M1 => r = (v, M1))) (M : zM) (x1 : Int32) (H : Heap) (locs : List Loc) (ls : Array Slot) (h : f_X11_hours M x1 = some r) (hZ : zS g rE 15 s H locs M) (hl : lv_has ls 2 [(0, .ref (g.2.2 0)), (1, .int x1)]) : W p l e (zrm 15 0 0) s m args below meth c H locs 0 0 Q (F0 m 0 ls []) := by
  have hx := E.1.1
  have hb := E.1.2.1
  unfold f_X11_hours at h
  refine lv_aload_n hx hb dX11_hours_0 rfl (lv_at hl 0 rfl) ?_
  refine lv_iconst (v := 0) hx hb dX11_hours_1 (by decide) ?_
  refine zp h E hZ (by decide) (re_0 _) ((re_0 _).trans (congrArg (fun z => Sum.inr (10, z)) (fs_X11_0 g _ _ _))) kc_X11 (by decide) kw_1368 rfl rfl rfl (Nat.le_of_ble_eq_true rfl) dX11_hours_2 (fun M_5 H locs eM_5 h hZ => ?_)
  refine lv_aload_n hx hb dX11_hours_5 rfl (lv_at hl 0 rfl) ?_
  refine lv_iload_n hx hb dX11_hours_6 rfl (lv_at hl 1 rfl) ?_
  refine lv_iconst (v := 1) hx hb dX11_hours_7 (by decide) ?_
  refine lv_bipush (v := 100) hx hb dX11_hours_8 (by decide) ?_
  obtain ⟨u_6, qu_6, h⟩ := zbn_some h
  refine zciR (zrunS E hZ v_X11_in kw_1666 (c_X11_in l g M_5  x1 1 100 qu_6 _) rfl hl.1 rfl (Nat.le_of_ble_eq_true rfl) ⟨by decide, by decide⟩ ⟨by decide, by decide⟩ dX11_hours_10) hZ (fun H locs hZ => ?_)
  refine zif_ne (tgt := 20) h E dX11_hours_13 (by decide) (fun c_7 h => ?_) (fun c_7 h => ?_)
  · refine lv_iconst (v := 0) hx hb dX11_hours_20 (by decide) ?_
    exact lb_X11_hours_21 g  E hret M_5 x1 0  H locs ls h hZ (lv_sub hl [0, 1] rfl)
  · refine lv_iconst (v := 1) hx hb dX11_hours_16 (by decide) ?_
    refine lv_goto (tgt := 21) hx hb dX11_hours_17 (by decide) ?_
    exact lb_X11_hours_21 g  E hret M_5 x1 1  H locs ls h hZ (lv_sub hl [0, 1] rfl)
theorem c_X11_hours (l : Launch) (g : zG) (M : zM)  (x1 : Int32) {r : Int32 × zM} (h : f_X11_hours M x1 = some r) : zMi l g rE 15 yX11_hours (zWs yX11_hours cX11_hours 2 (some .int)) 15 [.ref (g.2.2 0), .int x1] M (fun v M1 => r = (v, M1)) :=
  zMi_of (by decide +kernel) (Nat.le_of_ble_eq_true rfl) (fun p e s m args below meth c Q ls E hret hZ hl => w_X11_hours g  E hret M x1 _ _ ls h hZ hl)
theorem v_X11_hours : zYV yX11_hours cX11_hours 2 (some .int) 1 := ⟨kw_1835, kw_15, kw_1833, kw_1834, by decide +kernel⟩

def b_X11_ahead_34  (M : zM) (x1 : Int32) (x2 : Int32) (t0 : Int32) : Option (Int32 × zM) :=
  zbn (f_X11_throwsIf M t0 2) (fun u_1 => if u_1.1 = 0 then (zbn (f_X11_keepsAll u_1.2 ) (fun u_2 => zbn (f_X11_goesBy u_2 x2 1) (fun u_3 => zbn (f_X11_of u_3.2 x1 0) (fun u_4 => zbn (f_X11_bringsBack u_3.2 ) (fun u_5 => some (u_4, u_5)))))) else (some (0, u_1.2)))
set_option maxRecDepth 100000 in
set_option maxHeartbeats 4000000 in
theorem lb_X11_ahead_34 (g : zG)  {r : Int32 × zM} (E : zX g p m c cX11_ahead 4 s args (zWs yX11_ahead cX11_ahead 4 (some .int)) RX11) (hret : zRi g rE 15 p l e (zrm 15 0 0) s m args below meth c 0 0 Q cX11_ahead .int (fun v M1 => r = (v, M1))) (M : zM) (x1 : Int32) (x2 : Int32) (t0 : Int32)  (H : Heap) (locs : List Loc) (ls : Array Slot) (h : b_X11_ahead_34  M x1 x2 t0 = some r) (hZ : zS g rE 15 s H locs M) (hl : lv_has ls 4 [(0, .ref (g.2.2 0)), (1, .int x1), (2, .int x2)]) : W p l e (zrm 15 0 0) s m args below meth c H locs 0 0 Q (F0 m 34 ls [.int t0, .ref (g.2.2 0)]) := by
  have hx := E.1.1
  have hb := E.1.2.1
  unfold b_X11_ahead_34 at h
  refine lv_iconst (v := 2) hx hb dX11_ahead_34 (by decide) ?_
  obtain ⟨u_1, qu_1, h⟩ := zbn_some h
  refine zciS (zrunV E hZ (by decide) (re_0 _) rfl rfl v_X11_throwsIf kw_1651 (c_X11_throwsIf l g M  t0 2 qu_1 _) rfl hl.1 rfl (Nat.le_of_ble_eq_true rfl) ⟨by decide, by decide⟩ ⟨by decide, by decide⟩ dX11_ahead_35) hZ (fun H locs hZ => ?_)
  refine zif_eq (tgt := 43) h E dX11_ahead_38 (by decide) (fun c_6 h => ?_) (fun c_6 h => ?_)
  · refine lv_aload_n hx hb dX11_ahead_43 rfl (lv_at hl 0 rfl) ?_
    obtain ⟨u_2, qu_2, h⟩ := zbn_some h
    refine zcvS (zrunV E hZ (by decide) (re_0 _) rfl rfl v_X11_keepsAll kw_1879 (c_X11_keepsAll l g u_1.2   qu_2 _) rfl hl.1 rfl (Nat.le_of_ble_eq_true rfl) ⟨by decide, by decide⟩ ⟨by decide, by decide⟩ dX11_ahead_44) hZ (fun H locs hZ => ?_)
    refine lv_aload_n hx hb dX11_ahead_47 rfl (lv_at hl 0 rfl) ?_
    refine lv_iload_n hx hb dX11_ahead_48 rfl (lv_at hl 2 rfl) ?_
    refine lv_iconst (v := 1) hx hb dX11_ahead_49 (by decide) ?_
    obtain ⟨u_3, qu_3, h⟩ := zbn_some h
    refine zciS (zrunV E hZ (by decide) (re_0 _) rfl rfl v_X11_goesBy kw_1836 (c_X11_goesBy l g u_2  x2 1 qu_3 _) rfl hl.1 rfl (Nat.le_of_ble_eq_true rfl) ⟨by decide, by decide⟩ ⟨by decide, by decide⟩ dX11_ahead_50) hZ (fun H locs hZ => ?_)
    refine lv_pop hx hb dX11_ahead_53 rfl ?_
    refine lv_aload_n hx hb dX11_ahead_54 rfl (lv_at hl 0 rfl) ?_
    refine lv_iload_n hx hb dX11_ahead_55 rfl (lv_at hl 1 rfl) ?_
    refine lv_iconst (v := 0) hx hb dX11_ahead_56 (by decide) ?_
    obtain ⟨u_4, qu_4, h⟩ := zbn_some h
    refine zciR (zrunV E hZ (by decide) (re_0 _) rfl rfl v_X11_of kw_1765 (c_X11_of l g u_3.2  x1 0 qu_4 _) rfl hl.1 rfl (Nat.le_of_ble_eq_true rfl) ⟨by decide, by decide⟩ ⟨by decide, by decide⟩ dX11_ahead_57) hZ (fun H locs hZ => ?_)
    refine lv_istore_n (lv' := [(3, .int u_4), (0, .ref (g.2.2 0)), (1, .int x1), (2, .int x2)]) hx hb dX11_ahead_60 rfl hl (by decide) rfl (fun ls hl => ?_)
    refine lv_aload_n hx hb dX11_ahead_61 rfl (lv_at hl 1 rfl) ?_
    obtain ⟨u_5, qu_5, h⟩ := zbn_some h
    refine zcvS (zrunV E hZ (by decide) (re_0 _) rfl rfl v_X11_bringsBack kw_1883 (c_X11_bringsBack l g u_3.2   qu_5 _) rfl hl.1 rfl (Nat.le_of_ble_eq_true rfl) ⟨by decide, by decide⟩ ⟨by decide, by decide⟩ dX11_ahead_62) hZ (fun H locs hZ => ?_)
    refine lv_iload_n hx hb dX11_ahead_65 rfl (lv_at hl 0 rfl) ?_
    exact hret _ _ _ _ _ _ (Option.some.inj h).symm rfl hZ dX11_ahead_66
  · refine lv_iconst (v := 0) hx hb dX11_ahead_41 (by decide) ?_
    exact hret _ _ _ _ _ _ (Option.some.inj h).symm rfl hZ dX11_ahead_42
def f_X11_ahead (M : zM) (x1 : Int32) (x2 : Int32) : Option (Int32 × zM) :=
  znm (zu M 0 0 0) (fun M_7 => zbn (f_X11_noMonk M_7 x1) (fun u_8 => zbn (f_X11_throwsIf M_7 u_8 1) (fun u_9 => if u_9.1 = 0 then (zbn (f_X11_in u_9.2 x2 0 100) (fun u_10 => if u_10 = 0 then (b_X11_ahead_34  u_9.2 x1 x2 1) else (b_X11_ahead_34  u_9.2 x1 x2 0))) else (some (0, u_9.2)))))
set_option maxRecDepth 100000 in
set_option maxHeartbeats 4000000 in
theorem w_X11_ahead (g : zG)  {r : Int32 × zM} (E : zX g p m c cX11_ahead 4 s args (zWs yX11_ahead cX11_ahead 4 (some .int)) RX11) (hret : zRi g rE 15 p l e (zrm 15 0 0) s m args below meth c 0 0 Q cX11_ahead .int (fun v M1 => r = (v, M1))) (M : zM) (x1 : Int32) (x2 : Int32) (H : Heap) (locs : List Loc) (ls : Array Slot) (h : f_X11_ahead M x1 x2 = some r) (hZ : zS g rE 15 s H locs M) (hl : lv_has ls 4 [(0, .ref (g.2.2 0)), (1, .int x1), (2, .int x2)]) : W p l e (zrm 15 0 0) s m args below meth c H locs 0 0 Q (F0 m 0 ls []) := by
  have hx := E.1.1
  have hb := E.1.2.1
  unfold f_X11_ahead at h
  refine lv_aload_n hx hb dX11_ahead_0 rfl (lv_at hl 0 rfl) ?_
  refine lv_iconst (v := 0) hx hb dX11_ahead_1 (by decide) ?_
  refine zp h E hZ (by decide) (re_0 _) ((re_0 _).trans (congrArg (fun z => Sum.inr (10, z)) (fs_X11_0 g _ _ _))) kc_X11 (by decide) kw_1368 rfl rfl rfl (Nat.le_of_ble_eq_true rfl) dX11_ahead_2 (fun M_7 H locs eM_7 h hZ => ?_)
  refine lv_aload_n hx hb dX11_ahead_5 rfl (lv_at hl 0 rfl) ?_
  refine lv_aload_n hx hb dX11_ahead_6 rfl (lv_at hl 0 rfl) ?_
  refine lv_iload_n hx hb dX11_ahead_7 rfl (lv_at hl 1 rfl) ?_
  obtain ⟨u_8, qu_8, h⟩ := zbn_some h
  refine zciR (zrunV E hZ (by decide) (re_0 _) rfl rfl v_X11_noMonk kw_1745 (c_X11_noMonk l g M_7  x1 qu_8 _) rfl hl.1 rfl (Nat.le_of_ble_eq_true rfl) ⟨by decide, by decide⟩ ⟨by decide, by decide⟩ dX11_ahead_8) hZ (fun H locs hZ => ?_)
  refine lv_iconst (v := 1) hx hb dX11_ahead_11 (by decide) ?_
  obtain ⟨u_9, qu_9, h⟩ := zbn_some h
  refine zciS (zrunV E hZ (by decide) (re_0 _) rfl rfl v_X11_throwsIf kw_1651 (c_X11_throwsIf l g M_7  u_8 1 qu_9 _) rfl hl.1 rfl (Nat.le_of_ble_eq_true rfl) ⟨by decide, by decide⟩ ⟨by decide, by decide⟩ dX11_ahead_12) hZ (fun H locs hZ => ?_)
  refine zif_ne (tgt := 41) h E dX11_ahead_15 (by decide) (fun c_12 h => ?_) (fun c_12 h => ?_)
  · refine lv_iconst (v := 0) hx hb dX11_ahead_41 (by decide) ?_
    exact hret _ _ _ _ _ _ (Option.some.inj h).symm rfl hZ dX11_ahead_42
  · refine lv_aload_n hx hb dX11_ahead_18 rfl (lv_at hl 0 rfl) ?_
    refine lv_iload_n hx hb dX11_ahead_19 rfl (lv_at hl 2 rfl) ?_
    refine lv_iconst (v := 0) hx hb dX11_ahead_20 (by decide) ?_
    refine lv_bipush (v := 100) hx hb dX11_ahead_21 (by decide) ?_
    obtain ⟨u_10, qu_10, h⟩ := zbn_some h
    refine zciR (zrunS E hZ v_X11_in kw_1666 (c_X11_in l g u_9.2  x2 0 100 qu_10 _) rfl hl.1 rfl (Nat.le_of_ble_eq_true rfl) ⟨by decide, by decide⟩ ⟨by decide, by decide⟩ dX11_ahead_23) hZ (fun H locs hZ => ?_)
    refine zif_ne (tgt := 33) h E dX11_ahead_26 (by decide) (fun c_11 h => ?_) (fun c_11 h => ?_)
    · refine lv_iconst (v := 0) hx hb dX11_ahead_33 (by decide) ?_
      exact lb_X11_ahead_34 g  E hret u_9.2 x1 x2 0  H locs ls h hZ (lv_sub hl [0, 1, 2] rfl)
    · refine lv_iconst (v := 1) hx hb dX11_ahead_29 (by decide) ?_
      refine lv_goto (tgt := 34) hx hb dX11_ahead_30 (by decide) ?_
      exact lb_X11_ahead_34 g  E hret u_9.2 x1 x2 1  H locs ls h hZ (lv_sub hl [0, 1, 2] rfl)
theorem c_X11_ahead (l : Launch) (g : zG) (M : zM)  (x1 : Int32) (x2 : Int32) {r : Int32 × zM} (h : f_X11_ahead M x1 x2 = some r) : zMi l g rE 15 yX11_ahead (zWs yX11_ahead cX11_ahead 4 (some .int)) 15 [.ref (g.2.2 0), .int x1, .int x2] M (fun v M1 => r = (v, M1)) :=
  zMi_of (by decide +kernel) (Nat.le_of_ble_eq_true rfl) (fun p e s m args below meth c Q ls E hret hZ hl => w_X11_ahead g  E hret M x1 x2 _ _ ls h hZ hl)
theorem v_X11_ahead : zYV yX11_ahead cX11_ahead 4 (some .int) 2 := ⟨kw_1878, kw_15, kw_1876, kw_1877, by decide +kernel⟩

def b_X11_doomed_21  (M : zM) (x1 : Int32) (t0 : Int32) : Option (Int32 × zM) :=
  zbn (f_X11_throwsIf M t0 1) (fun u_1 => if u_1.1 = 0 then (zbn (f_X11_drownedOnes u_1.2 ) (fun u_2 => zbn (f_X11_keepsAll u_1.2 ) (fun u_3 => zbn (f_X11_goesBy u_3 x1 1) (fun u_4 => zbn (f_X11_drownedOnes u_4.2 ) (fun u_5 => zbn (f_X11_bringsBack u_4.2 ) (fun u_6 => some (u_5 &&& (u_2 ^^^ ((-1))), u_6))))))) else (some (0, u_1.2)))
set_option maxRecDepth 100000 in
set_option maxHeartbeats 4000000 in
theorem lb_X11_doomed_21 (g : zG)  {r : Int32 × zM} (E : zX g p m c cX11_doomed 4 s args (zWs yX11_doomed cX11_doomed 4 (some .int)) RX11) (hret : zRi g rE 15 p l e (zrm 15 0 0) s m args below meth c 0 0 Q cX11_doomed .int (fun v M1 => r = (v, M1))) (M : zM) (x1 : Int32) (t0 : Int32)  (H : Heap) (locs : List Loc) (ls : Array Slot) (h : b_X11_doomed_21  M x1 t0 = some r) (hZ : zS g rE 15 s H locs M) (hl : lv_has ls 4 [(0, .ref (g.2.2 0)), (1, .int x1)]) : W p l e (zrm 15 0 0) s m args below meth c H locs 0 0 Q (F0 m 21 ls [.int t0, .ref (g.2.2 0)]) := by
  have hx := E.1.1
  have hb := E.1.2.1
  unfold b_X11_doomed_21 at h
  refine lv_iconst (v := 1) hx hb dX11_doomed_21 (by decide) ?_
  obtain ⟨u_1, qu_1, h⟩ := zbn_some h
  refine zciS (zrunV E hZ (by decide) (re_0 _) rfl rfl v_X11_throwsIf kw_1651 (c_X11_throwsIf l g M  t0 1 qu_1 _) rfl hl.1 rfl (Nat.le_of_ble_eq_true rfl) ⟨by decide, by decide⟩ ⟨by decide, by decide⟩ dX11_doomed_22) hZ (fun H locs hZ => ?_)
  refine zif_eq (tgt := 30) h E dX11_doomed_25 (by decide) (fun c_7 h => ?_) (fun c_7 h => ?_)
  · refine lv_aload_n hx hb dX11_doomed_30 rfl (lv_at hl 0 rfl) ?_
    obtain ⟨u_2, qu_2, h⟩ := zbn_some h
    refine zciR (zrunV E hZ (by decide) (re_0 _) rfl rfl v_X11_drownedOnes kw_1891 (c_X11_drownedOnes l g u_1.2   qu_2 _) rfl hl.1 rfl (Nat.le_of_ble_eq_true rfl) ⟨by decide, by decide⟩ ⟨by decide, by decide⟩ dX11_doomed_31) hZ (fun H locs hZ => ?_)
    refine lv_istore_n (lv' := [(2, .int u_2), (0, .ref (g.2.2 0)), (1, .int x1)]) hx hb dX11_doomed_34 rfl hl (by decide) rfl (fun ls hl => ?_)
    refine lv_aload_n hx hb dX11_doomed_35 rfl (lv_at hl 1 rfl) ?_
    obtain ⟨u_3, qu_3, h⟩ := zbn_some h
    refine zcvS (zrunV E hZ (by decide) (re_0 _) rfl rfl v_X11_keepsAll kw_1879 (c_X11_keepsAll l g u_1.2   qu_3 _) rfl hl.1 rfl (Nat.le_of_ble_eq_true rfl) ⟨by decide, by decide⟩ ⟨by decide, by decide⟩ dX11_doomed_36) hZ (fun H locs hZ => ?_)
    refine lv_aload_n hx hb dX11_doomed_39 rfl (lv_at hl 1 rfl) ?_
    refine lv_iload_n hx hb dX11_doomed_40 rfl (lv_at hl 2 rfl) ?_
    refine lv_iconst (v := 1) hx hb dX11_doomed_41 (by decide) ?_
    obtain ⟨u_4, qu_4, h⟩ := zbn_some h
    refine zciS (zrunV E hZ (by decide) (re_0 _) rfl rfl v_X11_goesBy kw_1836 (c_X11_goesBy l g u_3  x1 1 qu_4 _) rfl hl.1 rfl (Nat.le_of_ble_eq_true rfl) ⟨by decide, by decide⟩ ⟨by decide, by decide⟩ dX11_doomed_42) hZ (fun H locs hZ => ?_)
    refine lv_pop hx hb dX11_doomed_45 rfl ?_
    refine lv_aload_n hx hb dX11_doomed_46 rfl (lv_at hl 1 rfl) ?_
    obtain ⟨u_5, qu_5, h⟩ := zbn_some h
    refine zciR (zrunV E hZ (by decide) (re_0 _) rfl rfl v_X11_drownedOnes kw_1891 (c_X11_drownedOnes l g u_4.2   qu_5 _) rfl hl.1 rfl (Nat.le_of_ble_eq_true rfl) ⟨by decide, by decide⟩ ⟨by decide, by decide⟩ dX11_doomed_47) hZ (fun H locs hZ => ?_)
    refine lv_istore_n (lv' := [(3, .int u_5), (2, .int u_2), (0, .ref (g.2.2 0)), (1, .int x1)]) hx hb dX11_doomed_50 rfl hl (by decide) rfl (fun ls hl => ?_)
    refine lv_aload_n hx hb dX11_doomed_51 rfl (lv_at hl 2 rfl) ?_
    obtain ⟨u_6, qu_6, h⟩ := zbn_some h
    refine zcvS (zrunV E hZ (by decide) (re_0 _) rfl rfl v_X11_bringsBack kw_1883 (c_X11_bringsBack l g u_4.2   qu_6 _) rfl hl.1 rfl (Nat.le_of_ble_eq_true rfl) ⟨by decide, by decide⟩ ⟨by decide, by decide⟩ dX11_doomed_52) hZ (fun H locs hZ => ?_)
    refine lv_iload_n hx hb dX11_doomed_55 rfl (lv_at hl 0 rfl) ?_
    refine lv_iload_n hx hb dX11_doomed_56 rfl (lv_at hl 1 rfl) ?_
    refine lv_iconst (v := (-1)) hx hb dX11_doomed_57 (by decide) ?_
    refine lv_ixor hx hb dX11_doomed_58 ?_
    refine lv_iand hx hb dX11_doomed_59 ?_
    exact hret _ _ _ _ _ _ (Option.some.inj h).symm rfl hZ dX11_doomed_60
  · refine lv_iconst (v := 0) hx hb dX11_doomed_28 (by decide) ?_
    exact hret _ _ _ _ _ _ (Option.some.inj h).symm rfl hZ dX11_doomed_29
def f_X11_doomed (M : zM) (x1 : Int32) : Option (Int32 × zM) :=
  znm (zu M 0 0 0) (fun M_8 => zbn (f_X11_in M_8 x1 0 100) (fun u_9 => if u_9 = 0 then (b_X11_doomed_21  M_8 x1 1) else (b_X11_doomed_21  M_8 x1 0)))
set_option maxRecDepth 100000 in
set_option maxHeartbeats 4000000 in
theorem w_X11_doomed (g : zG)  {r : Int32 × zM} (E : zX g p m c cX11_doomed 4 s args (zWs yX11_doomed cX11_doomed 4 (some .int)) RX11) (hret : zRi g rE 15 p l e (zrm 15 0 0) s m args below meth c 0 0 Q cX11_doomed .int (fun v M1 => r = (v, M1))) (M : zM) (x1 : Int32) (H : Heap) (locs : List Loc) (ls : Array Slot) (h : f_X11_doomed M x1 = some r) (hZ : zS g rE 15 s H locs M) (hl : lv_has ls 4 [(0, .ref (g.2.2 0)), (1, .int x1)]) : W p l e (zrm 15 0 0) s m args below meth c H locs 0 0 Q (F0 m 0 ls []) := by
  have hx := E.1.1
  have hb := E.1.2.1
  unfold f_X11_doomed at h
  refine lv_aload_n hx hb dX11_doomed_0 rfl (lv_at hl 0 rfl) ?_
  refine lv_iconst (v := 0) hx hb dX11_doomed_1 (by decide) ?_
  refine zp h E hZ (by decide) (re_0 _) ((re_0 _).trans (congrArg (fun z => Sum.inr (10, z)) (fs_X11_0 g _ _ _))) kc_X11 (by decide) kw_1368 rfl rfl rfl (Nat.le_of_ble_eq_true rfl) dX11_doomed_2 (fun M_8 H locs eM_8 h hZ => ?_)
  refine lv_aload_n hx hb dX11_doomed_5 rfl (lv_at hl 0 rfl) ?_
  refine lv_iload_n hx hb dX11_doomed_6 rfl (lv_at hl 1 rfl) ?_
  refine lv_iconst (v := 0) hx hb dX11_doomed_7 (by decide) ?_
  refine lv_bipush (v := 100) hx hb dX11_doomed_8 (by decide) ?_
  obtain ⟨u_9, qu_9, h⟩ := zbn_some h
  refine zciR (zrunS E hZ v_X11_in kw_1666 (c_X11_in l g M_8  x1 0 100 qu_9 _) rfl hl.1 rfl (Nat.le_of_ble_eq_true rfl) ⟨by decide, by decide⟩ ⟨by decide, by decide⟩ dX11_doomed_10) hZ (fun H locs hZ => ?_)
  refine zif_ne (tgt := 20) h E dX11_doomed_13 (by decide) (fun c_10 h => ?_) (fun c_10 h => ?_)
  · refine lv_iconst (v := 0) hx hb dX11_doomed_20 (by decide) ?_
    exact lb_X11_doomed_21 g  E hret M_8 x1 0  H locs ls h hZ (lv_sub hl [0, 1] rfl)
  · refine lv_iconst (v := 1) hx hb dX11_doomed_16 (by decide) ?_
    refine lv_goto (tgt := 21) hx hb dX11_doomed_17 (by decide) ?_
    exact lb_X11_doomed_21 g  E hret M_8 x1 1  H locs ls h hZ (lv_sub hl [0, 1] rfl)
theorem c_X11_doomed (l : Launch) (g : zG) (M : zM)  (x1 : Int32) {r : Int32 × zM} (h : f_X11_doomed M x1 = some r) : zMi l g rE 15 yX11_doomed (zWs yX11_doomed cX11_doomed 4 (some .int)) 15 [.ref (g.2.2 0), .int x1] M (fun v M1 => r = (v, M1)) :=
  zMi_of (by decide +kernel) (Nat.le_of_ble_eq_true rfl) (fun p e s m args below meth c Q ls E hret hZ hl => w_X11_doomed g  E hret M x1 _ _ ls h hZ hl)
theorem v_X11_doomed : zYV yX11_doomed cX11_doomed 4 (some .int) 1 := ⟨kw_1890, kw_15, kw_1888, kw_1889, by decide +kernel⟩

def b_X11_done_21  (M : zM) (x1 : Int32) (t0 : Int32) : Option (Int32 × zM) :=
  zbn (f_X11_throwsIf M t0 1) (fun u_1 => if u_1.1 = 0 then (zbn (f_X11_keepsAll u_1.2 ) (fun u_2 => zbn (f_X11_goesBy u_2 x1 1) (fun u_3 => zbn (f_X11_keptOnes u_3.2 ) (fun u_4 => zbn (f_X11_bringsBack u_3.2 ) (fun u_5 => some (u_4, u_5)))))) else (some (0, u_1.2)))
set_option maxRecDepth 100000 in
set_option maxHeartbeats 4000000 in
theorem lb_X11_done_21 (g : zG)  {r : Int32 × zM} (E : zX g p m c cX11_done 3 s args (zWs yX11_done cX11_done 3 (some .int)) RX11) (hret : zRi g rE 15 p l e (zrm 15 0 0) s m args below meth c 0 0 Q cX11_done .int (fun v M1 => r = (v, M1))) (M : zM) (x1 : Int32) (t0 : Int32)  (H : Heap) (locs : List Loc) (ls : Array Slot) (h : b_X11_done_21  M x1 t0 = some r) (hZ : zS g rE 15 s H locs M) (hl : lv_has ls 3 [(0, .ref (g.2.2 0)), (1, .int x1)]) : W p l e (zrm 15 0 0) s m args below meth c H locs 0 0 Q (F0 m 21 ls [.int t0, .ref (g.2.2 0)]) := by
  have hx := E.1.1
  have hb := E.1.2.1
  unfold b_X11_done_21 at h
  refine lv_iconst (v := 1) hx hb dX11_done_21 (by decide) ?_
  obtain ⟨u_1, qu_1, h⟩ := zbn_some h
  refine zciS (zrunV E hZ (by decide) (re_0 _) rfl rfl v_X11_throwsIf kw_1651 (c_X11_throwsIf l g M  t0 1 qu_1 _) rfl hl.1 rfl (Nat.le_of_ble_eq_true rfl) ⟨by decide, by decide⟩ ⟨by decide, by decide⟩ dX11_done_22) hZ (fun H locs hZ => ?_)
  refine zif_eq (tgt := 30) h E dX11_done_25 (by decide) (fun c_6 h => ?_) (fun c_6 h => ?_)
  · refine lv_aload_n hx hb dX11_done_30 rfl (lv_at hl 0 rfl) ?_
    obtain ⟨u_2, qu_2, h⟩ := zbn_some h
    refine zcvS (zrunV E hZ (by decide) (re_0 _) rfl rfl v_X11_keepsAll kw_1879 (c_X11_keepsAll l g u_1.2   qu_2 _) rfl hl.1 rfl (Nat.le_of_ble_eq_true rfl) ⟨by decide, by decide⟩ ⟨by decide, by decide⟩ dX11_done_31) hZ (fun H locs hZ => ?_)
    refine lv_aload_n hx hb dX11_done_34 rfl (lv_at hl 0 rfl) ?_
    refine lv_iload_n hx hb dX11_done_35 rfl (lv_at hl 1 rfl) ?_
    refine lv_iconst (v := 1) hx hb dX11_done_36 (by decide) ?_
    obtain ⟨u_3, qu_3, h⟩ := zbn_some h
    refine zciS (zrunV E hZ (by decide) (re_0 _) rfl rfl v_X11_goesBy kw_1836 (c_X11_goesBy l g u_2  x1 1 qu_3 _) rfl hl.1 rfl (Nat.le_of_ble_eq_true rfl) ⟨by decide, by decide⟩ ⟨by decide, by decide⟩ dX11_done_37) hZ (fun H locs hZ => ?_)
    refine lv_pop hx hb dX11_done_40 rfl ?_
    refine lv_aload_n hx hb dX11_done_41 rfl (lv_at hl 0 rfl) ?_
    obtain ⟨u_4, qu_4, h⟩ := zbn_some h
    refine zciR (zrunV E hZ (by decide) (re_0 _) rfl rfl v_X11_keptOnes kw_1840 (c_X11_keptOnes l g u_3.2   qu_4 _) rfl hl.1 rfl (Nat.le_of_ble_eq_true rfl) ⟨by decide, by decide⟩ ⟨by decide, by decide⟩ dX11_done_42) hZ (fun H locs hZ => ?_)
    refine lv_istore_n (lv' := [(2, .int u_4), (0, .ref (g.2.2 0)), (1, .int x1)]) hx hb dX11_done_45 rfl hl (by decide) rfl (fun ls hl => ?_)
    refine lv_aload_n hx hb dX11_done_46 rfl (lv_at hl 1 rfl) ?_
    obtain ⟨u_5, qu_5, h⟩ := zbn_some h
    refine zcvS (zrunV E hZ (by decide) (re_0 _) rfl rfl v_X11_bringsBack kw_1883 (c_X11_bringsBack l g u_3.2   qu_5 _) rfl hl.1 rfl (Nat.le_of_ble_eq_true rfl) ⟨by decide, by decide⟩ ⟨by decide, by decide⟩ dX11_done_47) hZ (fun H locs hZ => ?_)
    refine lv_iload_n hx hb dX11_done_50 rfl (lv_at hl 0 rfl) ?_
    exact hret _ _ _ _ _ _ (Option.some.inj h).symm rfl hZ dX11_done_51
  · refine lv_iconst (v := 0) hx hb dX11_done_28 (by decide) ?_
    exact hret _ _ _ _ _ _ (Option.some.inj h).symm rfl hZ dX11_done_29
def f_X11_done (M : zM) (x1 : Int32) : Option (Int32 × zM) :=
  znm (zu M 0 0 0) (fun M_7 => zbn (f_X11_in M_7 x1 0 100) (fun u_8 => if u_8 = 0 then (b_X11_done_21  M_7 x1 1) else (b_X11_done_21  M_7 x1 0)))
set_option maxRecDepth 100000 in
set_option maxHeartbeats 4000000 in
theorem w_X11_done (g : zG)  {r : Int32 × zM} (E : zX g p m c cX11_done 3 s args (zWs yX11_done cX11_done 3 (some .int)) RX11) (hret : zRi g rE 15 p l e (zrm 15 0 0) s m args below meth c 0 0 Q cX11_done .int (fun v M1 => r = (v, M1))) (M : zM) (x1 : Int32) (H : Heap) (locs : List Loc) (ls : Array Slot) (h : f_X11_done M x1 = some r) (hZ : zS g rE 15 s H locs M) (hl : lv_has ls 3 [(0, .ref (g.2.2 0)), (1, .int x1)]) : W p l e (zrm 15 0 0) s m args below meth c H locs 0 0 Q (F0 m 0 ls []) := by
  have hx := E.1.1
  have hb := E.1.2.1
  unfold f_X11_done at h
  refine lv_aload_n hx hb dX11_done_0 rfl (lv_at hl 0 rfl) ?_
  refine lv_iconst (v := 0) hx hb dX11_done_1 (by decide) ?_
  refine zp h E hZ (by decide) (re_0 _) ((re_0 _).trans (congrArg (fun z => Sum.inr (10, z)) (fs_X11_0 g _ _ _))) kc_X11 (by decide) kw_1368 rfl rfl rfl (Nat.le_of_ble_eq_true rfl) dX11_done_2 (fun M_7 H locs eM_7 h hZ => ?_)
  refine lv_aload_n hx hb dX11_done_5 rfl (lv_at hl 0 rfl) ?_
  refine lv_iload_n hx hb dX11_done_6 rfl (lv_at hl 1 rfl) ?_
  refine lv_iconst (v := 0) hx hb dX11_done_7 (by decide) ?_
  refine lv_bipush (v := 100) hx hb dX11_done_8 (by decide) ?_
  obtain ⟨u_8, qu_8, h⟩ := zbn_some h
  refine zciR (zrunS E hZ v_X11_in kw_1666 (c_X11_in l g M_7  x1 0 100 qu_8 _) rfl hl.1 rfl (Nat.le_of_ble_eq_true rfl) ⟨by decide, by decide⟩ ⟨by decide, by decide⟩ dX11_done_10) hZ (fun H locs hZ => ?_)
  refine zif_ne (tgt := 20) h E dX11_done_13 (by decide) (fun c_9 h => ?_) (fun c_9 h => ?_)
  · refine lv_iconst (v := 0) hx hb dX11_done_20 (by decide) ?_
    exact lb_X11_done_21 g  E hret M_7 x1 0  H locs ls h hZ (lv_sub hl [0, 1] rfl)
  · refine lv_iconst (v := 1) hx hb dX11_done_16 (by decide) ?_
    refine lv_goto (tgt := 21) hx hb dX11_done_17 (by decide) ?_
    exact lb_X11_done_21 g  E hret M_7 x1 1  H locs ls h hZ (lv_sub hl [0, 1] rfl)
theorem c_X11_done (l : Launch) (g : zG) (M : zM)  (x1 : Int32) {r : Int32 × zM} (h : f_X11_done M x1 = some r) : zMi l g rE 15 yX11_done (zWs yX11_done cX11_done 3 (some .int)) 15 [.ref (g.2.2 0), .int x1] M (fun v M1 => r = (v, M1)) :=
  zMi_of (by decide +kernel) (Nat.le_of_ble_eq_true rfl) (fun p e s m args below meth c Q ls E hret hZ hl => w_X11_done g  E hret M x1 _ _ ls h hZ hl)
theorem v_X11_done : zYV yX11_done cX11_done 3 (some .int) 1 := ⟨kw_1898, kw_15, kw_1896, kw_1897, by decide +kernel⟩

def b_X11_lost_48 (K9 : Int32 → Int32 → Option (Int32 × zM)) (M : zM) (x2 : Int32) (t0 : Int32) (t1 : Int32) : Option (Int32 × zM) :=
  znm (t1 ||| t0) (fun x1_1 => znm (x2 + 1) (fun x2_2 => K9 x1_1 x2_2))
set_option maxRecDepth 100000 in
set_option maxHeartbeats 4000000 in
theorem lb_X11_lost_48 (g : zG)  {r : Int32 × zM} (E : zX g p m c cX11_lost 3 s args (zWs yX11_lost cX11_lost 3 (some .int)) RX11) (hret : zRi g rE 15 p l e (zrm 5 0 0) s m args below meth c 0 0 Q cX11_lost .int (fun v M1 => r = (v, M1))) (M : zM) (x2 : Int32) (t0 : Int32) (t1 : Int32) (K9 : Int32 → Int32 → Option (Int32 × zM)) (hK9 : ∀ (x1 : Int32) (x2 : Int32) (H : Heap) (locs : List Loc) (ls : Array Slot), K9 x1 x2 = some r → zS g rE 15 s H locs M → lv_has ls 3 [(0, .ref (g.2.2 0)), (1, .int x1), (2, .int x2)] → W p l e (zrm 5 0 0) s m args below meth c H locs 0 0 Q (F0 m 9 ls [])) (H : Heap) (locs : List Loc) (ls : Array Slot) (h : b_X11_lost_48 K9 M x2 t0 t1 = some r) (hZ : zS g rE 15 s H locs M) (hl : lv_has ls 3 [(0, .ref (g.2.2 0)), (2, .int x2)]) : W p l e (zrm 5 0 0) s m args below meth c H locs 0 0 Q (F0 m 48 ls [.int t0, .int t1]) := by
  have hx := E.1.1
  have hb := E.1.2.1
  unfold b_X11_lost_48 at h
  refine lv_ior hx hb dX11_lost_48 ?_
  refine zni h (fun x1_1 ex1_1 h => ?_)
  refine lv_istore_n (lv' := [(1, .int x1_1), (0, .ref (g.2.2 0)), (2, .int x2)]) hx hb dX11_lost_49 rfl hl (by decide) rfl (fun ls hl => ?_)
  obtain ⟨x2_2, ex2_2, h⟩ := znm_ex h
  refine lv_iinc (v := x2_2) (lv' := [(2, .int x2_2), (1, .int x1_1), (0, .ref (g.2.2 0))]) hx hb dX11_lost_50 hl (k := 2) rfl (by rw [ex2_2]; rfl) (by decide) rfl (fun ls hl => ?_)
  refine lv_goto (tgt := 9) hx hb dX11_lost_53 (by decide) ?_
  exact hK9 x1_1 x2_2 H locs ls h hZ (lv_sub hl [2, 1, 0] rfl)
def b_X11_lost_47 (K9 : Int32 → Int32 → Option (Int32 × zM)) (M : zM) (x2 : Int32) (t0 : Int32) : Option (Int32 × zM) :=
  b_X11_lost_48 K9 M x2 0 t0
set_option maxRecDepth 100000 in
set_option maxHeartbeats 4000000 in
theorem lb_X11_lost_47 (g : zG)  {r : Int32 × zM} (E : zX g p m c cX11_lost 3 s args (zWs yX11_lost cX11_lost 3 (some .int)) RX11) (hret : zRi g rE 15 p l e (zrm 5 0 0) s m args below meth c 0 0 Q cX11_lost .int (fun v M1 => r = (v, M1))) (M : zM) (x2 : Int32) (t0 : Int32) (K9 : Int32 → Int32 → Option (Int32 × zM)) (hK9 : ∀ (x1 : Int32) (x2 : Int32) (H : Heap) (locs : List Loc) (ls : Array Slot), K9 x1 x2 = some r → zS g rE 15 s H locs M → lv_has ls 3 [(0, .ref (g.2.2 0)), (1, .int x1), (2, .int x2)] → W p l e (zrm 5 0 0) s m args below meth c H locs 0 0 Q (F0 m 9 ls [])) (H : Heap) (locs : List Loc) (ls : Array Slot) (h : b_X11_lost_47 K9 M x2 t0 = some r) (hZ : zS g rE 15 s H locs M) (hl : lv_has ls 3 [(0, .ref (g.2.2 0)), (2, .int x2)]) : W p l e (zrm 5 0 0) s m args below meth c H locs 0 0 Q (F0 m 47 ls [.int t0]) := by
  have hx := E.1.1
  have hb := E.1.2.1
  unfold b_X11_lost_47 at h
  refine lv_iconst (v := 0) hx hb dX11_lost_47 (by decide) ?_
  exact lb_X11_lost_48 g  E hret M x2 0 t0 K9 hK9 H locs ls h hZ (lv_sub hl [0, 1] rfl)
def b_X11_lost_9  (M : zM) : Nat → Int32 → Int32 → Option (Int32 × zM)
  | 0, _, _ => none
  | n + 1, x1, x2 =>
    zbn (f_X11_duties M ) (fun u_3 => if u_3 ≤ x2 then (some (x1, M)) else (zbn (f_X11_isKept M x2) (fun u_4 => if u_4 = 0 then (zbn (f_X11_ofDuty M x2 2) (fun u_5 => zck (zin 4 2030) (if (M 1 (4 : Int32).toNatClampNeg) ≤ u_5 then (b_X11_lost_47 (fun x1 x2 => b_X11_lost_9  M n x1 x2) M x2 x1) else (b_X11_lost_48 (fun x1 x2 => b_X11_lost_9  M n x1 x2) M x2 ((1 : Int32) <<< (x2 &&& 31)) x1)))) else (b_X11_lost_47 (fun x1 x2 => b_X11_lost_9  M n x1 x2) M x2 x1))))
set_option maxRecDepth 100000 in
set_option maxHeartbeats 4000000 in
theorem lb_X11_lost_9 (g : zG)  {r : Int32 × zM} (E : zX g p m c cX11_lost 3 s args (zWs yX11_lost cX11_lost 3 (some .int)) RX11) (hret : zRi g rE 15 p l e (zrm 5 0 0) s m args below meth c 0 0 Q cX11_lost .int (fun v M1 => r = (v, M1))) (M : zM)  : ∀ (n : Nat) (x1 : Int32) (x2 : Int32) (H : Heap) (locs : List Loc) (ls : Array Slot), b_X11_lost_9  M n x1 x2 = some r → zS g rE 15 s H locs M → lv_has ls 3 [(0, .ref (g.2.2 0)), (1, .int x1), (2, .int x2)] → W p l e (zrm 5 0 0) s m args below meth c H locs 0 0 Q (F0 m 9 ls []) := by
  have hx := E.1.1
  have hb := E.1.2.1
  intro n
  induction n with
  | zero => intro x1 x2 H locs ls h hZ hl; cases h
  | succ n ih =>
    intro x1 x2 H locs ls h hZ hl
    rw [b_X11_lost_9] at h
    refine lv_iload_n hx hb dX11_lost_9 rfl (lv_at hl 2 rfl) ?_
    refine lv_aload_n hx hb dX11_lost_10 rfl (lv_at hl 0 rfl) ?_
    obtain ⟨u_3, qu_3, h⟩ := zbn_some h
    refine zciR (zrunV E hZ (by decide) (re_0 _) rfl rfl v_X11_duties kw_1580 (c_X11_duties l g M   qu_3 _) rfl hl.1 rfl (Nat.le_of_ble_eq_true rfl) ⟨by decide, by decide⟩ ⟨by decide, by decide⟩ dX11_lost_11) hZ (fun H locs hZ => ?_)
    refine zic_ge (tgt := 56) h E dX11_lost_14 (by decide) (fun c_8 h => ?_) (fun c_8 h => ?_)
    · refine lv_iload_n hx hb dX11_lost_56 rfl (lv_at hl 1 rfl) ?_
      exact hret _ _ _ _ _ _ (Option.some.inj h).symm rfl hZ dX11_lost_57
    · refine lv_iload_n hx hb dX11_lost_17 rfl (lv_at hl 1 rfl) ?_
      refine lv_aload_n hx hb dX11_lost_18 rfl (lv_at hl 0 rfl) ?_
      refine lv_iload_n hx hb dX11_lost_19 rfl (lv_at hl 2 rfl) ?_
      obtain ⟨u_4, qu_4, h⟩ := zbn_some h
      refine zciR (zrunV E hZ (by decide) (re_0 _) rfl rfl v_X11_isKept kw_1828 (c_X11_isKept l g M  x2 qu_4 _) rfl hl.1 rfl (Nat.le_of_ble_eq_true rfl) ⟨by decide, by decide⟩ ⟨by decide, by decide⟩ dX11_lost_20) hZ (fun H locs hZ => ?_)
      refine zif_ne (tgt := 47) h E dX11_lost_23 (by decide) (fun c_7 h => ?_) (fun c_7 h => ?_)
      · exact lb_X11_lost_47 g  E hret M x2 x1 (fun x1 x2 => b_X11_lost_9  M n x1 x2) ih H locs ls h hZ (lv_sub hl [0, 2] rfl)
      · refine lv_aload_n hx hb dX11_lost_26 rfl (lv_at hl 0 rfl) ?_
        refine lv_iload_n hx hb dX11_lost_27 rfl (lv_at hl 2 rfl) ?_
        refine lv_iconst (v := 2) hx hb dX11_lost_28 (by decide) ?_
        obtain ⟨u_5, qu_5, h⟩ := zbn_some h
        refine zciR (zrunV E hZ (by decide) (re_0 _) rfl rfl v_X11_ofDuty kw_1789 (c_X11_ofDuty l g M  x2 2 qu_5 _) rfl hl.1 rfl (Nat.le_of_ble_eq_true rfl) ⟨by decide, by decide⟩ ⟨by decide, by decide⟩ dX11_lost_29) hZ (fun H locs hZ => ?_)
        refine lv_aload_n hx hb dX11_lost_32 rfl (lv_at hl 0 rfl) ?_
        refine zg (v := .ref (g.2.2 1)) E hZ (by decide) (re_0 _) kc_X11 1 (by decide) kw_1369 rfl rfl dX11_lost_33 ?_
        refine lv_iconst (v := 4) hx hb dX11_lost_36 (by decide) ?_
        refine zia h E hZ (by decide) re_1 dX11_lost_37 (fun h => ?_)
        refine zic_ge (tgt := 47) h E dX11_lost_38 (by decide) (fun c_6 h => ?_) (fun c_6 h => ?_)
        · exact lb_X11_lost_47 g  E hret M x2 x1 (fun x1 x2 => b_X11_lost_9  M n x1 x2) ih H locs ls h hZ (lv_sub hl [0, 2] rfl)
        · refine lv_iconst (v := 1) hx hb dX11_lost_41 (by decide) ?_
          refine lv_iload_n hx hb dX11_lost_42 rfl (lv_at hl 2 rfl) ?_
          refine lv_ishl hx hb dX11_lost_43 ?_
          refine lv_goto (tgt := 48) hx hb dX11_lost_44 (by decide) ?_
          exact lb_X11_lost_48 g  E hret M x2 ((1 : Int32) <<< (x2 &&& 31)) x1 (fun x1 x2 => b_X11_lost_9  M n x1 x2) ih H locs ls h hZ (lv_sub hl [0, 2] rfl)
def f_X11_lost (M : zM)  : Option (Int32 × zM) :=
  znm (zu M 0 0 0) (fun M_9 => b_X11_lost_9  M_9 6000 0 0)
set_option maxRecDepth 100000 in
set_option maxHeartbeats 4000000 in
theorem w_X11_lost (g : zG)  {r : Int32 × zM} (E : zX g p m c cX11_lost 3 s args (zWs yX11_lost cX11_lost 3 (some .int)) RX11) (hret : zRi g rE 15 p l e (zrm 5 0 0) s m args below meth c 0 0 Q cX11_lost .int (fun v M1 => r = (v, M1))) (M : zM)  (H : Heap) (locs : List Loc) (ls : Array Slot) (h : f_X11_lost M  = some r) (hZ : zS g rE 15 s H locs M) (hl : lv_has ls 3 [(0, .ref (g.2.2 0))]) : W p l e (zrm 5 0 0) s m args below meth c H locs 0 0 Q (F0 m 0 ls []) := by
  have hx := E.1.1
  have hb := E.1.2.1
  unfold f_X11_lost at h
  refine lv_aload_n hx hb dX11_lost_0 rfl (lv_at hl 0 rfl) ?_
  refine lv_iconst (v := 0) hx hb dX11_lost_1 (by decide) ?_
  refine zp h E hZ (by decide) (re_0 _) ((re_0 _).trans (congrArg (fun z => Sum.inr (10, z)) (fs_X11_0 g _ _ _))) kc_X11 (by decide) kw_1368 rfl rfl rfl (Nat.le_of_ble_eq_true rfl) dX11_lost_2 (fun M_9 H locs eM_9 h hZ => ?_)
  refine lv_iconst (v := 0) hx hb dX11_lost_5 (by decide) ?_
  refine lv_istore_n (lv' := [(1, .int 0), (0, .ref (g.2.2 0))]) hx hb dX11_lost_6 rfl hl (by decide) rfl (fun ls hl => ?_)
  refine lv_iconst (v := 0) hx hb dX11_lost_7 (by decide) ?_
  refine lv_istore_n (lv' := [(2, .int 0), (1, .int 0), (0, .ref (g.2.2 0))]) hx hb dX11_lost_8 rfl hl (by decide) rfl (fun ls hl => ?_)
  exact lb_X11_lost_9 g  E hret M_9  6000 0 0 H locs ls h hZ (lv_sub hl [2, 1, 0] rfl)
theorem c_X11_lost (l : Launch) (g : zG) (M : zM)   {r : Int32 × zM} (h : f_X11_lost M  = some r) : zMi l g rE 15 yX11_lost (zWs yX11_lost cX11_lost 3 (some .int)) 5 [.ref (g.2.2 0)] M (fun v M1 => r = (v, M1)) :=
  zMi_of (by decide +kernel) (Nat.le_of_ble_eq_true rfl) (fun p e s m args below meth c Q ls E hret hZ hl => w_X11_lost g  E hret M  _ _ ls h hZ hl)
theorem v_X11_lost : zYV yX11_lost cX11_lost 3 (some .int) 0 := ⟨kw_1902, kw_15, kw_1900, kw_1901, by decide +kernel⟩

def f_X11_isDeep (M : zM) (x1 : Int32) (x2 : Int32) : Option (Int32) :=
  zbn (f_X11_noPlace M x1) (fun u_1 => if u_1 = 0 then (zbn (f_X11_depthNow M x1) (fun u_2 => if u_2 ≤ x2 then (some 0) else (some 1))) else (some 1))
set_option maxRecDepth 100000 in
set_option maxHeartbeats 4000000 in
theorem w_X11_isDeep (g : zG)  {r : Int32} {M0 : zM} (E : zX g p m c cX11_isDeep 3 s args (zWs yX11_isDeep cX11_isDeep 3 (some .boolean)) RX11) (hret : zRi g rE 15 p l e (zrm 8 0 0) s m args below meth c 0 0 Q cX11_isDeep .boolean (fun v M1 => v = r ∧ M1 = M0)) (M : zM) (hM : M = M0) (x1 : Int32) (x2 : Int32) (H : Heap) (locs : List Loc) (ls : Array Slot) (h : f_X11_isDeep M x1 x2 = some r) (hZ : zS g rE 15 s H locs M) (hl : lv_has ls 3 [(0, .ref (g.2.2 0)), (1, .int x1), (2, .int x2)]) : W p l e (zrm 8 0 0) s m args below meth c H locs 0 0 Q (F0 m 0 ls []) := by
  have hx := E.1.1
  have hb := E.1.2.1
  unfold f_X11_isDeep at h
  refine lv_iload_n hx hb dX11_isDeep_0 rfl (lv_at hl 1 rfl) ?_
  obtain ⟨u_1, qu_1, h⟩ := zbn_some h
  refine zciR (zrunS E hZ v_X11_noPlace kw_1663 (c_X11_noPlace l g M  x1 qu_1 _) rfl hl.1 rfl (Nat.le_of_ble_eq_true rfl) ⟨by decide, by decide⟩ ⟨by decide, by decide⟩ dX11_isDeep_1) hZ (fun H locs hZ => ?_)
  refine zif_ne (tgt := 16) h E dX11_isDeep_4 (by decide) (fun c_4 h => ?_) (fun c_4 h => ?_)
  · refine lv_iconst (v := 1) hx hb dX11_isDeep_16 (by decide) ?_
    refine lv_goto (tgt := 21) hx hb dX11_isDeep_17 (by decide) ?_
    exact hret _ _ _ _ _ _ ⟨Option.some.inj h, hM⟩ rfl hZ dX11_isDeep_21
  · refine lv_aload_n hx hb dX11_isDeep_7 rfl (lv_at hl 0 rfl) ?_
    refine lv_iload_n hx hb dX11_isDeep_8 rfl (lv_at hl 1 rfl) ?_
    obtain ⟨u_2, qu_2, h⟩ := zbn_some h
    refine zciR (zrunV E hZ (by decide) (re_0 _) rfl rfl v_X11_depthNow kw_1769 (c_X11_depthNow l g M  x1 qu_2 _) rfl hl.1 rfl (Nat.le_of_ble_eq_true rfl) ⟨by decide, by decide⟩ ⟨by decide, by decide⟩ dX11_isDeep_9) hZ (fun H locs hZ => ?_)
    refine lv_iload_n hx hb dX11_isDeep_12 rfl (lv_at hl 2 rfl) ?_
    refine zic_le (tgt := 20) h E dX11_isDeep_13 (by decide) (fun c_3 h => ?_) (fun c_3 h => ?_)
    · refine lv_iconst (v := 0) hx hb dX11_isDeep_20 (by decide) ?_
      exact hret _ _ _ _ _ _ ⟨Option.some.inj h, hM⟩ rfl hZ dX11_isDeep_21
    · refine lv_iconst (v := 1) hx hb dX11_isDeep_16 (by decide) ?_
      refine lv_goto (tgt := 21) hx hb dX11_isDeep_17 (by decide) ?_
      exact hret _ _ _ _ _ _ ⟨Option.some.inj h, hM⟩ rfl hZ dX11_isDeep_21
theorem c_X11_isDeep (l : Launch) (g : zG) (M : zM)  (x1 : Int32) (x2 : Int32) {r : Int32} (h : f_X11_isDeep M x1 x2 = some r) : zMi l g rE 15 yX11_isDeep (zWs yX11_isDeep cX11_isDeep 3 (some .boolean)) 8 [.ref (g.2.2 0), .int x1, .int x2] M (fun v M1 => v = r ∧ M1 = M) :=
  zMi_of (by decide +kernel) (Nat.le_of_ble_eq_true rfl) (fun p e s m args below meth c Q ls E hret hZ hl => w_X11_isDeep g  E hret M rfl x1 x2 _ _ ls h hZ hl)
theorem v_X11_isDeep : zYV yX11_isDeep cX11_isDeep 3 (some .boolean) 2 := ⟨kw_1910, kw_15, kw_1909, kp_102, by decide +kernel⟩

def b_X11_stranded_79 (K9 : zM → Int32 → Int32 → Option (Int32 × zM)) (M : zM) (x2 : Int32) (t0 : Int32) (t1 : Int32) : Option (Int32 × zM) :=
  znm (t1 ||| t0) (fun x1_1 => znm (x2 + 1) (fun x2_2 => K9 M x1_1 x2_2))
set_option maxRecDepth 100000 in
set_option maxHeartbeats 4000000 in
theorem lb_X11_stranded_79 (g : zG)  {r : Int32 × zM} (E : zX g p m c cX11_stranded 5 s args (zWs yX11_stranded cX11_stranded 5 (some .int)) RX11) (hret : zRi g rE 15 p l e (zrm 12 0 0) s m args below meth c 0 0 Q cX11_stranded .int (fun v M1 => r = (v, M1))) (M : zM) (x2 : Int32) (t0 : Int32) (t1 : Int32) (K9 : zM → Int32 → Int32 → Option (Int32 × zM)) (hK9 : ∀ (M : zM) (x1 : Int32) (x2 : Int32) (H : Heap) (locs : List Loc) (ls : Array Slot), K9 M x1 x2 = some r → zS g rE 15 s H locs M → lv_has ls 5 [(0, .ref (g.2.2 0)), (1, .int x1), (2, .int x2)] → W p l e (zrm 12 0 0) s m args below meth c H locs 0 0 Q (F0 m 9 ls [])) (H : Heap) (locs : List Loc) (ls : Array Slot) (h : b_X11_stranded_79 K9 M x2 t0 t1 = some r) (hZ : zS g rE 15 s H locs M) (hl : lv_has ls 5 [(0, .ref (g.2.2 0)), (2, .int x2)]) : W p l e (zrm 12 0 0) s m args below meth c H locs 0 0 Q (F0 m 79 ls [.int t0, .int t1]) := by
  have hx := E.1.1
  have hb := E.1.2.1
  unfold b_X11_stranded_79 at h
  refine lv_ior hx hb dX11_stranded_79 ?_
  refine zni h (fun x1_1 ex1_1 h => ?_)
  refine lv_istore_n (lv' := [(1, .int x1_1), (0, .ref (g.2.2 0)), (2, .int x2)]) hx hb dX11_stranded_80 rfl hl (by decide) rfl (fun ls hl => ?_)
  obtain ⟨x2_2, ex2_2, h⟩ := znm_ex h
  refine lv_iinc (v := x2_2) (lv' := [(2, .int x2_2), (1, .int x1_1), (0, .ref (g.2.2 0))]) hx hb dX11_stranded_81 hl (k := 2) rfl (by rw [ex2_2]; rfl) (by decide) rfl (fun ls hl => ?_)
  refine lv_goto (tgt := 9) hx hb dX11_stranded_84 (by decide) ?_
  exact hK9 M x1_1 x2_2 H locs ls h hZ (lv_sub hl [2, 1, 0] rfl)
def b_X11_stranded_78 (K9 : zM → Int32 → Int32 → Option (Int32 × zM)) (M : zM) (x2 : Int32) (t0 : Int32) : Option (Int32 × zM) :=
  b_X11_stranded_79 K9 M x2 0 t0
set_option maxRecDepth 100000 in
set_option maxHeartbeats 4000000 in
theorem lb_X11_stranded_78 (g : zG)  {r : Int32 × zM} (E : zX g p m c cX11_stranded 5 s args (zWs yX11_stranded cX11_stranded 5 (some .int)) RX11) (hret : zRi g rE 15 p l e (zrm 12 0 0) s m args below meth c 0 0 Q cX11_stranded .int (fun v M1 => r = (v, M1))) (M : zM) (x2 : Int32) (t0 : Int32) (K9 : zM → Int32 → Int32 → Option (Int32 × zM)) (hK9 : ∀ (M : zM) (x1 : Int32) (x2 : Int32) (H : Heap) (locs : List Loc) (ls : Array Slot), K9 M x1 x2 = some r → zS g rE 15 s H locs M → lv_has ls 5 [(0, .ref (g.2.2 0)), (1, .int x1), (2, .int x2)] → W p l e (zrm 12 0 0) s m args below meth c H locs 0 0 Q (F0 m 9 ls [])) (H : Heap) (locs : List Loc) (ls : Array Slot) (h : b_X11_stranded_78 K9 M x2 t0 = some r) (hZ : zS g rE 15 s H locs M) (hl : lv_has ls 5 [(0, .ref (g.2.2 0)), (2, .int x2)]) : W p l e (zrm 12 0 0) s m args below meth c H locs 0 0 Q (F0 m 78 ls [.int t0]) := by
  have hx := E.1.1
  have hb := E.1.2.1
  unfold b_X11_stranded_78 at h
  refine lv_iconst (v := 0) hx hb dX11_stranded_78 (by decide) ?_
  exact lb_X11_stranded_79 g  E hret M x2 0 t0 K9 hK9 H locs ls h hZ (lv_sub hl [0, 1] rfl)
def b_X11_stranded_9   : Nat → zM → Int32 → Int32 → Option (Int32 × zM)
  | 0, _, _, _ => none
  | n + 1, M, x1, x2 =>
    zbn (f_X11_monks M ) (fun u_3 => if u_3 ≤ x2 then (some (x1, M)) else (zbn (f_X11_of M x2 0) (fun u_4 => zbn (f_X11_wadesBy M x2) (fun u_5 => zbn (f_X11_isDrowned u_5.2 x2) (fun u_6 => if u_6 = 0 then (zbn (f_X11_depthNow u_5.2 u_4) (fun u_7 => if u_7 = 0 then (zbn (f_X11_isDeep u_5.2 (u_4 - 1) u_5.1) (fun u_8 => if u_8 = 0 then (b_X11_stranded_78 (fun M x1 x2 => b_X11_stranded_9   n M x1 x2) u_5.2 x2 x1) else (zbn (f_X11_isDeep u_5.2 (u_4 + 1) u_5.1) (fun u_9 => if u_9 = 0 then (b_X11_stranded_78 (fun M x1 x2 => b_X11_stranded_9   n M x1 x2) u_5.2 x2 x1) else (b_X11_stranded_79 (fun M x1 x2 => b_X11_stranded_9   n M x1 x2) u_5.2 x2 ((1 : Int32) <<< (x2 &&& 31)) x1))))) else (b_X11_stranded_78 (fun M x1 x2 => b_X11_stranded_9   n M x1 x2) u_5.2 x2 x1))) else (b_X11_stranded_78 (fun M x1 x2 => b_X11_stranded_9   n M x1 x2) u_5.2 x2 x1))))))
set_option maxRecDepth 100000 in
set_option maxHeartbeats 4000000 in
theorem lb_X11_stranded_9 (g : zG)  {r : Int32 × zM} (E : zX g p m c cX11_stranded 5 s args (zWs yX11_stranded cX11_stranded 5 (some .int)) RX11) (hret : zRi g rE 15 p l e (zrm 12 0 0) s m args below meth c 0 0 Q cX11_stranded .int (fun v M1 => r = (v, M1)))   : ∀ (n : Nat) (M : zM) (x1 : Int32) (x2 : Int32) (H : Heap) (locs : List Loc) (ls : Array Slot), b_X11_stranded_9   n M x1 x2 = some r → zS g rE 15 s H locs M → lv_has ls 5 [(0, .ref (g.2.2 0)), (1, .int x1), (2, .int x2)] → W p l e (zrm 12 0 0) s m args below meth c H locs 0 0 Q (F0 m 9 ls []) := by
  have hx := E.1.1
  have hb := E.1.2.1
  intro n
  induction n with
  | zero => intro M x1 x2 H locs ls h hZ hl; cases h
  | succ n ih =>
    intro M x1 x2 H locs ls h hZ hl
    rw [b_X11_stranded_9] at h
    refine lv_iload_n hx hb dX11_stranded_9 rfl (lv_at hl 2 rfl) ?_
    refine lv_aload_n hx hb dX11_stranded_10 rfl (lv_at hl 0 rfl) ?_
    obtain ⟨u_3, qu_3, h⟩ := zbn_some h
    refine zciR (zrunV E hZ (by decide) (re_0 _) rfl rfl v_X11_monks kw_1562 (c_X11_monks l g M   qu_3 _) rfl hl.1 rfl (Nat.le_of_ble_eq_true rfl) ⟨by decide, by decide⟩ ⟨by decide, by decide⟩ dX11_stranded_11) hZ (fun H locs hZ => ?_)
    refine zic_ge (tgt := 87) h E dX11_stranded_14 (by decide) (fun c_14 h => ?_) (fun c_14 h => ?_)
    · refine lv_iload_n hx hb dX11_stranded_87 rfl (lv_at hl 1 rfl) ?_
      exact hret _ _ _ _ _ _ (Option.some.inj h).symm rfl hZ dX11_stranded_88
    · refine lv_aload_n hx hb dX11_stranded_17 rfl (lv_at hl 0 rfl) ?_
      refine lv_iload_n hx hb dX11_stranded_18 rfl (lv_at hl 2 rfl) ?_
      refine lv_iconst (v := 0) hx hb dX11_stranded_19 (by decide) ?_
      obtain ⟨u_4, qu_4, h⟩ := zbn_some h
      refine zciR (zrunV E hZ (by decide) (re_0 _) rfl rfl v_X11_of kw_1765 (c_X11_of l g M  x2 0 qu_4 _) rfl hl.1 rfl (Nat.le_of_ble_eq_true rfl) ⟨by decide, by decide⟩ ⟨by decide, by decide⟩ dX11_stranded_20) hZ (fun H locs hZ => ?_)
      refine lv_istore_n (lv' := [(3, .int u_4), (0, .ref (g.2.2 0)), (1, .int x1), (2, .int x2)]) hx hb dX11_stranded_23 rfl hl (by decide) rfl (fun ls hl => ?_)
      refine lv_aload_n hx hb dX11_stranded_24 rfl (lv_at hl 1 rfl) ?_
      refine lv_iload_n hx hb dX11_stranded_25 rfl (lv_at hl 3 rfl) ?_
      obtain ⟨u_5, qu_5, h⟩ := zbn_some h
      refine zciS (zrunV E hZ (by decide) (re_0 _) rfl rfl v_X11_wadesBy kw_1749 (c_X11_wadesBy l g M  x2 qu_5 _) rfl hl.1 rfl (Nat.le_of_ble_eq_true rfl) ⟨by decide, by decide⟩ ⟨by decide, by decide⟩ dX11_stranded_26) hZ (fun H locs hZ => ?_)
      refine lv_istore (lv' := [(4, .int u_5.1), (3, .int u_4), (0, .ref (g.2.2 0)), (1, .int x1), (2, .int x2)]) hx hb dX11_stranded_29 hl (by decide) rfl (fun ls hl => ?_)
      refine lv_iload_n hx hb dX11_stranded_31 rfl (lv_at hl 3 rfl) ?_
      refine lv_aload_n hx hb dX11_stranded_32 rfl (lv_at hl 2 rfl) ?_
      refine lv_iload_n hx hb dX11_stranded_33 rfl (lv_at hl 4 rfl) ?_
      obtain ⟨u_6, qu_6, h⟩ := zbn_some h
      refine zciR (zrunV E hZ (by decide) (re_0 _) rfl rfl v_X11_isDrowned kw_1797 (c_X11_isDrowned l g u_5.2  x2 qu_6 _) rfl hl.1 rfl (Nat.le_of_ble_eq_true rfl) ⟨by decide, by decide⟩ ⟨by decide, by decide⟩ dX11_stranded_34) hZ (fun H locs hZ => ?_)
      refine zif_ne (tgt := 78) h E dX11_stranded_37 (by decide) (fun c_13 h => ?_) (fun c_13 h => ?_)
      · exact lb_X11_stranded_78 g  E hret u_5.2 x2 x1 (fun M x1 x2 => b_X11_stranded_9   n M x1 x2) ih H locs ls h hZ (lv_sub hl [2, 4] rfl)
      · refine lv_aload_n hx hb dX11_stranded_40 rfl (lv_at hl 2 rfl) ?_
        refine lv_iload_n hx hb dX11_stranded_41 rfl (lv_at hl 1 rfl) ?_
        obtain ⟨u_7, qu_7, h⟩ := zbn_some h
        refine zciR (zrunV E hZ (by decide) (re_0 _) rfl rfl v_X11_depthNow kw_1769 (c_X11_depthNow l g u_5.2  u_4 qu_7 _) rfl hl.1 rfl (Nat.le_of_ble_eq_true rfl) ⟨by decide, by decide⟩ ⟨by decide, by decide⟩ dX11_stranded_42) hZ (fun H locs hZ => ?_)
        refine zif_ne (tgt := 78) h E dX11_stranded_45 (by decide) (fun c_12 h => ?_) (fun c_12 h => ?_)
        · exact lb_X11_stranded_78 g  E hret u_5.2 x2 x1 (fun M x1 x2 => b_X11_stranded_9   n M x1 x2) ih H locs ls h hZ (lv_sub hl [2, 4] rfl)
        · refine lv_aload_n hx hb dX11_stranded_48 rfl (lv_at hl 2 rfl) ?_
          refine lv_iload_n hx hb dX11_stranded_49 rfl (lv_at hl 1 rfl) ?_
          refine lv_iconst (v := 1) hx hb dX11_stranded_50 (by decide) ?_
          refine lv_isub hx hb dX11_stranded_51 ?_
          refine lv_iload hx hb dX11_stranded_52 (lv_at hl 0 rfl) ?_
          obtain ⟨u_8, qu_8, h⟩ := zbn_some h
          refine zciR (zrunV E hZ (by decide) (re_0 _) rfl rfl v_X11_isDeep kw_1907 (c_X11_isDeep l g u_5.2  (u_4 - 1) u_5.1 qu_8 _) rfl hl.1 rfl (Nat.le_of_ble_eq_true rfl) ⟨by decide, by decide⟩ ⟨by decide, by decide⟩ dX11_stranded_54) hZ (fun H locs hZ => ?_)
          refine zif_eq (tgt := 78) h E dX11_stranded_57 (by decide) (fun c_11 h => ?_) (fun c_11 h => ?_)
          · exact lb_X11_stranded_78 g  E hret u_5.2 x2 x1 (fun M x1 x2 => b_X11_stranded_9   n M x1 x2) ih H locs ls h hZ (lv_sub hl [2, 4] rfl)
          · refine lv_aload_n hx hb dX11_stranded_60 rfl (lv_at hl 2 rfl) ?_
            refine lv_iload_n hx hb dX11_stranded_61 rfl (lv_at hl 1 rfl) ?_
            refine lv_iconst (v := 1) hx hb dX11_stranded_62 (by decide) ?_
            refine lv_iadd hx hb dX11_stranded_63 ?_
            refine lv_iload hx hb dX11_stranded_64 (lv_at hl 0 rfl) ?_
            obtain ⟨u_9, qu_9, h⟩ := zbn_some h
            refine zciR (zrunV E hZ (by decide) (re_0 _) rfl rfl v_X11_isDeep kw_1907 (c_X11_isDeep l g u_5.2  (u_4 + 1) u_5.1 qu_9 _) rfl hl.1 rfl (Nat.le_of_ble_eq_true rfl) ⟨by decide, by decide⟩ ⟨by decide, by decide⟩ dX11_stranded_66) hZ (fun H locs hZ => ?_)
            refine zif_eq (tgt := 78) h E dX11_stranded_69 (by decide) (fun c_10 h => ?_) (fun c_10 h => ?_)
            · exact lb_X11_stranded_78 g  E hret u_5.2 x2 x1 (fun M x1 x2 => b_X11_stranded_9   n M x1 x2) ih H locs ls h hZ (lv_sub hl [2, 4] rfl)
            · refine lv_iconst (v := 1) hx hb dX11_stranded_72 (by decide) ?_
              refine lv_iload_n hx hb dX11_stranded_73 rfl (lv_at hl 4 rfl) ?_
              refine lv_ishl hx hb dX11_stranded_74 ?_
              refine lv_goto (tgt := 79) hx hb dX11_stranded_75 (by decide) ?_
              exact lb_X11_stranded_79 g  E hret u_5.2 x2 ((1 : Int32) <<< (x2 &&& 31)) x1 (fun M x1 x2 => b_X11_stranded_9   n M x1 x2) ih H locs ls h hZ (lv_sub hl [2, 4] rfl)
def f_X11_stranded (M : zM)  : Option (Int32 × zM) :=
  znm (zu M 0 0 0) (fun M_15 => b_X11_stranded_9   6000 M_15 0 0)
set_option maxRecDepth 100000 in
set_option maxHeartbeats 4000000 in
theorem w_X11_stranded (g : zG)  {r : Int32 × zM} (E : zX g p m c cX11_stranded 5 s args (zWs yX11_stranded cX11_stranded 5 (some .int)) RX11) (hret : zRi g rE 15 p l e (zrm 12 0 0) s m args below meth c 0 0 Q cX11_stranded .int (fun v M1 => r = (v, M1))) (M : zM)  (H : Heap) (locs : List Loc) (ls : Array Slot) (h : f_X11_stranded M  = some r) (hZ : zS g rE 15 s H locs M) (hl : lv_has ls 5 [(0, .ref (g.2.2 0))]) : W p l e (zrm 12 0 0) s m args below meth c H locs 0 0 Q (F0 m 0 ls []) := by
  have hx := E.1.1
  have hb := E.1.2.1
  unfold f_X11_stranded at h
  refine lv_aload_n hx hb dX11_stranded_0 rfl (lv_at hl 0 rfl) ?_
  refine lv_iconst (v := 0) hx hb dX11_stranded_1 (by decide) ?_
  refine zp h E hZ (by decide) (re_0 _) ((re_0 _).trans (congrArg (fun z => Sum.inr (10, z)) (fs_X11_0 g _ _ _))) kc_X11 (by decide) kw_1368 rfl rfl rfl (Nat.le_of_ble_eq_true rfl) dX11_stranded_2 (fun M_15 H locs eM_15 h hZ => ?_)
  refine lv_iconst (v := 0) hx hb dX11_stranded_5 (by decide) ?_
  refine lv_istore_n (lv' := [(1, .int 0), (0, .ref (g.2.2 0))]) hx hb dX11_stranded_6 rfl hl (by decide) rfl (fun ls hl => ?_)
  refine lv_iconst (v := 0) hx hb dX11_stranded_7 (by decide) ?_
  refine lv_istore_n (lv' := [(2, .int 0), (1, .int 0), (0, .ref (g.2.2 0))]) hx hb dX11_stranded_8 rfl hl (by decide) rfl (fun ls hl => ?_)
  exact lb_X11_stranded_9 g  E hret   6000 M_15 0 0 H locs ls h hZ (lv_sub hl [2, 1, 0] rfl)
theorem c_X11_stranded (l : Launch) (g : zG) (M : zM)   {r : Int32 × zM} (h : f_X11_stranded M  = some r) : zMi l g rE 15 yX11_stranded (zWs yX11_stranded cX11_stranded 5 (some .int)) 12 [.ref (g.2.2 0)] M (fun v M1 => r = (v, M1)) :=
  zMi_of (by decide +kernel) (Nat.le_of_ble_eq_true rfl) (fun p e s m args below meth c Q ls E hret hZ hl => w_X11_stranded g  E hret M  _ _ ls h hZ hl)
theorem v_X11_stranded : zYV yX11_stranded cX11_stranded 5 (some .int) 0 := ⟨kw_1906, kw_15, kw_1904, kw_1905, by decide +kernel⟩

def b_X11_sideOf_11  (M : zM) (x2 : Int32) (x3 : Int32) (x4 : Int32) (x5 : Int32) : Nat → Int32 → Int32 → Int32 → Option (Int32)
  | 0, _, _, _ => none
  | n + 1, x6, x7, x8 =>
    if x3 ≤ x8 then (some x6) else (zbn (f_X11_noPlace M x7) (fun u_1 => if u_1 = 0 then (zbn (f_X11_depthAt M x7 x5) (fun u_2 => if x4 < u_2 then (some x6) else (znm (x6 ||| ((1 : Int32) <<< (x7 &&& 31))) (fun x6_3 => znm (x7 + x2) (fun x7_4 => znm (x8 + 1) (fun x8_5 => b_X11_sideOf_11  M x2 x3 x4 x5 n x6_3 x7_4 x8_5)))))) else (some x6)))
set_option maxRecDepth 100000 in
set_option maxHeartbeats 4000000 in
theorem lb_X11_sideOf_11 (g : zG)  {r : Int32} {M0 : zM} (E : zX g p m c cX11_sideOf 9 s args (zWs yX11_sideOf cX11_sideOf 9 (some .int)) RX11) (hret : zRi g rE 15 p l e (zrm 7 0 0) s m args below meth c 0 0 Q cX11_sideOf .int (fun v M1 => v = r ∧ M1 = M0)) (M : zM) (x2 : Int32) (x3 : Int32) (x4 : Int32) (x5 : Int32) (hM : M = M0)  : ∀ (n : Nat) (x6 : Int32) (x7 : Int32) (x8 : Int32) (H : Heap) (locs : List Loc) (ls : Array Slot), b_X11_sideOf_11  M x2 x3 x4 x5 n x6 x7 x8 = some r → zS g rE 15 s H locs M → lv_has ls 9 [(0, .ref (g.2.2 0)), (2, .int x2), (3, .int x3), (4, .int x4), (5, .int x5), (6, .int x6), (7, .int x7), (8, .int x8)] → W p l e (zrm 7 0 0) s m args below meth c H locs 0 0 Q (F0 m 11 ls []) := by
  have hx := E.1.1
  have hb := E.1.2.1
  intro n
  induction n with
  | zero => intro x6 x7 x8 H locs ls h hZ hl; cases h
  | succ n ih =>
    intro x6 x7 x8 H locs ls h hZ hl
    rw [b_X11_sideOf_11] at h
    refine lv_iload hx hb dX11_sideOf_11 (lv_at hl 7 rfl) ?_
    refine lv_iload_n hx hb dX11_sideOf_13 rfl (lv_at hl 2 rfl) ?_
    refine zic_ge (tgt := 59) h E dX11_sideOf_14 (by decide) (fun c_8 h => ?_) (fun c_8 h => ?_)
    · refine lv_iload hx hb dX11_sideOf_59 (lv_at hl 5 rfl) ?_
      exact hret _ _ _ _ _ _ ⟨Option.some.inj h, hM⟩ rfl hZ dX11_sideOf_61
    · refine lv_iload hx hb dX11_sideOf_17 (lv_at hl 6 rfl) ?_
      obtain ⟨u_1, qu_1, h⟩ := zbn_some h
      refine zciR (zrunS E hZ v_X11_noPlace kw_1663 (c_X11_noPlace l g M  x7 qu_1 _) rfl hl.1 rfl (Nat.le_of_ble_eq_true rfl) ⟨by decide, by decide⟩ ⟨by decide, by decide⟩ dX11_sideOf_19) hZ (fun H locs hZ => ?_)
      refine zif_ne (tgt := 59) h E dX11_sideOf_22 (by decide) (fun c_7 h => ?_) (fun c_7 h => ?_)
      · refine lv_iload hx hb dX11_sideOf_59 (lv_at hl 5 rfl) ?_
        exact hret _ _ _ _ _ _ ⟨Option.some.inj h, hM⟩ rfl hZ dX11_sideOf_61
      · refine lv_aload_n hx hb dX11_sideOf_25 rfl (lv_at hl 0 rfl) ?_
        refine lv_iload hx hb dX11_sideOf_26 (lv_at hl 6 rfl) ?_
        refine lv_iload hx hb dX11_sideOf_28 (lv_at hl 4 rfl) ?_
        obtain ⟨u_2, qu_2, h⟩ := zbn_some h
        refine zciR (zrunV E hZ (by decide) (re_0 _) rfl rfl v_X11_depthAt kw_1702 (c_X11_depthAt l g M  x7 x5 qu_2 _) rfl hl.1 rfl (Nat.le_of_ble_eq_true rfl) ⟨by decide, by decide⟩ ⟨by decide, by decide⟩ dX11_sideOf_30) hZ (fun H locs hZ => ?_)
        refine lv_iload hx hb dX11_sideOf_33 (lv_at hl 3 rfl) ?_
        refine zic_gt (tgt := 59) h E dX11_sideOf_35 (by decide) (fun c_6 h => ?_) (fun c_6 h => ?_)
        · refine lv_iload hx hb dX11_sideOf_59 (lv_at hl 5 rfl) ?_
          exact hret _ _ _ _ _ _ ⟨Option.some.inj h, hM⟩ rfl hZ dX11_sideOf_61
        · refine lv_iload hx hb dX11_sideOf_38 (lv_at hl 5 rfl) ?_
          refine lv_iconst (v := 1) hx hb dX11_sideOf_40 (by decide) ?_
          refine lv_iload hx hb dX11_sideOf_41 (lv_at hl 6 rfl) ?_
          refine lv_ishl hx hb dX11_sideOf_43 ?_
          refine lv_ior hx hb dX11_sideOf_44 ?_
          refine zni h (fun x6_3 ex6_3 h => ?_)
          refine lv_istore (lv' := [(6, .int x6_3), (0, .ref (g.2.2 0)), (2, .int x2), (3, .int x3), (4, .int x4), (5, .int x5), (7, .int x7), (8, .int x8)]) hx hb dX11_sideOf_45 hl (by decide) rfl (fun ls hl => ?_)
          refine lv_iload hx hb dX11_sideOf_47 (lv_at hl 6 rfl) ?_
          refine lv_iload_n hx hb dX11_sideOf_49 rfl (lv_at hl 2 rfl) ?_
          refine lv_iadd hx hb dX11_sideOf_50 ?_
          refine zni h (fun x7_4 ex7_4 h => ?_)
          refine lv_istore (lv' := [(7, .int x7_4), (6, .int x6_3), (0, .ref (g.2.2 0)), (2, .int x2), (3, .int x3), (4, .int x4), (5, .int x5), (8, .int x8)]) hx hb dX11_sideOf_51 hl (by decide) rfl (fun ls hl => ?_)
          obtain ⟨x8_5, ex8_5, h⟩ := znm_ex h
          refine lv_iinc (v := x8_5) (lv' := [(8, .int x8_5), (7, .int x7_4), (6, .int x6_3), (0, .ref (g.2.2 0)), (2, .int x2), (3, .int x3), (4, .int x4), (5, .int x5)]) hx hb dX11_sideOf_53 hl (k := 7) rfl (by rw [ex8_5]; rfl) (by decide) rfl (fun ls hl => ?_)
          refine lv_goto (tgt := 11) hx hb dX11_sideOf_56 (by decide) ?_
          exact ih x6_3 x7_4 x8_5 H locs ls h hZ (lv_sub hl [3, 4, 5, 6, 7, 2, 1, 0] rfl)
def f_X11_sideOf (M : zM) (x1 : Int32) (x2 : Int32) (x3 : Int32) (x4 : Int32) (x5 : Int32) : Option (Int32) :=
  znm (x1 + x2) (fun x7_9 => b_X11_sideOf_11  M x2 x3 x4 x5 6000 0 x7_9 0)
set_option maxRecDepth 100000 in
set_option maxHeartbeats 4000000 in
theorem w_X11_sideOf (g : zG)  {r : Int32} {M0 : zM} (E : zX g p m c cX11_sideOf 9 s args (zWs yX11_sideOf cX11_sideOf 9 (some .int)) RX11) (hret : zRi g rE 15 p l e (zrm 7 0 0) s m args below meth c 0 0 Q cX11_sideOf .int (fun v M1 => v = r ∧ M1 = M0)) (M : zM) (hM : M = M0) (x1 : Int32) (x2 : Int32) (x3 : Int32) (x4 : Int32) (x5 : Int32) (H : Heap) (locs : List Loc) (ls : Array Slot) (h : f_X11_sideOf M x1 x2 x3 x4 x5 = some r) (hZ : zS g rE 15 s H locs M) (hl : lv_has ls 9 [(0, .ref (g.2.2 0)), (1, .int x1), (2, .int x2), (3, .int x3), (4, .int x4), (5, .int x5)]) : W p l e (zrm 7 0 0) s m args below meth c H locs 0 0 Q (F0 m 0 ls []) := by
  have hx := E.1.1
  have hb := E.1.2.1
  unfold f_X11_sideOf at h
  refine lv_iconst (v := 0) hx hb dX11_sideOf_0 (by decide) ?_
  refine lv_istore (lv' := [(6, .int 0), (0, .ref (g.2.2 0)), (1, .int x1), (2, .int x2), (3, .int x3), (4, .int x4), (5, .int x5)]) hx hb dX11_sideOf_1 hl (by decide) rfl (fun ls hl => ?_)
  refine lv_iload_n hx hb dX11_sideOf_3 rfl (lv_at hl 2 rfl) ?_
  refine lv_iload_n hx hb dX11_sideOf_4 rfl (lv_at hl 3 rfl) ?_
  refine lv_iadd hx hb dX11_sideOf_5 ?_
  refine zni h (fun x7_9 ex7_9 h => ?_)
  refine lv_istore (lv' := [(7, .int x7_9), (6, .int 0), (0, .ref (g.2.2 0)), (1, .int x1), (2, .int x2), (3, .int x3), (4, .int x4), (5, .int x5)]) hx hb dX11_sideOf_6 hl (by decide) rfl (fun ls hl => ?_)
  refine lv_iconst (v := 0) hx hb dX11_sideOf_8 (by decide) ?_
  refine lv_istore (lv' := [(8, .int 0), (7, .int x7_9), (6, .int 0), (0, .ref (g.2.2 0)), (1, .int x1), (2, .int x2), (3, .int x3), (4, .int x4), (5, .int x5)]) hx hb dX11_sideOf_9 hl (by decide) rfl (fun ls hl => ?_)
  exact lb_X11_sideOf_11 g  E hret M x2 x3 x4 x5 hM  6000 0 x7_9 0 H locs ls h hZ (lv_sub hl [3, 5, 6, 7, 8, 2, 1, 0] rfl)
theorem c_X11_sideOf (l : Launch) (g : zG) (M : zM)  (x1 : Int32) (x2 : Int32) (x3 : Int32) (x4 : Int32) (x5 : Int32) {r : Int32} (h : f_X11_sideOf M x1 x2 x3 x4 x5 = some r) : zMi l g rE 15 yX11_sideOf (zWs yX11_sideOf cX11_sideOf 9 (some .int)) 7 [.ref (g.2.2 0), .int x1, .int x2, .int x3, .int x4, .int x5] M (fun v M1 => v = r ∧ M1 = M) :=
  zMi_of (by decide +kernel) (Nat.le_of_ble_eq_true rfl) (fun p e s m args below meth c Q ls E hret hZ hl => w_X11_sideOf g  E hret M rfl x1 x2 x3 x4 x5 _ _ ls h hZ hl)
theorem v_X11_sideOf : zYV yX11_sideOf cX11_sideOf 9 (some .int) 5 := ⟨kw_1932, kw_15, kw_1931, kp_105, by decide +kernel⟩

def b_X11_endsOf_93 (K59 : Int32 → Int32 → Option (Int32)) (M : zM) (x3 : Int32) (x4 : Int32) (x6 : Int32) (t0 : Int32) (t1 : Int32) : Option (Int32) :=
  znm (t1 &&& t0) (fun x5_1 => znm (x6 + 1) (fun x6_2 => K59 x5_1 x6_2))
set_option maxRecDepth 100000 in
set_option maxHeartbeats 4000000 in
theorem lb_X11_endsOf_93 (g : zG)  {r : Int32} {M0 : zM} (E : zX g p m c cX11_endsOf 7 s args (zWs yX11_endsOf cX11_endsOf 7 (some .int)) RX11) (hret : zRi g rE 15 p l e (zrm 8 0 0) s m args below meth c 0 0 Q cX11_endsOf .int (fun v M1 => v = r ∧ M1 = M0)) (M : zM) (x3 : Int32) (x4 : Int32) (x6 : Int32) (t0 : Int32) (t1 : Int32) (hM : M = M0) (K59 : Int32 → Int32 → Option (Int32)) (hK59 : ∀ (x5 : Int32) (x6 : Int32) (H : Heap) (locs : List Loc) (ls : Array Slot), K59 x5 x6 = some r → zS g rE 15 s H locs M → lv_has ls 7 [(0, .ref (g.2.2 0)), (3, .int x3), (4, .int x4), (5, .int x5), (6, .int x6)] → W p l e (zrm 8 0 0) s m args below meth c H locs 0 0 Q (F0 m 59 ls [])) (H : Heap) (locs : List Loc) (ls : Array Slot) (h : b_X11_endsOf_93 K59 M x3 x4 x6 t0 t1 = some r) (hZ : zS g rE 15 s H locs M) (hl : lv_has ls 7 [(0, .ref (g.2.2 0)), (3, .int x3), (4, .int x4), (6, .int x6)]) : W p l e (zrm 8 0 0) s m args below meth c H locs 0 0 Q (F0 m 93 ls [.int t0, .int t1]) := by
  have hx := E.1.1
  have hb := E.1.2.1
  unfold b_X11_endsOf_93 at h
  refine lv_iand hx hb dX11_endsOf_93 ?_
  refine zni h (fun x5_1 ex5_1 h => ?_)
  refine lv_istore (lv' := [(5, .int x5_1), (0, .ref (g.2.2 0)), (3, .int x3), (4, .int x4), (6, .int x6)]) hx hb dX11_endsOf_94 hl (by decide) rfl (fun ls hl => ?_)
  obtain ⟨x6_2, ex6_2, h⟩ := znm_ex h
  refine lv_iinc (v := x6_2) (lv' := [(6, .int x6_2), (5, .int x5_1), (0, .ref (g.2.2 0)), (3, .int x3), (4, .int x4)]) hx hb dX11_endsOf_96 hl (k := 4) rfl (by rw [ex6_2]; rfl) (by decide) rfl (fun ls hl => ?_)
  refine lv_goto (tgt := 59) hx hb dX11_endsOf_99 (by decide) ?_
  exact hK59 x5_1 x6_2 H locs ls h hZ (lv_sub hl [2, 3, 4, 1, 0] rfl)
def b_X11_endsOf_59  (M : zM) (x3 : Int32) (x4 : Int32) : Nat → Int32 → Int32 → Option (Int32)
  | 0, _, _ => none
  | n + 1, x5, x6 =>
    if 12 ≤ x6 then (some x5) else (zbn (f_X11_depthAt M x6 (x4 + 1)) (fun u_3 => if x3 < u_3 then (b_X11_endsOf_93 (fun x5 x6 => b_X11_endsOf_59  M x3 x4 n x5 x6) M x3 x4 x6 (((1 : Int32) <<< (x6 &&& 31)) ^^^ ((-1))) x5) else (b_X11_endsOf_93 (fun x5 x6 => b_X11_endsOf_59  M x3 x4 n x5 x6) M x3 x4 x6 x5 x5)))
set_option maxRecDepth 100000 in
set_option maxHeartbeats 4000000 in
theorem lb_X11_endsOf_59 (g : zG)  {r : Int32} {M0 : zM} (E : zX g p m c cX11_endsOf 7 s args (zWs yX11_endsOf cX11_endsOf 7 (some .int)) RX11) (hret : zRi g rE 15 p l e (zrm 8 0 0) s m args below meth c 0 0 Q cX11_endsOf .int (fun v M1 => v = r ∧ M1 = M0)) (M : zM) (x3 : Int32) (x4 : Int32) (hM : M = M0)  : ∀ (n : Nat) (x5 : Int32) (x6 : Int32) (H : Heap) (locs : List Loc) (ls : Array Slot), b_X11_endsOf_59  M x3 x4 n x5 x6 = some r → zS g rE 15 s H locs M → lv_has ls 7 [(0, .ref (g.2.2 0)), (3, .int x3), (4, .int x4), (5, .int x5), (6, .int x6)] → W p l e (zrm 8 0 0) s m args below meth c H locs 0 0 Q (F0 m 59 ls []) := by
  have hx := E.1.1
  have hb := E.1.2.1
  intro n
  induction n with
  | zero => intro x5 x6 H locs ls h hZ hl; cases h
  | succ n ih =>
    intro x5 x6 H locs ls h hZ hl
    rw [b_X11_endsOf_59] at h
    refine lv_iload hx hb dX11_endsOf_59 (lv_at hl 4 rfl) ?_
    refine lv_bipush (v := 12) hx hb dX11_endsOf_61 (by decide) ?_
    refine zic_ge (tgt := 102) h E dX11_endsOf_63 (by decide) (fun c_5 h => ?_) (fun c_5 h => ?_)
    · refine lv_iload hx hb dX11_endsOf_102 (lv_at hl 3 rfl) ?_
      exact hret _ _ _ _ _ _ ⟨Option.some.inj h, hM⟩ rfl hZ dX11_endsOf_104
    · refine lv_iload hx hb dX11_endsOf_66 (lv_at hl 3 rfl) ?_
      refine lv_aload_n hx hb dX11_endsOf_68 rfl (lv_at hl 0 rfl) ?_
      refine lv_iload hx hb dX11_endsOf_69 (lv_at hl 4 rfl) ?_
      refine lv_iload hx hb dX11_endsOf_71 (lv_at hl 2 rfl) ?_
      refine lv_iconst (v := 1) hx hb dX11_endsOf_73 (by decide) ?_
      refine lv_iadd hx hb dX11_endsOf_74 ?_
      obtain ⟨u_3, qu_3, h⟩ := zbn_some h
      refine zciR (zrunV E hZ (by decide) (re_0 _) rfl rfl v_X11_depthAt kw_1702 (c_X11_depthAt l g M  x6 (x4 + 1) qu_3 _) rfl hl.1 rfl (Nat.le_of_ble_eq_true rfl) ⟨by decide, by decide⟩ ⟨by decide, by decide⟩ dX11_endsOf_75) hZ (fun H locs hZ => ?_)
      refine lv_iload_n hx hb dX11_endsOf_78 rfl (lv_at hl 1 rfl) ?_
      refine zic_gt (tgt := 87) h E dX11_endsOf_79 (by decide) (fun c_4 h => ?_) (fun c_4 h => ?_)
      · refine lv_iconst (v := 1) hx hb dX11_endsOf_87 (by decide) ?_
        refine lv_iload hx hb dX11_endsOf_88 (lv_at hl 4 rfl) ?_
        refine lv_ishl hx hb dX11_endsOf_90 ?_
        refine lv_iconst (v := (-1)) hx hb dX11_endsOf_91 (by decide) ?_
        refine lv_ixor hx hb dX11_endsOf_92 ?_
        exact lb_X11_endsOf_93 g  E hret M x3 x4 x6 (((1 : Int32) <<< (x6 &&& 31)) ^^^ ((-1))) x5 hM (fun x5 x6 => b_X11_endsOf_59  M x3 x4 n x5 x6) ih H locs ls h hZ (lv_sub hl [0, 1, 2, 4] rfl)
      · refine lv_iload hx hb dX11_endsOf_82 (lv_at hl 3 rfl) ?_
        refine lv_goto (tgt := 93) hx hb dX11_endsOf_84 (by decide) ?_
        exact lb_X11_endsOf_93 g  E hret M x3 x4 x6 x5 x5 hM (fun x5 x6 => b_X11_endsOf_59  M x3 x4 n x5 x6) ih H locs ls h hZ (lv_sub hl [0, 1, 2, 4] rfl)
def b_X11_endsOf_56  (M : zM) (x3 : Int32) (x4 : Int32) (x5 : Int32) : Option (Int32) :=
  b_X11_endsOf_59  M x3 x4 6000 x5 0
set_option maxRecDepth 100000 in
set_option maxHeartbeats 4000000 in
theorem lb_X11_endsOf_56 (g : zG)  {r : Int32} {M0 : zM} (E : zX g p m c cX11_endsOf 7 s args (zWs yX11_endsOf cX11_endsOf 7 (some .int)) RX11) (hret : zRi g rE 15 p l e (zrm 8 0 0) s m args below meth c 0 0 Q cX11_endsOf .int (fun v M1 => v = r ∧ M1 = M0)) (M : zM) (x3 : Int32) (x4 : Int32) (x5 : Int32) (hM : M = M0)  (H : Heap) (locs : List Loc) (ls : Array Slot) (h : b_X11_endsOf_56  M x3 x4 x5 = some r) (hZ : zS g rE 15 s H locs M) (hl : lv_has ls 7 [(0, .ref (g.2.2 0)), (3, .int x3), (4, .int x4), (5, .int x5)]) : W p l e (zrm 8 0 0) s m args below meth c H locs 0 0 Q (F0 m 56 ls []) := by
  have hx := E.1.1
  have hb := E.1.2.1
  unfold b_X11_endsOf_56 at h
  refine lv_iconst (v := 0) hx hb dX11_endsOf_56 (by decide) ?_
  refine lv_istore (lv' := [(6, .int 0), (0, .ref (g.2.2 0)), (3, .int x3), (4, .int x4), (5, .int x5)]) hx hb dX11_endsOf_57 hl (by decide) rfl (fun ls hl => ?_)
  exact lb_X11_endsOf_59 g  E hret M x3 x4 hM  6000 x5 0 H locs ls h hZ (lv_sub hl [1, 2, 3, 4, 0] rfl)
def b_X11_endsOf_50 (K6 : Int32 → Int32 → Option (Int32)) (M : zM) (x1 : Int32) (x2 : Int32) (x3 : Int32) (x4 : Int32) (x5 : Int32) (x6 : Int32) : Option (Int32) :=
  znm (x6 + 1) (fun x6_6 => K6 x5 x6_6)
set_option maxRecDepth 100000 in
set_option maxHeartbeats 4000000 in
theorem lb_X11_endsOf_50 (g : zG)  {r : Int32} {M0 : zM} (E : zX g p m c cX11_endsOf 7 s args (zWs yX11_endsOf cX11_endsOf 7 (some .int)) RX11) (hret : zRi g rE 15 p l e (zrm 8 0 0) s m args below meth c 0 0 Q cX11_endsOf .int (fun v M1 => v = r ∧ M1 = M0)) (M : zM) (x1 : Int32) (x2 : Int32) (x3 : Int32) (x4 : Int32) (x5 : Int32) (x6 : Int32) (hM : M = M0) (K6 : Int32 → Int32 → Option (Int32)) (hK6 : ∀ (x5 : Int32) (x6 : Int32) (H : Heap) (locs : List Loc) (ls : Array Slot), K6 x5 x6 = some r → zS g rE 15 s H locs M → lv_has ls 7 [(0, .ref (g.2.2 0)), (1, .int x1), (2, .int x2), (3, .int x3), (4, .int x4), (5, .int x5), (6, .int x6)] → W p l e (zrm 8 0 0) s m args below meth c H locs 0 0 Q (F0 m 6 ls [])) (H : Heap) (locs : List Loc) (ls : Array Slot) (h : b_X11_endsOf_50 K6 M x1 x2 x3 x4 x5 x6 = some r) (hZ : zS g rE 15 s H locs M) (hl : lv_has ls 7 [(0, .ref (g.2.2 0)), (1, .int x1), (2, .int x2), (3, .int x3), (4, .int x4), (5, .int x5), (6, .int x6)]) : W p l e (zrm 8 0 0) s m args below meth c H locs 0 0 Q (F0 m 50 ls []) := by
  have hx := E.1.1
  have hb := E.1.2.1
  unfold b_X11_endsOf_50 at h
  obtain ⟨x6_6, ex6_6, h⟩ := znm_ex h
  refine lv_iinc (v := x6_6) (lv' := [(6, .int x6_6), (0, .ref (g.2.2 0)), (1, .int x1), (2, .int x2), (3, .int x3), (4, .int x4), (5, .int x5)]) hx hb dX11_endsOf_50 hl (k := 6) rfl (by rw [ex6_6]; rfl) (by decide) rfl (fun ls hl => ?_)
  refine lv_goto (tgt := 6) hx hb dX11_endsOf_53 (by decide) ?_
  exact hK6 x5 x6_6 H locs ls h hZ (lv_sub hl [1, 2, 3, 4, 5, 6, 0] rfl)
def b_X11_endsOf_6  (M : zM) (x1 : Int32) (x2 : Int32) (x3 : Int32) (x4 : Int32) : Nat → Int32 → Int32 → Option (Int32)
  | 0, _, _ => none
  | n + 1, x5, x6 =>
    if 12 ≤ x6 then (b_X11_endsOf_56  M x3 x4 x5) else (zbn (f_X11_has M x1 x6) (fun u_7 => if u_7 = 0 then (b_X11_endsOf_50 (fun x5 x6 => b_X11_endsOf_6  M x1 x2 x3 x4 n x5 x6) M x1 x2 x3 x4 x5 x6) else (zbn (f_X11_sideOf M x6 1 x2 x3 x4) (fun u_8 => zbn (f_X11_sideOf M x6 ((-1)) x2 x3 x4) (fun u_9 => znm (x5 ||| (u_8 ||| u_9)) (fun x5_10 => b_X11_endsOf_50 (fun x5 x6 => b_X11_endsOf_6  M x1 x2 x3 x4 n x5 x6) M x1 x2 x3 x4 x5_10 x6))))))
set_option maxRecDepth 100000 in
set_option maxHeartbeats 4000000 in
theorem lb_X11_endsOf_6 (g : zG)  {r : Int32} {M0 : zM} (E : zX g p m c cX11_endsOf 7 s args (zWs yX11_endsOf cX11_endsOf 7 (some .int)) RX11) (hret : zRi g rE 15 p l e (zrm 8 0 0) s m args below meth c 0 0 Q cX11_endsOf .int (fun v M1 => v = r ∧ M1 = M0)) (M : zM) (x1 : Int32) (x2 : Int32) (x3 : Int32) (x4 : Int32) (hM : M = M0)  : ∀ (n : Nat) (x5 : Int32) (x6 : Int32) (H : Heap) (locs : List Loc) (ls : Array Slot), b_X11_endsOf_6  M x1 x2 x3 x4 n x5 x6 = some r → zS g rE 15 s H locs M → lv_has ls 7 [(0, .ref (g.2.2 0)), (1, .int x1), (2, .int x2), (3, .int x3), (4, .int x4), (5, .int x5), (6, .int x6)] → W p l e (zrm 8 0 0) s m args below meth c H locs 0 0 Q (F0 m 6 ls []) := by
  have hx := E.1.1
  have hb := E.1.2.1
  intro n
  induction n with
  | zero => intro x5 x6 H locs ls h hZ hl; cases h
  | succ n ih =>
    intro x5 x6 H locs ls h hZ hl
    rw [b_X11_endsOf_6] at h
    refine lv_iload hx hb dX11_endsOf_6 (lv_at hl 6 rfl) ?_
    refine lv_bipush (v := 12) hx hb dX11_endsOf_8 (by decide) ?_
    refine zic_ge (tgt := 56) h E dX11_endsOf_10 (by decide) (fun c_12 h => ?_) (fun c_12 h => ?_)
    · exact lb_X11_endsOf_56 g  E hret M x3 x4 x5 hM  H locs ls h hZ (lv_sub hl [0, 3, 4, 5] rfl)
    · refine lv_iload_n hx hb dX11_endsOf_13 rfl (lv_at hl 1 rfl) ?_
      refine lv_iload hx hb dX11_endsOf_14 (lv_at hl 6 rfl) ?_
      obtain ⟨u_7, qu_7, h⟩ := zbn_some h
      refine zciR (zrunS E hZ v_X11_has kw_1922 (c_X11_has l g M  x1 x6 qu_7 _) rfl hl.1 rfl (Nat.le_of_ble_eq_true rfl) ⟨by decide, by decide⟩ ⟨by decide, by decide⟩ dX11_endsOf_16) hZ (fun H locs hZ => ?_)
      refine zif_eq (tgt := 50) h E dX11_endsOf_19 (by decide) (fun c_11 h => ?_) (fun c_11 h => ?_)
      · exact lb_X11_endsOf_50 g  E hret M x1 x2 x3 x4 x5 x6 hM (fun x5 x6 => b_X11_endsOf_6  M x1 x2 x3 x4 n x5 x6) ih H locs ls h hZ (lv_sub hl [0, 1, 2, 3, 4, 5, 6] rfl)
      · refine lv_iload hx hb dX11_endsOf_22 (lv_at hl 5 rfl) ?_
        refine lv_aload_n hx hb dX11_endsOf_24 rfl (lv_at hl 0 rfl) ?_
        refine lv_iload hx hb dX11_endsOf_25 (lv_at hl 6 rfl) ?_
        refine lv_iconst (v := 1) hx hb dX11_endsOf_27 (by decide) ?_
        refine lv_iload_n hx hb dX11_endsOf_28 rfl (lv_at hl 2 rfl) ?_
        refine lv_iload_n hx hb dX11_endsOf_29 rfl (lv_at hl 3 rfl) ?_
        refine lv_iload hx hb dX11_endsOf_30 (lv_at hl 4 rfl) ?_
        obtain ⟨u_8, qu_8, h⟩ := zbn_some h
        refine zciR (zrunV E hZ (by decide) (re_0 _) rfl rfl v_X11_sideOf kw_1929 (c_X11_sideOf l g M  x6 1 x2 x3 x4 qu_8 _) rfl hl.1 rfl (Nat.le_of_ble_eq_true rfl) ⟨by decide, by decide⟩ ⟨by decide, by decide⟩ dX11_endsOf_32) hZ (fun H locs hZ => ?_)
        refine lv_aload_n hx hb dX11_endsOf_35 rfl (lv_at hl 0 rfl) ?_
        refine lv_iload hx hb dX11_endsOf_36 (lv_at hl 6 rfl) ?_
        refine lv_iconst (v := (-1)) hx hb dX11_endsOf_38 (by decide) ?_
        refine lv_iload_n hx hb dX11_endsOf_39 rfl (lv_at hl 2 rfl) ?_
        refine lv_iload_n hx hb dX11_endsOf_40 rfl (lv_at hl 3 rfl) ?_
        refine lv_iload hx hb dX11_endsOf_41 (lv_at hl 4 rfl) ?_
        obtain ⟨u_9, qu_9, h⟩ := zbn_some h
        refine zciR (zrunV E hZ (by decide) (re_0 _) rfl rfl v_X11_sideOf kw_1929 (c_X11_sideOf l g M  x6 ((-1)) x2 x3 x4 qu_9 _) rfl hl.1 rfl (Nat.le_of_ble_eq_true rfl) ⟨by decide, by decide⟩ ⟨by decide, by decide⟩ dX11_endsOf_43) hZ (fun H locs hZ => ?_)
        refine lv_ior hx hb dX11_endsOf_46 ?_
        refine lv_ior hx hb dX11_endsOf_47 ?_
        refine zni h (fun x5_10 ex5_10 h => ?_)
        refine lv_istore (lv' := [(5, .int x5_10), (0, .ref (g.2.2 0)), (1, .int x1), (2, .int x2), (3, .int x3), (4, .int x4), (6, .int x6)]) hx hb dX11_endsOf_48 hl (by decide) rfl (fun ls hl => ?_)
        exact lb_X11_endsOf_50 g  E hret M x1 x2 x3 x4 x5_10 x6 hM (fun x5 x6 => b_X11_endsOf_6  M x1 x2 x3 x4 n x5 x6) ih H locs ls h hZ (lv_sub hl [1, 2, 3, 4, 5, 0, 6] rfl)
def f_X11_endsOf (M : zM) (x1 : Int32) (x2 : Int32) (x3 : Int32) (x4 : Int32) : Option (Int32) :=
  b_X11_endsOf_6  M x1 x2 x3 x4 6000 x1 0
set_option maxRecDepth 100000 in
set_option maxHeartbeats 4000000 in
theorem w_X11_endsOf (g : zG)  {r : Int32} {M0 : zM} (E : zX g p m c cX11_endsOf 7 s args (zWs yX11_endsOf cX11_endsOf 7 (some .int)) RX11) (hret : zRi g rE 15 p l e (zrm 8 0 0) s m args below meth c 0 0 Q cX11_endsOf .int (fun v M1 => v = r ∧ M1 = M0)) (M : zM) (hM : M = M0) (x1 : Int32) (x2 : Int32) (x3 : Int32) (x4 : Int32) (H : Heap) (locs : List Loc) (ls : Array Slot) (h : f_X11_endsOf M x1 x2 x3 x4 = some r) (hZ : zS g rE 15 s H locs M) (hl : lv_has ls 7 [(0, .ref (g.2.2 0)), (1, .int x1), (2, .int x2), (3, .int x3), (4, .int x4)]) : W p l e (zrm 8 0 0) s m args below meth c H locs 0 0 Q (F0 m 0 ls []) := by
  have hx := E.1.1
  have hb := E.1.2.1
  unfold f_X11_endsOf at h
  refine lv_iload_n hx hb dX11_endsOf_0 rfl (lv_at hl 1 rfl) ?_
  refine lv_istore (lv' := [(5, .int x1), (0, .ref (g.2.2 0)), (1, .int x1), (2, .int x2), (3, .int x3), (4, .int x4)]) hx hb dX11_endsOf_1 hl (by decide) rfl (fun ls hl => ?_)
  refine lv_iconst (v := 0) hx hb dX11_endsOf_3 (by decide) ?_
  refine lv_istore (lv' := [(6, .int 0), (5, .int x1), (0, .ref (g.2.2 0)), (1, .int x1), (2, .int x2), (3, .int x3), (4, .int x4)]) hx hb dX11_endsOf_4 hl (by decide) rfl (fun ls hl => ?_)
  exact lb_X11_endsOf_6 g  E hret M x1 x2 x3 x4 hM  6000 x1 0 H locs ls h hZ (lv_sub hl [2, 3, 4, 5, 6, 1, 0] rfl)
theorem c_X11_endsOf (l : Launch) (g : zG) (M : zM)  (x1 : Int32) (x2 : Int32) (x3 : Int32) (x4 : Int32) {r : Int32} (h : f_X11_endsOf M x1 x2 x3 x4 = some r) : zMi l g rE 15 yX11_endsOf (zWs yX11_endsOf cX11_endsOf 7 (some .int)) 8 [.ref (g.2.2 0), .int x1, .int x2, .int x3, .int x4] M (fun v M1 => v = r ∧ M1 = M) :=
  zMi_of (by decide +kernel) (Nat.le_of_ble_eq_true rfl) (fun p e s m args below meth c Q ls E hret hZ hl => w_X11_endsOf g  E hret M rfl x1 x2 x3 x4 _ _ ls h hZ hl)
theorem v_X11_endsOf : zYV yX11_endsOf cX11_endsOf 7 (some .int) 4 := ⟨kw_1928, kw_15, kw_1927, kp_104, by decide +kernel⟩

def b_X11_hoursOf_49  (M : zM) : Option (Int32) :=
  some 1000000
set_option maxRecDepth 100000 in
set_option maxHeartbeats 4000000 in
theorem lb_X11_hoursOf_49 (g : zG)  {r : Int32} {M0 : zM} (E : zX g p m c cX11_hoursOf 8 s args (zWs yX11_hoursOf cX11_hoursOf 8 (some .int)) RX11) (hret : zRi g rE 15 p l e (zrm 9 0 0) s m args below meth c 0 0 Q cX11_hoursOf .int (fun v M1 => v = r ∧ M1 = M0)) (M : zM) (hM : M = M0)  (H : Heap) (locs : List Loc) (ls : Array Slot) (h : b_X11_hoursOf_49  M = some r) (hZ : zS g rE 15 s H locs M) (hl : lv_has ls 8 []) : W p l e (zrm 9 0 0) s m args below meth c H locs 0 0 Q (F0 m 49 ls []) := by
  have hx := E.1.1
  have hb := E.1.2.1
  unfold b_X11_hoursOf_49 at h
  refine lv_ldcw (v := 1000000) hx hb E.1.2.2.2.1 (E.w kw_1933) dX11_hoursOf_49 ?_
  exact hret _ _ _ _ _ _ ⟨Option.some.inj h, hM⟩ rfl hZ dX11_hoursOf_52
def b_X11_hoursOf_8  (M : zM) (x2 : Int32) (x3 : Int32) (x4 : Int32) (x5 : Int32) : Nat → Int32 → Int32 → Option (Int32)
  | 0, _, _ => none
  | n + 1, x6, x7 =>
    if 60 < x7 then (b_X11_hoursOf_49  M) else (zbn (f_X11_has M x6 x2) (fun u_1 => if u_1 = 0 then (zbn (f_X11_endsOf M x6 x3 x4 (x5 + x7)) (fun u_2 => znm (x7 + 1) (fun x7_3 => b_X11_hoursOf_8  M x2 x3 x4 x5 n u_2 x7_3))) else (some x7)))
set_option maxRecDepth 100000 in
set_option maxHeartbeats 4000000 in
theorem lb_X11_hoursOf_8 (g : zG)  {r : Int32} {M0 : zM} (E : zX g p m c cX11_hoursOf 8 s args (zWs yX11_hoursOf cX11_hoursOf 8 (some .int)) RX11) (hret : zRi g rE 15 p l e (zrm 9 0 0) s m args below meth c 0 0 Q cX11_hoursOf .int (fun v M1 => v = r ∧ M1 = M0)) (M : zM) (x2 : Int32) (x3 : Int32) (x4 : Int32) (x5 : Int32) (hM : M = M0)  : ∀ (n : Nat) (x6 : Int32) (x7 : Int32) (H : Heap) (locs : List Loc) (ls : Array Slot), b_X11_hoursOf_8  M x2 x3 x4 x5 n x6 x7 = some r → zS g rE 15 s H locs M → lv_has ls 8 [(0, .ref (g.2.2 0)), (2, .int x2), (3, .int x3), (4, .int x4), (5, .int x5), (6, .int x6), (7, .int x7)] → W p l e (zrm 9 0 0) s m args below meth c H locs 0 0 Q (F0 m 8 ls []) := by
  have hx := E.1.1
  have hb := E.1.2.1
  intro n
  induction n with
  | zero => intro x6 x7 H locs ls h hZ hl; cases h
  | succ n ih =>
    intro x6 x7 H locs ls h hZ hl
    rw [b_X11_hoursOf_8] at h
    refine lv_iload hx hb dX11_hoursOf_8 (lv_at hl 6 rfl) ?_
    refine lv_bipush (v := 60) hx hb dX11_hoursOf_10 (by decide) ?_
    refine zic_gt (tgt := 49) h E dX11_hoursOf_12 (by decide) (fun c_5 h => ?_) (fun c_5 h => ?_)
    · exact lb_X11_hoursOf_49 g  E hret M hM  H locs ls h hZ (lv_sub hl [] rfl)
    · refine lv_iload hx hb dX11_hoursOf_15 (lv_at hl 5 rfl) ?_
      refine lv_iload_n hx hb dX11_hoursOf_17 rfl (lv_at hl 1 rfl) ?_
      obtain ⟨u_1, qu_1, h⟩ := zbn_some h
      refine zciR (zrunS E hZ v_X11_has kw_1922 (c_X11_has l g M  x6 x2 qu_1 _) rfl hl.1 rfl (Nat.le_of_ble_eq_true rfl) ⟨by decide, by decide⟩ ⟨by decide, by decide⟩ dX11_hoursOf_18) hZ (fun H locs hZ => ?_)
      refine zif_eq (tgt := 27) h E dX11_hoursOf_21 (by decide) (fun c_4 h => ?_) (fun c_4 h => ?_)
      · refine lv_aload_n hx hb dX11_hoursOf_27 rfl (lv_at hl 0 rfl) ?_
        refine lv_iload hx hb dX11_hoursOf_28 (lv_at hl 5 rfl) ?_
        refine lv_iload_n hx hb dX11_hoursOf_30 rfl (lv_at hl 2 rfl) ?_
        refine lv_iload hx hb dX11_hoursOf_31 (lv_at hl 3 rfl) ?_
        refine lv_iload hx hb dX11_hoursOf_33 (lv_at hl 4 rfl) ?_
        refine lv_iload hx hb dX11_hoursOf_35 (lv_at hl 6 rfl) ?_
        refine lv_iadd hx hb dX11_hoursOf_37 ?_
        obtain ⟨u_2, qu_2, h⟩ := zbn_some h
        refine zciR (zrunV E hZ (by decide) (re_0 _) rfl rfl v_X11_endsOf kw_1925 (c_X11_endsOf l g M  x6 x3 x4 (x5 + x7) qu_2 _) rfl hl.1 rfl (Nat.le_of_ble_eq_true rfl) ⟨by decide, by decide⟩ ⟨by decide, by decide⟩ dX11_hoursOf_38) hZ (fun H locs hZ => ?_)
        refine lv_istore (lv' := [(6, .int u_2), (0, .ref (g.2.2 0)), (2, .int x2), (3, .int x3), (4, .int x4), (5, .int x5), (7, .int x7)]) hx hb dX11_hoursOf_41 hl (by decide) rfl (fun ls hl => ?_)
        obtain ⟨x7_3, ex7_3, h⟩ := znm_ex h
        refine lv_iinc (v := x7_3) (lv' := [(7, .int x7_3), (6, .int u_2), (0, .ref (g.2.2 0)), (2, .int x2), (3, .int x3), (4, .int x4), (5, .int x5)]) hx hb dX11_hoursOf_43 hl (k := 6) rfl (by rw [ex7_3]; rfl) (by decide) rfl (fun ls hl => ?_)
        refine lv_goto (tgt := 8) hx hb dX11_hoursOf_46 (by decide) ?_
        exact ih u_2 x7_3 H locs ls h hZ (lv_sub hl [2, 3, 4, 5, 6, 1, 0] rfl)
      · refine lv_iload hx hb dX11_hoursOf_24 (lv_at hl 6 rfl) ?_
        exact hret _ _ _ _ _ _ ⟨Option.some.inj h, hM⟩ rfl hZ dX11_hoursOf_26
def f_X11_hoursOf (M : zM) (x1 : Int32) (x2 : Int32) (x3 : Int32) (x4 : Int32) (x5 : Int32) : Option (Int32) :=
  znm ((1 : Int32) <<< (x1 &&& 31)) (fun x6_6 => b_X11_hoursOf_8  M x2 x3 x4 x5 6000 x6_6 0)
set_option maxRecDepth 100000 in
set_option maxHeartbeats 4000000 in
theorem w_X11_hoursOf (g : zG)  {r : Int32} {M0 : zM} (E : zX g p m c cX11_hoursOf 8 s args (zWs yX11_hoursOf cX11_hoursOf 8 (some .int)) RX11) (hret : zRi g rE 15 p l e (zrm 9 0 0) s m args below meth c 0 0 Q cX11_hoursOf .int (fun v M1 => v = r ∧ M1 = M0)) (M : zM) (hM : M = M0) (x1 : Int32) (x2 : Int32) (x3 : Int32) (x4 : Int32) (x5 : Int32) (H : Heap) (locs : List Loc) (ls : Array Slot) (h : f_X11_hoursOf M x1 x2 x3 x4 x5 = some r) (hZ : zS g rE 15 s H locs M) (hl : lv_has ls 8 [(0, .ref (g.2.2 0)), (1, .int x1), (2, .int x2), (3, .int x3), (4, .int x4), (5, .int x5)]) : W p l e (zrm 9 0 0) s m args below meth c H locs 0 0 Q (F0 m 0 ls []) := by
  have hx := E.1.1
  have hb := E.1.2.1
  unfold f_X11_hoursOf at h
  refine lv_iconst (v := 1) hx hb dX11_hoursOf_0 (by decide) ?_
  refine lv_iload_n hx hb dX11_hoursOf_1 rfl (lv_at hl 1 rfl) ?_
  refine lv_ishl hx hb dX11_hoursOf_2 ?_
  refine zni h (fun x6_6 ex6_6 h => ?_)
  refine lv_istore (lv' := [(6, .int x6_6), (0, .ref (g.2.2 0)), (1, .int x1), (2, .int x2), (3, .int x3), (4, .int x4), (5, .int x5)]) hx hb dX11_hoursOf_3 hl (by decide) rfl (fun ls hl => ?_)
  refine lv_iconst (v := 0) hx hb dX11_hoursOf_5 (by decide) ?_
  refine lv_istore (lv' := [(7, .int 0), (6, .int x6_6), (0, .ref (g.2.2 0)), (1, .int x1), (2, .int x2), (3, .int x3), (4, .int x4), (5, .int x5)]) hx hb dX11_hoursOf_6 hl (by decide) rfl (fun ls hl => ?_)
  exact lb_X11_hoursOf_8 g  E hret M x2 x3 x4 x5 hM  6000 x6_6 0 H locs ls h hZ (lv_sub hl [2, 4, 5, 6, 7, 1, 0] rfl)
theorem c_X11_hoursOf (l : Launch) (g : zG) (M : zM)  (x1 : Int32) (x2 : Int32) (x3 : Int32) (x4 : Int32) (x5 : Int32) {r : Int32} (h : f_X11_hoursOf M x1 x2 x3 x4 x5 = some r) : zMi l g rE 15 yX11_hoursOf (zWs yX11_hoursOf cX11_hoursOf 8 (some .int)) 9 [.ref (g.2.2 0), .int x1, .int x2, .int x3, .int x4, .int x5] M (fun v M1 => v = r ∧ M1 = M) :=
  zMi_of (by decide +kernel) (Nat.le_of_ble_eq_true rfl) (fun p e s m args below meth c Q ls E hret hZ hl => w_X11_hoursOf g  E hret M rfl x1 x2 x3 x4 x5 _ _ ls h hZ hl)
theorem v_X11_hoursOf : zYV yX11_hoursOf cX11_hoursOf 8 (some .int) 5 := ⟨kw_1921, kw_15, kw_1920, kp_103, by decide +kernel⟩

def f_X11_noWay (M : zM) (x0 : Int32) (x1 : Int32) : Option (Int32) :=
  zbn (f_X11_in M x0 1 4) (fun u_1 => if u_1 = 0 then (some 1) else (zbn (f_X11_in M x1 0 9) (fun u_2 => if u_2 = 0 then (some 1) else (some 0))))
set_option maxRecDepth 100000 in
set_option maxHeartbeats 4000000 in
theorem w_X11_noWay (g : zG)  {r : Int32} {M0 : zM} (E : zX g p m c cX11_noWay 2 s args (zWs yX11_noWay cX11_noWay 2 (some .boolean)) RX11) (hret : zRi g rE 15 p l e (zrm 3 0 0) s m args below meth c 0 0 Q cX11_noWay .boolean (fun v M1 => v = r ∧ M1 = M0)) (M : zM) (hM : M = M0) (x0 : Int32) (x1 : Int32) (H : Heap) (locs : List Loc) (ls : Array Slot) (h : f_X11_noWay M x0 x1 = some r) (hZ : zS g rE 15 s H locs M) (hl : lv_has ls 2 [(0, .int x0), (1, .int x1)]) : W p l e (zrm 3 0 0) s m args below meth c H locs 0 0 Q (F0 m 0 ls []) := by
  have hx := E.1.1
  have hb := E.1.2.1
  unfold f_X11_noWay at h
  refine lv_iload_n hx hb dX11_noWay_0 rfl (lv_at hl 0 rfl) ?_
  refine lv_iconst (v := 1) hx hb dX11_noWay_1 (by decide) ?_
  refine lv_iconst (v := 4) hx hb dX11_noWay_2 (by decide) ?_
  obtain ⟨u_1, qu_1, h⟩ := zbn_some h
  refine zciR (zrunS E hZ v_X11_in kw_1666 (c_X11_in l g M  x0 1 4 qu_1 _) rfl hl.1 rfl (Nat.le_of_ble_eq_true rfl) ⟨by decide, by decide⟩ ⟨by decide, by decide⟩ dX11_noWay_3) hZ (fun H locs hZ => ?_)
  refine zif_eq (tgt := 19) h E dX11_noWay_6 (by decide) (fun c_4 h => ?_) (fun c_4 h => ?_)
  · refine lv_iconst (v := 1) hx hb dX11_noWay_19 (by decide) ?_
    refine lv_goto (tgt := 24) hx hb dX11_noWay_20 (by decide) ?_
    exact hret _ _ _ _ _ _ ⟨Option.some.inj h, hM⟩ rfl hZ dX11_noWay_24
  · refine lv_iload_n hx hb dX11_noWay_9 rfl (lv_at hl 1 rfl) ?_
    refine lv_iconst (v := 0) hx hb dX11_noWay_10 (by decide) ?_
    refine lv_bipush (v := 9) hx hb dX11_noWay_11 (by decide) ?_
    obtain ⟨u_2, qu_2, h⟩ := zbn_some h
    refine zciR (zrunS E hZ v_X11_in kw_1666 (c_X11_in l g M  x1 0 9 qu_2 _) rfl hl.1 rfl (Nat.le_of_ble_eq_true rfl) ⟨by decide, by decide⟩ ⟨by decide, by decide⟩ dX11_noWay_13) hZ (fun H locs hZ => ?_)
    refine zif_ne (tgt := 23) h E dX11_noWay_16 (by decide) (fun c_3 h => ?_) (fun c_3 h => ?_)
    · refine lv_iconst (v := 0) hx hb dX11_noWay_23 (by decide) ?_
      exact hret _ _ _ _ _ _ ⟨Option.some.inj h, hM⟩ rfl hZ dX11_noWay_24
    · refine lv_iconst (v := 1) hx hb dX11_noWay_19 (by decide) ?_
      refine lv_goto (tgt := 24) hx hb dX11_noWay_20 (by decide) ?_
      exact hret _ _ _ _ _ _ ⟨Option.some.inj h, hM⟩ rfl hZ dX11_noWay_24
theorem c_X11_noWay (l : Launch) (g : zG) (M : zM)  (x0 : Int32) (x1 : Int32) {r : Int32} (h : f_X11_noWay M x0 x1 = some r) : zMi l g rE 15 yX11_noWay (zWs yX11_noWay cX11_noWay 2 (some .boolean)) 3 [.int x0, .int x1] M (fun v M1 => v = r ∧ M1 = M) :=
  zMi_of (by decide +kernel) (Nat.le_of_ble_eq_true rfl) (fun p e s m args below meth c Q ls E hret hZ hl => w_X11_noWay g  E hret M rfl x0 x1 _ _ ls h hZ hl)
theorem v_X11_noWay : zYS yX11_noWay cX11_noWay 2 (some .boolean) 2 := ⟨kw_1917, kw_15, kw_1916, by decide +kernel⟩

def b_X11_way_55  (M : zM) (x1 : Int32) (x2 : Int32) (x3 : Int32) (x4 : Int32) (x5 : Int32) (t0 : Int32) : Option (Int32 × zM) :=
  zbn (f_X11_throwsIf M t0 2) (fun u_1 => if u_1.1 = 0 then (zbn (f_X11_hoursOf u_1.2 x1 x2 x3 x4 x5) (fun u_2 => if u_2 < 1000000 then (some (u_2, u_1.2)) else (some ((-1), u_1.2)))) else (some (0, u_1.2)))
set_option maxRecDepth 100000 in
set_option maxHeartbeats 4000000 in
theorem lb_X11_way_55 (g : zG)  {r : Int32 × zM} (E : zX g p m c cX11_way 7 s args (zWs yX11_way cX11_way 7 (some .int)) RX11) (hret : zRi g rE 15 p l e (zrm 10 0 0) s m args below meth c 0 0 Q cX11_way .int (fun v M1 => r = (v, M1))) (M : zM) (x1 : Int32) (x2 : Int32) (x3 : Int32) (x4 : Int32) (x5 : Int32) (t0 : Int32)  (H : Heap) (locs : List Loc) (ls : Array Slot) (h : b_X11_way_55  M x1 x2 x3 x4 x5 t0 = some r) (hZ : zS g rE 15 s H locs M) (hl : lv_has ls 7 [(0, .ref (g.2.2 0)), (1, .int x1), (2, .int x2), (3, .int x3), (4, .int x4), (5, .int x5)]) : W p l e (zrm 10 0 0) s m args below meth c H locs 0 0 Q (F0 m 55 ls [.int t0, .ref (g.2.2 0)]) := by
  have hx := E.1.1
  have hb := E.1.2.1
  unfold b_X11_way_55 at h
  refine lv_iconst (v := 2) hx hb dX11_way_55 (by decide) ?_
  obtain ⟨u_1, qu_1, h⟩ := zbn_some h
  refine zciS (zrunV E hZ (by decide) (re_0 _) rfl rfl v_X11_throwsIf kw_1651 (c_X11_throwsIf l g M  t0 2 qu_1 _) rfl hl.1 rfl (Nat.le_of_ble_eq_true rfl) ⟨by decide, by decide⟩ ⟨by decide, by decide⟩ dX11_way_56) hZ (fun H locs hZ => ?_)
  refine zif_eq (tgt := 64) h E dX11_way_59 (by decide) (fun c_4 h => ?_) (fun c_4 h => ?_)
  · refine lv_aload_n hx hb dX11_way_64 rfl (lv_at hl 0 rfl) ?_
    refine lv_iload_n hx hb dX11_way_65 rfl (lv_at hl 1 rfl) ?_
    refine lv_iload_n hx hb dX11_way_66 rfl (lv_at hl 2 rfl) ?_
    refine lv_iload_n hx hb dX11_way_67 rfl (lv_at hl 3 rfl) ?_
    refine lv_iload hx hb dX11_way_68 (lv_at hl 4 rfl) ?_
    refine lv_iload hx hb dX11_way_70 (lv_at hl 5 rfl) ?_
    obtain ⟨u_2, qu_2, h⟩ := zbn_some h
    refine zciR (zrunV E hZ (by decide) (re_0 _) rfl rfl v_X11_hoursOf kw_1918 (c_X11_hoursOf l g u_1.2  x1 x2 x3 x4 x5 qu_2 _) rfl hl.1 rfl (Nat.le_of_ble_eq_true rfl) ⟨by decide, by decide⟩ ⟨by decide, by decide⟩ dX11_way_72) hZ (fun H locs hZ => ?_)
    refine lv_istore (lv' := [(6, .int u_2), (0, .ref (g.2.2 0)), (1, .int x1), (2, .int x2), (3, .int x3), (4, .int x4), (5, .int x5)]) hx hb dX11_way_75 hl (by decide) rfl (fun ls hl => ?_)
    refine lv_iload hx hb dX11_way_77 (lv_at hl 0 rfl) ?_
    refine lv_ldcw (v := 1000000) hx hb E.1.2.2.2.1 (E.w kw_1933) dX11_way_79 ?_
    refine zic_lt (tgt := 89) h E dX11_way_82 (by decide) (fun c_3 h => ?_) (fun c_3 h => ?_)
    · refine lv_iload hx hb dX11_way_89 (lv_at hl 0 rfl) ?_
      exact hret _ _ _ _ _ _ (Option.some.inj h).symm rfl hZ dX11_way_91
    · refine lv_iconst (v := (-1)) hx hb dX11_way_85 (by decide) ?_
      refine lv_goto (tgt := 91) hx hb dX11_way_86 (by decide) ?_
      exact hret _ _ _ _ _ _ (Option.some.inj h).symm rfl hZ dX11_way_91
  · refine lv_iconst (v := 0) hx hb dX11_way_62 (by decide) ?_
    exact hret _ _ _ _ _ _ (Option.some.inj h).symm rfl hZ dX11_way_63
def b_X11_way_50  (M : zM) (x1 : Int32) (x2 : Int32) (x3 : Int32) (x4 : Int32) (x5 : Int32) : Option (Int32 × zM) :=
  b_X11_way_55  M x1 x2 x3 x4 x5 1
set_option maxRecDepth 100000 in
set_option maxHeartbeats 4000000 in
theorem lb_X11_way_50 (g : zG)  {r : Int32 × zM} (E : zX g p m c cX11_way 7 s args (zWs yX11_way cX11_way 7 (some .int)) RX11) (hret : zRi g rE 15 p l e (zrm 10 0 0) s m args below meth c 0 0 Q cX11_way .int (fun v M1 => r = (v, M1))) (M : zM) (x1 : Int32) (x2 : Int32) (x3 : Int32) (x4 : Int32) (x5 : Int32)  (H : Heap) (locs : List Loc) (ls : Array Slot) (h : b_X11_way_50  M x1 x2 x3 x4 x5 = some r) (hZ : zS g rE 15 s H locs M) (hl : lv_has ls 7 [(0, .ref (g.2.2 0)), (1, .int x1), (2, .int x2), (3, .int x3), (4, .int x4), (5, .int x5)]) : W p l e (zrm 10 0 0) s m args below meth c H locs 0 0 Q (F0 m 50 ls [.ref (g.2.2 0)]) := by
  have hx := E.1.1
  have hb := E.1.2.1
  unfold b_X11_way_50 at h
  refine lv_iconst (v := 1) hx hb dX11_way_50 (by decide) ?_
  refine lv_goto (tgt := 55) hx hb dX11_way_51 (by decide) ?_
  exact lb_X11_way_55 g  E hret M x1 x2 x3 x4 x5 1  H locs ls h hZ (lv_sub hl [0, 1, 2, 3, 4, 5] rfl)
def b_X11_way_25  (M : zM) (x1 : Int32) (x2 : Int32) (x3 : Int32) (x4 : Int32) (x5 : Int32) (t0 : Int32) : Option (Int32 × zM) :=
  zbn (f_X11_throwsIf M t0 1) (fun u_5 => if u_5.1 = 0 then (zbn (f_X11_noWay u_5.2 x3 x4) (fun u_6 => if u_6 = 0 then (zbn (f_X11_noHour u_5.2 x5) (fun u_7 => if u_7 = 0 then (b_X11_way_55  u_5.2 x1 x2 x3 x4 x5 0) else (b_X11_way_50  u_5.2 x1 x2 x3 x4 x5))) else (b_X11_way_50  u_5.2 x1 x2 x3 x4 x5))) else (some (0, u_5.2)))
set_option maxRecDepth 100000 in
set_option maxHeartbeats 4000000 in
theorem lb_X11_way_25 (g : zG)  {r : Int32 × zM} (E : zX g p m c cX11_way 7 s args (zWs yX11_way cX11_way 7 (some .int)) RX11) (hret : zRi g rE 15 p l e (zrm 10 0 0) s m args below meth c 0 0 Q cX11_way .int (fun v M1 => r = (v, M1))) (M : zM) (x1 : Int32) (x2 : Int32) (x3 : Int32) (x4 : Int32) (x5 : Int32) (t0 : Int32)  (H : Heap) (locs : List Loc) (ls : Array Slot) (h : b_X11_way_25  M x1 x2 x3 x4 x5 t0 = some r) (hZ : zS g rE 15 s H locs M) (hl : lv_has ls 7 [(0, .ref (g.2.2 0)), (1, .int x1), (2, .int x2), (3, .int x3), (4, .int x4), (5, .int x5)]) : W p l e (zrm 10 0 0) s m args below meth c H locs 0 0 Q (F0 m 25 ls [.int t0, .ref (g.2.2 0)]) := by
  have hx := E.1.1
  have hb := E.1.2.1
  unfold b_X11_way_25 at h
  refine lv_iconst (v := 1) hx hb dX11_way_25 (by decide) ?_
  obtain ⟨u_5, qu_5, h⟩ := zbn_some h
  refine zciS (zrunV E hZ (by decide) (re_0 _) rfl rfl v_X11_throwsIf kw_1651 (c_X11_throwsIf l g M  t0 1 qu_5 _) rfl hl.1 rfl (Nat.le_of_ble_eq_true rfl) ⟨by decide, by decide⟩ ⟨by decide, by decide⟩ dX11_way_26) hZ (fun H locs hZ => ?_)
  refine zif_ne (tgt := 62) h E dX11_way_29 (by decide) (fun c_10 h => ?_) (fun c_10 h => ?_)
  · refine lv_iconst (v := 0) hx hb dX11_way_62 (by decide) ?_
    exact hret _ _ _ _ _ _ (Option.some.inj h).symm rfl hZ dX11_way_63
  · refine lv_aload_n hx hb dX11_way_32 rfl (lv_at hl 0 rfl) ?_
    refine lv_iload_n hx hb dX11_way_33 rfl (lv_at hl 3 rfl) ?_
    refine lv_iload hx hb dX11_way_34 (lv_at hl 4 rfl) ?_
    obtain ⟨u_6, qu_6, h⟩ := zbn_some h
    refine zciR (zrunS E hZ v_X11_noWay kw_1915 (c_X11_noWay l g u_5.2  x3 x4 qu_6 _) rfl hl.1 rfl (Nat.le_of_ble_eq_true rfl) ⟨by decide, by decide⟩ ⟨by decide, by decide⟩ dX11_way_36) hZ (fun H locs hZ => ?_)
    refine zif_ne (tgt := 50) h E dX11_way_39 (by decide) (fun c_9 h => ?_) (fun c_9 h => ?_)
    · exact lb_X11_way_50 g  E hret u_5.2 x1 x2 x3 x4 x5  H locs ls h hZ (lv_sub hl [0, 1, 2, 3, 4, 5] rfl)
    · refine lv_iload hx hb dX11_way_42 (lv_at hl 5 rfl) ?_
      obtain ⟨u_7, qu_7, h⟩ := zbn_some h
      refine zciR (zrunS E hZ v_X11_noHour kw_1682 (c_X11_noHour l g u_5.2  x5 qu_7 _) rfl hl.1 rfl (Nat.le_of_ble_eq_true rfl) ⟨by decide, by decide⟩ ⟨by decide, by decide⟩ dX11_way_44) hZ (fun H locs hZ => ?_)
      refine zif_eq (tgt := 54) h E dX11_way_47 (by decide) (fun c_8 h => ?_) (fun c_8 h => ?_)
      · refine lv_iconst (v := 0) hx hb dX11_way_54 (by decide) ?_
        exact lb_X11_way_55 g  E hret u_5.2 x1 x2 x3 x4 x5 0  H locs ls h hZ (lv_sub hl [0, 1, 2, 3, 4, 5] rfl)
      · exact lb_X11_way_50 g  E hret u_5.2 x1 x2 x3 x4 x5  H locs ls h hZ (lv_sub hl [0, 1, 2, 3, 4, 5] rfl)
def b_X11_way_20  (M : zM) (x1 : Int32) (x2 : Int32) (x3 : Int32) (x4 : Int32) (x5 : Int32) : Option (Int32 × zM) :=
  b_X11_way_25  M x1 x2 x3 x4 x5 1
set_option maxRecDepth 100000 in
set_option maxHeartbeats 4000000 in
theorem lb_X11_way_20 (g : zG)  {r : Int32 × zM} (E : zX g p m c cX11_way 7 s args (zWs yX11_way cX11_way 7 (some .int)) RX11) (hret : zRi g rE 15 p l e (zrm 10 0 0) s m args below meth c 0 0 Q cX11_way .int (fun v M1 => r = (v, M1))) (M : zM) (x1 : Int32) (x2 : Int32) (x3 : Int32) (x4 : Int32) (x5 : Int32)  (H : Heap) (locs : List Loc) (ls : Array Slot) (h : b_X11_way_20  M x1 x2 x3 x4 x5 = some r) (hZ : zS g rE 15 s H locs M) (hl : lv_has ls 7 [(0, .ref (g.2.2 0)), (1, .int x1), (2, .int x2), (3, .int x3), (4, .int x4), (5, .int x5)]) : W p l e (zrm 10 0 0) s m args below meth c H locs 0 0 Q (F0 m 20 ls [.ref (g.2.2 0)]) := by
  have hx := E.1.1
  have hb := E.1.2.1
  unfold b_X11_way_20 at h
  refine lv_iconst (v := 1) hx hb dX11_way_20 (by decide) ?_
  refine lv_goto (tgt := 25) hx hb dX11_way_21 (by decide) ?_
  exact lb_X11_way_25 g  E hret M x1 x2 x3 x4 x5 1  H locs ls h hZ (lv_sub hl [0, 1, 2, 3, 4, 5] rfl)
def f_X11_way (M : zM) (x1 : Int32) (x2 : Int32) (x3 : Int32) (x4 : Int32) (x5 : Int32) : Option (Int32 × zM) :=
  znm (zu M 0 0 0) (fun M_11 => zbn (f_X11_noPlace M_11 x1) (fun u_12 => if u_12 = 0 then (zbn (f_X11_noPlace M_11 x2) (fun u_13 => if u_13 = 0 then (b_X11_way_25  M_11 x1 x2 x3 x4 x5 0) else (b_X11_way_20  M_11 x1 x2 x3 x4 x5))) else (b_X11_way_20  M_11 x1 x2 x3 x4 x5)))
set_option maxRecDepth 100000 in
set_option maxHeartbeats 4000000 in
theorem w_X11_way (g : zG)  {r : Int32 × zM} (E : zX g p m c cX11_way 7 s args (zWs yX11_way cX11_way 7 (some .int)) RX11) (hret : zRi g rE 15 p l e (zrm 10 0 0) s m args below meth c 0 0 Q cX11_way .int (fun v M1 => r = (v, M1))) (M : zM) (x1 : Int32) (x2 : Int32) (x3 : Int32) (x4 : Int32) (x5 : Int32) (H : Heap) (locs : List Loc) (ls : Array Slot) (h : f_X11_way M x1 x2 x3 x4 x5 = some r) (hZ : zS g rE 15 s H locs M) (hl : lv_has ls 7 [(0, .ref (g.2.2 0)), (1, .int x1), (2, .int x2), (3, .int x3), (4, .int x4), (5, .int x5)]) : W p l e (zrm 10 0 0) s m args below meth c H locs 0 0 Q (F0 m 0 ls []) := by
  have hx := E.1.1
  have hb := E.1.2.1
  unfold f_X11_way at h
  refine lv_aload_n hx hb dX11_way_0 rfl (lv_at hl 0 rfl) ?_
  refine lv_iconst (v := 0) hx hb dX11_way_1 (by decide) ?_
  refine zp h E hZ (by decide) (re_0 _) ((re_0 _).trans (congrArg (fun z => Sum.inr (10, z)) (fs_X11_0 g _ _ _))) kc_X11 (by decide) kw_1368 rfl rfl rfl (Nat.le_of_ble_eq_true rfl) dX11_way_2 (fun M_11 H locs eM_11 h hZ => ?_)
  refine lv_aload_n hx hb dX11_way_5 rfl (lv_at hl 0 rfl) ?_
  refine lv_iload_n hx hb dX11_way_6 rfl (lv_at hl 1 rfl) ?_
  obtain ⟨u_12, qu_12, h⟩ := zbn_some h
  refine zciR (zrunS E hZ v_X11_noPlace kw_1663 (c_X11_noPlace l g M_11  x1 qu_12 _) rfl hl.1 rfl (Nat.le_of_ble_eq_true rfl) ⟨by decide, by decide⟩ ⟨by decide, by decide⟩ dX11_way_7) hZ (fun H locs hZ => ?_)
  refine zif_ne (tgt := 20) h E dX11_way_10 (by decide) (fun c_15 h => ?_) (fun c_15 h => ?_)
  · exact lb_X11_way_20 g  E hret M_11 x1 x2 x3 x4 x5  H locs ls h hZ (lv_sub hl [0, 1, 2, 3, 4, 5] rfl)
  · refine lv_iload_n hx hb dX11_way_13 rfl (lv_at hl 2 rfl) ?_
    obtain ⟨u_13, qu_13, h⟩ := zbn_some h
    refine zciR (zrunS E hZ v_X11_noPlace kw_1663 (c_X11_noPlace l g M_11  x2 qu_13 _) rfl hl.1 rfl (Nat.le_of_ble_eq_true rfl) ⟨by decide, by decide⟩ ⟨by decide, by decide⟩ dX11_way_14) hZ (fun H locs hZ => ?_)
    refine zif_eq (tgt := 24) h E dX11_way_17 (by decide) (fun c_14 h => ?_) (fun c_14 h => ?_)
    · refine lv_iconst (v := 0) hx hb dX11_way_24 (by decide) ?_
      exact lb_X11_way_25 g  E hret M_11 x1 x2 x3 x4 x5 0  H locs ls h hZ (lv_sub hl [0, 1, 2, 3, 4, 5] rfl)
    · exact lb_X11_way_20 g  E hret M_11 x1 x2 x3 x4 x5  H locs ls h hZ (lv_sub hl [0, 1, 2, 3, 4, 5] rfl)
theorem c_X11_way (l : Launch) (g : zG) (M : zM)  (x1 : Int32) (x2 : Int32) (x3 : Int32) (x4 : Int32) (x5 : Int32) {r : Int32 × zM} (h : f_X11_way M x1 x2 x3 x4 x5 = some r) : zMi l g rE 15 yX11_way (zWs yX11_way cX11_way 7 (some .int)) 10 [.ref (g.2.2 0), .int x1, .int x2, .int x3, .int x4, .int x5] M (fun v M1 => r = (v, M1)) :=
  zMi_of (by decide +kernel) (Nat.le_of_ble_eq_true rfl) (fun p e s m args below meth c Q ls E hret hZ hl => w_X11_way g  E hret M x1 x2 x3 x4 x5 _ _ ls h hZ hl)
theorem v_X11_way : zYV yX11_way cX11_way 7 (some .int) 5 := ⟨kw_1914, kw_15, kw_1912, kw_1913, by decide +kernel⟩

def b_X11_start_113  (M : zM) (x6 : Int32) (x7 : Int32) : Option (Int32 × zM) :=
  some (x6 - x7, M)
set_option maxRecDepth 100000 in
set_option maxHeartbeats 4000000 in
theorem lb_X11_start_113 (g : zG)  {r : Int32 × zM} (E : zX g p m c cX11_start 8 s args (zWs yX11_start cX11_start 8 (some .int)) RX11) (hret : zRi g rE 15 p l e (zrm 10 0 0) s m args below meth c 0 0 Q cX11_start .int (fun v M1 => r = (v, M1))) (M : zM) (x6 : Int32) (x7 : Int32)  (H : Heap) (locs : List Loc) (ls : Array Slot) (h : b_X11_start_113  M x6 x7 = some r) (hZ : zS g rE 15 s H locs M) (hl : lv_has ls 8 [(6, .int x6), (7, .int x7)]) : W p l e (zrm 10 0 0) s m args below meth c H locs 0 0 Q (F0 m 113 ls []) := by
  have hx := E.1.1
  have hb := E.1.2.1
  unfold b_X11_start_113 at h
  refine lv_iload hx hb dX11_start_113 (lv_at hl 0 rfl) ?_
  refine lv_iload hx hb dX11_start_115 (lv_at hl 1 rfl) ?_
  refine lv_isub hx hb dX11_start_117 ?_
  exact hret _ _ _ _ _ _ (Option.some.inj h).symm rfl hZ dX11_start_118
def b_X11_start_82  (M : zM) (x1 : Int32) (x2 : Int32) (x3 : Int32) (x4 : Int32) (x6 : Int32) : Nat → Int32 → Option (Int32 × zM)
  | 0, _ => none
  | n + 1, x7 =>
    zck (zin 5 2030) (if (M 1 (5 : Int32).toNatClampNeg) ≤ x7 then (some ((-1), M)) else (zbn (f_X11_hoursOf M x1 x2 x3 x4 (x6 - x7)) (fun u_1 => if 1000000 ≤ u_1 then (znm (x7 + 1) (fun x7_2 => b_X11_start_82  M x1 x2 x3 x4 x6 n x7_2)) else (b_X11_start_113  M x6 x7))))
set_option maxRecDepth 100000 in
set_option maxHeartbeats 4000000 in
theorem lb_X11_start_82 (g : zG)  {r : Int32 × zM} (E : zX g p m c cX11_start 8 s args (zWs yX11_start cX11_start 8 (some .int)) RX11) (hret : zRi g rE 15 p l e (zrm 10 0 0) s m args below meth c 0 0 Q cX11_start .int (fun v M1 => r = (v, M1))) (M : zM) (x1 : Int32) (x2 : Int32) (x3 : Int32) (x4 : Int32) (x6 : Int32)  : ∀ (n : Nat) (x7 : Int32) (H : Heap) (locs : List Loc) (ls : Array Slot), b_X11_start_82  M x1 x2 x3 x4 x6 n x7 = some r → zS g rE 15 s H locs M → lv_has ls 8 [(0, .ref (g.2.2 0)), (1, .int x1), (2, .int x2), (3, .int x3), (4, .int x4), (6, .int x6), (7, .int x7)] → W p l e (zrm 10 0 0) s m args below meth c H locs 0 0 Q (F0 m 82 ls []) := by
  have hx := E.1.1
  have hb := E.1.2.1
  intro n
  induction n with
  | zero => intro x7 H locs ls h hZ hl; cases h
  | succ n ih =>
    intro x7 H locs ls h hZ hl
    rw [b_X11_start_82] at h
    refine lv_iload hx hb dX11_start_82 (lv_at hl 6 rfl) ?_
    refine lv_aload_n hx hb dX11_start_84 rfl (lv_at hl 0 rfl) ?_
    refine zg (v := .ref (g.2.2 1)) E hZ (by decide) (re_0 _) kc_X11 1 (by decide) kw_1369 rfl rfl dX11_start_85 ?_
    refine lv_iconst (v := 5) hx hb dX11_start_88 (by decide) ?_
    refine zia h E hZ (by decide) re_1 dX11_start_89 (fun h => ?_)
    refine zic_ge (tgt := 125) h E dX11_start_90 (by decide) (fun c_4 h => ?_) (fun c_4 h => ?_)
    · refine lv_iconst (v := (-1)) hx hb dX11_start_125 (by decide) ?_
      exact hret _ _ _ _ _ _ (Option.some.inj h).symm rfl hZ dX11_start_126
    · refine lv_aload_n hx hb dX11_start_93 rfl (lv_at hl 0 rfl) ?_
      refine lv_iload_n hx hb dX11_start_94 rfl (lv_at hl 1 rfl) ?_
      refine lv_iload_n hx hb dX11_start_95 rfl (lv_at hl 2 rfl) ?_
      refine lv_iload_n hx hb dX11_start_96 rfl (lv_at hl 3 rfl) ?_
      refine lv_iload hx hb dX11_start_97 (lv_at hl 4 rfl) ?_
      refine lv_iload hx hb dX11_start_99 (lv_at hl 5 rfl) ?_
      refine lv_iload hx hb dX11_start_101 (lv_at hl 6 rfl) ?_
      refine lv_isub hx hb dX11_start_103 ?_
      obtain ⟨u_1, qu_1, h⟩ := zbn_some h
      refine zciR (zrunV E hZ (by decide) (re_0 _) rfl rfl v_X11_hoursOf kw_1918 (c_X11_hoursOf l g M  x1 x2 x3 x4 (x6 - x7) qu_1 _) rfl hl.1 rfl (Nat.le_of_ble_eq_true rfl) ⟨by decide, by decide⟩ ⟨by decide, by decide⟩ dX11_start_104) hZ (fun H locs hZ => ?_)
      refine lv_ldcw (v := 1000000) hx hb E.1.2.2.2.1 (E.w kw_1933) dX11_start_107 ?_
      refine zic_ge (tgt := 119) h E dX11_start_110 (by decide) (fun c_3 h => ?_) (fun c_3 h => ?_)
      · obtain ⟨x7_2, ex7_2, h⟩ := znm_ex h
        refine lv_iinc (v := x7_2) (lv' := [(7, .int x7_2), (0, .ref (g.2.2 0)), (1, .int x1), (2, .int x2), (3, .int x3), (4, .int x4), (6, .int x6)]) hx hb dX11_start_119 hl (k := 6) rfl (by rw [ex7_2]; rfl) (by decide) rfl (fun ls hl => ?_)
        refine lv_goto (tgt := 82) hx hb dX11_start_122 (by decide) ?_
        exact ih x7_2 H locs ls h hZ (lv_sub hl [1, 2, 3, 4, 5, 6, 0] rfl)
      · exact lb_X11_start_113 g  E hret M x6 x7  H locs ls h hZ (lv_sub hl [5, 6] rfl)
def b_X11_start_55  (M : zM) (x1 : Int32) (x2 : Int32) (x3 : Int32) (x4 : Int32) (x5 : Int32) (t0 : Int32) : Option (Int32 × zM) :=
  zbn (f_X11_throwsIf M t0 2) (fun u_5 => if u_5.1 = 0 then (zck (zin 5 2030) (znm (((u_5.2 1 (5 : Int32).toNatClampNeg) * (x5 + 1)) - 1) (fun x6_6 => b_X11_start_82  u_5.2 x1 x2 x3 x4 x6_6 6000 0))) else (some (0, u_5.2)))
set_option maxRecDepth 100000 in
set_option maxHeartbeats 4000000 in
theorem lb_X11_start_55 (g : zG)  {r : Int32 × zM} (E : zX g p m c cX11_start 8 s args (zWs yX11_start cX11_start 8 (some .int)) RX11) (hret : zRi g rE 15 p l e (zrm 10 0 0) s m args below meth c 0 0 Q cX11_start .int (fun v M1 => r = (v, M1))) (M : zM) (x1 : Int32) (x2 : Int32) (x3 : Int32) (x4 : Int32) (x5 : Int32) (t0 : Int32)  (H : Heap) (locs : List Loc) (ls : Array Slot) (h : b_X11_start_55  M x1 x2 x3 x4 x5 t0 = some r) (hZ : zS g rE 15 s H locs M) (hl : lv_has ls 8 [(0, .ref (g.2.2 0)), (1, .int x1), (2, .int x2), (3, .int x3), (4, .int x4), (5, .int x5)]) : W p l e (zrm 10 0 0) s m args below meth c H locs 0 0 Q (F0 m 55 ls [.int t0, .ref (g.2.2 0)]) := by
  have hx := E.1.1
  have hb := E.1.2.1
  unfold b_X11_start_55 at h
  refine lv_iconst (v := 2) hx hb dX11_start_55 (by decide) ?_
  obtain ⟨u_5, qu_5, h⟩ := zbn_some h
  refine zciS (zrunV E hZ (by decide) (re_0 _) rfl rfl v_X11_throwsIf kw_1651 (c_X11_throwsIf l g M  t0 2 qu_5 _) rfl hl.1 rfl (Nat.le_of_ble_eq_true rfl) ⟨by decide, by decide⟩ ⟨by decide, by decide⟩ dX11_start_56) hZ (fun H locs hZ => ?_)
  refine zif_eq (tgt := 64) h E dX11_start_59 (by decide) (fun c_7 h => ?_) (fun c_7 h => ?_)
  · refine lv_aload_n hx hb dX11_start_64 rfl (lv_at hl 0 rfl) ?_
    refine zg (v := .ref (g.2.2 1)) E hZ (by decide) (re_0 _) kc_X11 1 (by decide) kw_1369 rfl rfl dX11_start_65 ?_
    refine lv_iconst (v := 5) hx hb dX11_start_68 (by decide) ?_
    refine zia h E hZ (by decide) re_1 dX11_start_69 (fun h => ?_)
    refine lv_iload hx hb dX11_start_70 (lv_at hl 5 rfl) ?_
    refine lv_iconst (v := 1) hx hb dX11_start_72 (by decide) ?_
    refine lv_iadd hx hb dX11_start_73 ?_
    refine lv_imul hx hb dX11_start_74 ?_
    refine lv_iconst (v := 1) hx hb dX11_start_75 (by decide) ?_
    refine lv_isub hx hb dX11_start_76 ?_
    refine zni h (fun x6_6 ex6_6 h => ?_)
    refine lv_istore (lv' := [(6, .int x6_6), (0, .ref (g.2.2 0)), (1, .int x1), (2, .int x2), (3, .int x3), (4, .int x4), (5, .int x5)]) hx hb dX11_start_77 hl (by decide) rfl (fun ls hl => ?_)
    refine lv_iconst (v := 0) hx hb dX11_start_79 (by decide) ?_
    refine lv_istore (lv' := [(7, .int 0), (6, .int x6_6), (0, .ref (g.2.2 0)), (1, .int x1), (2, .int x2), (3, .int x3), (4, .int x4), (5, .int x5)]) hx hb dX11_start_80 hl (by decide) rfl (fun ls hl => ?_)
    exact lb_X11_start_82 g  E hret u_5.2 x1 x2 x3 x4 x6_6  6000 0 H locs ls h hZ (lv_sub hl [2, 3, 4, 5, 6, 1, 0] rfl)
  · refine lv_iconst (v := 0) hx hb dX11_start_62 (by decide) ?_
    exact hret _ _ _ _ _ _ (Option.some.inj h).symm rfl hZ dX11_start_63
def b_X11_start_50  (M : zM) (x1 : Int32) (x2 : Int32) (x3 : Int32) (x4 : Int32) (x5 : Int32) : Option (Int32 × zM) :=
  b_X11_start_55  M x1 x2 x3 x4 x5 1
set_option maxRecDepth 100000 in
set_option maxHeartbeats 4000000 in
theorem lb_X11_start_50 (g : zG)  {r : Int32 × zM} (E : zX g p m c cX11_start 8 s args (zWs yX11_start cX11_start 8 (some .int)) RX11) (hret : zRi g rE 15 p l e (zrm 10 0 0) s m args below meth c 0 0 Q cX11_start .int (fun v M1 => r = (v, M1))) (M : zM) (x1 : Int32) (x2 : Int32) (x3 : Int32) (x4 : Int32) (x5 : Int32)  (H : Heap) (locs : List Loc) (ls : Array Slot) (h : b_X11_start_50  M x1 x2 x3 x4 x5 = some r) (hZ : zS g rE 15 s H locs M) (hl : lv_has ls 8 [(0, .ref (g.2.2 0)), (1, .int x1), (2, .int x2), (3, .int x3), (4, .int x4), (5, .int x5)]) : W p l e (zrm 10 0 0) s m args below meth c H locs 0 0 Q (F0 m 50 ls [.ref (g.2.2 0)]) := by
  have hx := E.1.1
  have hb := E.1.2.1
  unfold b_X11_start_50 at h
  refine lv_iconst (v := 1) hx hb dX11_start_50 (by decide) ?_
  refine lv_goto (tgt := 55) hx hb dX11_start_51 (by decide) ?_
  exact lb_X11_start_55 g  E hret M x1 x2 x3 x4 x5 1  H locs ls h hZ (lv_sub hl [0, 1, 2, 3, 4, 5] rfl)
def b_X11_start_25  (M : zM) (x1 : Int32) (x2 : Int32) (x3 : Int32) (x4 : Int32) (x5 : Int32) (t0 : Int32) : Option (Int32 × zM) :=
  zbn (f_X11_throwsIf M t0 1) (fun u_8 => if u_8.1 = 0 then (zbn (f_X11_noWay u_8.2 x3 x4) (fun u_9 => if u_9 = 0 then (zbn (f_X11_noTide u_8.2 x5) (fun u_10 => if u_10 = 0 then (b_X11_start_55  u_8.2 x1 x2 x3 x4 x5 0) else (b_X11_start_50  u_8.2 x1 x2 x3 x4 x5))) else (b_X11_start_50  u_8.2 x1 x2 x3 x4 x5))) else (some (0, u_8.2)))
set_option maxRecDepth 100000 in
set_option maxHeartbeats 4000000 in
theorem lb_X11_start_25 (g : zG)  {r : Int32 × zM} (E : zX g p m c cX11_start 8 s args (zWs yX11_start cX11_start 8 (some .int)) RX11) (hret : zRi g rE 15 p l e (zrm 10 0 0) s m args below meth c 0 0 Q cX11_start .int (fun v M1 => r = (v, M1))) (M : zM) (x1 : Int32) (x2 : Int32) (x3 : Int32) (x4 : Int32) (x5 : Int32) (t0 : Int32)  (H : Heap) (locs : List Loc) (ls : Array Slot) (h : b_X11_start_25  M x1 x2 x3 x4 x5 t0 = some r) (hZ : zS g rE 15 s H locs M) (hl : lv_has ls 8 [(0, .ref (g.2.2 0)), (1, .int x1), (2, .int x2), (3, .int x3), (4, .int x4), (5, .int x5)]) : W p l e (zrm 10 0 0) s m args below meth c H locs 0 0 Q (F0 m 25 ls [.int t0, .ref (g.2.2 0)]) := by
  have hx := E.1.1
  have hb := E.1.2.1
  unfold b_X11_start_25 at h
  refine lv_iconst (v := 1) hx hb dX11_start_25 (by decide) ?_
  obtain ⟨u_8, qu_8, h⟩ := zbn_some h
  refine zciS (zrunV E hZ (by decide) (re_0 _) rfl rfl v_X11_throwsIf kw_1651 (c_X11_throwsIf l g M  t0 1 qu_8 _) rfl hl.1 rfl (Nat.le_of_ble_eq_true rfl) ⟨by decide, by decide⟩ ⟨by decide, by decide⟩ dX11_start_26) hZ (fun H locs hZ => ?_)
  refine zif_ne (tgt := 62) h E dX11_start_29 (by decide) (fun c_13 h => ?_) (fun c_13 h => ?_)
  · refine lv_iconst (v := 0) hx hb dX11_start_62 (by decide) ?_
    exact hret _ _ _ _ _ _ (Option.some.inj h).symm rfl hZ dX11_start_63
  · refine lv_aload_n hx hb dX11_start_32 rfl (lv_at hl 0 rfl) ?_
    refine lv_iload_n hx hb dX11_start_33 rfl (lv_at hl 3 rfl) ?_
    refine lv_iload hx hb dX11_start_34 (lv_at hl 4 rfl) ?_
    obtain ⟨u_9, qu_9, h⟩ := zbn_some h
    refine zciR (zrunS E hZ v_X11_noWay kw_1915 (c_X11_noWay l g u_8.2  x3 x4 qu_9 _) rfl hl.1 rfl (Nat.le_of_ble_eq_true rfl) ⟨by decide, by decide⟩ ⟨by decide, by decide⟩ dX11_start_36) hZ (fun H locs hZ => ?_)
    refine zif_ne (tgt := 50) h E dX11_start_39 (by decide) (fun c_12 h => ?_) (fun c_12 h => ?_)
    · exact lb_X11_start_50 g  E hret u_8.2 x1 x2 x3 x4 x5  H locs ls h hZ (lv_sub hl [0, 1, 2, 3, 4, 5] rfl)
    · refine lv_iload hx hb dX11_start_42 (lv_at hl 5 rfl) ?_
      obtain ⟨u_10, qu_10, h⟩ := zbn_some h
      refine zciR (zrunS E hZ v_X11_noTide kw_1722 (c_X11_noTide l g u_8.2  x5 qu_10 _) rfl hl.1 rfl (Nat.le_of_ble_eq_true rfl) ⟨by decide, by decide⟩ ⟨by decide, by decide⟩ dX11_start_44) hZ (fun H locs hZ => ?_)
      refine zif_eq (tgt := 54) h E dX11_start_47 (by decide) (fun c_11 h => ?_) (fun c_11 h => ?_)
      · refine lv_iconst (v := 0) hx hb dX11_start_54 (by decide) ?_
        exact lb_X11_start_55 g  E hret u_8.2 x1 x2 x3 x4 x5 0  H locs ls h hZ (lv_sub hl [0, 1, 2, 3, 4, 5] rfl)
      · exact lb_X11_start_50 g  E hret u_8.2 x1 x2 x3 x4 x5  H locs ls h hZ (lv_sub hl [0, 1, 2, 3, 4, 5] rfl)
def b_X11_start_20  (M : zM) (x1 : Int32) (x2 : Int32) (x3 : Int32) (x4 : Int32) (x5 : Int32) : Option (Int32 × zM) :=
  b_X11_start_25  M x1 x2 x3 x4 x5 1
set_option maxRecDepth 100000 in
set_option maxHeartbeats 4000000 in
theorem lb_X11_start_20 (g : zG)  {r : Int32 × zM} (E : zX g p m c cX11_start 8 s args (zWs yX11_start cX11_start 8 (some .int)) RX11) (hret : zRi g rE 15 p l e (zrm 10 0 0) s m args below meth c 0 0 Q cX11_start .int (fun v M1 => r = (v, M1))) (M : zM) (x1 : Int32) (x2 : Int32) (x3 : Int32) (x4 : Int32) (x5 : Int32)  (H : Heap) (locs : List Loc) (ls : Array Slot) (h : b_X11_start_20  M x1 x2 x3 x4 x5 = some r) (hZ : zS g rE 15 s H locs M) (hl : lv_has ls 8 [(0, .ref (g.2.2 0)), (1, .int x1), (2, .int x2), (3, .int x3), (4, .int x4), (5, .int x5)]) : W p l e (zrm 10 0 0) s m args below meth c H locs 0 0 Q (F0 m 20 ls [.ref (g.2.2 0)]) := by
  have hx := E.1.1
  have hb := E.1.2.1
  unfold b_X11_start_20 at h
  refine lv_iconst (v := 1) hx hb dX11_start_20 (by decide) ?_
  refine lv_goto (tgt := 25) hx hb dX11_start_21 (by decide) ?_
  exact lb_X11_start_25 g  E hret M x1 x2 x3 x4 x5 1  H locs ls h hZ (lv_sub hl [0, 1, 2, 3, 4, 5] rfl)
def f_X11_start (M : zM) (x1 : Int32) (x2 : Int32) (x3 : Int32) (x4 : Int32) (x5 : Int32) : Option (Int32 × zM) :=
  znm (zu M 0 0 0) (fun M_14 => zbn (f_X11_noPlace M_14 x1) (fun u_15 => if u_15 = 0 then (zbn (f_X11_noPlace M_14 x2) (fun u_16 => if u_16 = 0 then (b_X11_start_25  M_14 x1 x2 x3 x4 x5 0) else (b_X11_start_20  M_14 x1 x2 x3 x4 x5))) else (b_X11_start_20  M_14 x1 x2 x3 x4 x5)))
set_option maxRecDepth 100000 in
set_option maxHeartbeats 4000000 in
theorem w_X11_start (g : zG)  {r : Int32 × zM} (E : zX g p m c cX11_start 8 s args (zWs yX11_start cX11_start 8 (some .int)) RX11) (hret : zRi g rE 15 p l e (zrm 10 0 0) s m args below meth c 0 0 Q cX11_start .int (fun v M1 => r = (v, M1))) (M : zM) (x1 : Int32) (x2 : Int32) (x3 : Int32) (x4 : Int32) (x5 : Int32) (H : Heap) (locs : List Loc) (ls : Array Slot) (h : f_X11_start M x1 x2 x3 x4 x5 = some r) (hZ : zS g rE 15 s H locs M) (hl : lv_has ls 8 [(0, .ref (g.2.2 0)), (1, .int x1), (2, .int x2), (3, .int x3), (4, .int x4), (5, .int x5)]) : W p l e (zrm 10 0 0) s m args below meth c H locs 0 0 Q (F0 m 0 ls []) := by
  have hx := E.1.1
  have hb := E.1.2.1
  unfold f_X11_start at h
  refine lv_aload_n hx hb dX11_start_0 rfl (lv_at hl 0 rfl) ?_
  refine lv_iconst (v := 0) hx hb dX11_start_1 (by decide) ?_
  refine zp h E hZ (by decide) (re_0 _) ((re_0 _).trans (congrArg (fun z => Sum.inr (10, z)) (fs_X11_0 g _ _ _))) kc_X11 (by decide) kw_1368 rfl rfl rfl (Nat.le_of_ble_eq_true rfl) dX11_start_2 (fun M_14 H locs eM_14 h hZ => ?_)
  refine lv_aload_n hx hb dX11_start_5 rfl (lv_at hl 0 rfl) ?_
  refine lv_iload_n hx hb dX11_start_6 rfl (lv_at hl 1 rfl) ?_
  obtain ⟨u_15, qu_15, h⟩ := zbn_some h
  refine zciR (zrunS E hZ v_X11_noPlace kw_1663 (c_X11_noPlace l g M_14  x1 qu_15 _) rfl hl.1 rfl (Nat.le_of_ble_eq_true rfl) ⟨by decide, by decide⟩ ⟨by decide, by decide⟩ dX11_start_7) hZ (fun H locs hZ => ?_)
  refine zif_ne (tgt := 20) h E dX11_start_10 (by decide) (fun c_18 h => ?_) (fun c_18 h => ?_)
  · exact lb_X11_start_20 g  E hret M_14 x1 x2 x3 x4 x5  H locs ls h hZ (lv_sub hl [0, 1, 2, 3, 4, 5] rfl)
  · refine lv_iload_n hx hb dX11_start_13 rfl (lv_at hl 2 rfl) ?_
    obtain ⟨u_16, qu_16, h⟩ := zbn_some h
    refine zciR (zrunS E hZ v_X11_noPlace kw_1663 (c_X11_noPlace l g M_14  x2 qu_16 _) rfl hl.1 rfl (Nat.le_of_ble_eq_true rfl) ⟨by decide, by decide⟩ ⟨by decide, by decide⟩ dX11_start_14) hZ (fun H locs hZ => ?_)
    refine zif_eq (tgt := 24) h E dX11_start_17 (by decide) (fun c_17 h => ?_) (fun c_17 h => ?_)
    · refine lv_iconst (v := 0) hx hb dX11_start_24 (by decide) ?_
      exact lb_X11_start_25 g  E hret M_14 x1 x2 x3 x4 x5 0  H locs ls h hZ (lv_sub hl [0, 1, 2, 3, 4, 5] rfl)
    · exact lb_X11_start_20 g  E hret M_14 x1 x2 x3 x4 x5  H locs ls h hZ (lv_sub hl [0, 1, 2, 3, 4, 5] rfl)
theorem c_X11_start (l : Launch) (g : zG) (M : zM)  (x1 : Int32) (x2 : Int32) (x3 : Int32) (x4 : Int32) (x5 : Int32) {r : Int32 × zM} (h : f_X11_start M x1 x2 x3 x4 x5 = some r) : zMi l g rE 15 yX11_start (zWs yX11_start cX11_start 8 (some .int)) 10 [.ref (g.2.2 0), .int x1, .int x2, .int x3, .int x4, .int x5] M (fun v M1 => r = (v, M1)) :=
  zMi_of (by decide +kernel) (Nat.le_of_ble_eq_true rfl) (fun p e s m args below meth c Q ls E hret hZ hl => w_X11_start g  E hret M x1 x2 x3 x4 x5 _ _ ls h hZ hl)
theorem v_X11_start : zYV yX11_start cX11_start 8 (some .int) 5 := ⟨kw_1937, kw_15, kw_1935, kw_1936, by decide +kernel⟩

def b_X11_safe_151 (K76 : Int32 → Int32 → Option (Int32 × zM)) (M : zM) (x1 : Int32) (x2 : Int32) (x3 : Int32) (x4 : Int32) (x6 : Int32) (t0 : Int32) (t1 : Int32) : Option (Int32 × zM) :=
  znm (t1 + t0) (fun x5_1 => znm (x6 + 1) (fun x6_2 => K76 x5_1 x6_2))
set_option maxRecDepth 100000 in
set_option maxHeartbeats 4000000 in
theorem lb_X11_safe_151 (g : zG)  {r : Int32 × zM} (E : zX g p m c cX11_safe 9 s args (zWs yX11_safe cX11_safe 9 (some .int)) RX11) (hret : zRi g rE 15 p l e (zrm 7 0 0) s m args below meth c 0 0 Q cX11_safe .int (fun v M1 => r = (v, M1))) (M : zM) (x1 : Int32) (x2 : Int32) (x3 : Int32) (x4 : Int32) (x6 : Int32) (t0 : Int32) (t1 : Int32) (K76 : Int32 → Int32 → Option (Int32 × zM)) (hK76 : ∀ (x5 : Int32) (x6 : Int32) (H : Heap) (locs : List Loc) (ls : Array Slot), K76 x5 x6 = some r → zS g rE 15 s H locs M → lv_has ls 9 [(0, .ref (g.2.2 0)), (1, .int x1), (2, .int x2), (3, .int x3), (4, .int x4), (5, .int x5), (6, .int x6)] → W p l e (zrm 7 0 0) s m args below meth c H locs 0 0 Q (F0 m 76 ls [])) (H : Heap) (locs : List Loc) (ls : Array Slot) (h : b_X11_safe_151 K76 M x1 x2 x3 x4 x6 t0 t1 = some r) (hZ : zS g rE 15 s H locs M) (hl : lv_has ls 9 [(0, .ref (g.2.2 0)), (1, .int x1), (2, .int x2), (3, .int x3), (4, .int x4), (6, .int x6)]) : W p l e (zrm 7 0 0) s m args below meth c H locs 0 0 Q (F0 m 151 ls [.int t0, .int t1]) := by
  have hx := E.1.1
  have hb := E.1.2.1
  unfold b_X11_safe_151 at h
  refine lv_iadd hx hb dX11_safe_151 ?_
  refine zni h (fun x5_1 ex5_1 h => ?_)
  refine lv_istore (lv' := [(5, .int x5_1), (0, .ref (g.2.2 0)), (1, .int x1), (2, .int x2), (3, .int x3), (4, .int x4), (6, .int x6)]) hx hb dX11_safe_152 hl (by decide) rfl (fun ls hl => ?_)
  obtain ⟨x6_2, ex6_2, h⟩ := znm_ex h
  refine lv_iinc (v := x6_2) (lv' := [(6, .int x6_2), (5, .int x5_1), (0, .ref (g.2.2 0)), (1, .int x1), (2, .int x2), (3, .int x3), (4, .int x4)]) hx hb dX11_safe_154 hl (k := 6) rfl (by rw [ex6_2]; rfl) (by decide) rfl (fun ls hl => ?_)
  refine lv_goto (tgt := 76) hx hb dX11_safe_157 (by decide) ?_
  exact hK76 x5_1 x6_2 H locs ls h hZ (lv_sub hl [2, 3, 4, 5, 6, 1, 0] rfl)
def b_X11_safe_139 (K76 : Int32 → Int32 → Option (Int32 × zM)) (M : zM) (x1 : Int32) (x2 : Int32) (x3 : Int32) (x4 : Int32) (x5 : Int32) (x6 : Int32) (x7 : Int32) : Option (Int32 × zM) :=
  if x7 = 0 then (b_X11_safe_151 K76 M x1 x2 x3 x4 x6 0 x5) else (b_X11_safe_151 K76 M x1 x2 x3 x4 x6 1 x5)
set_option maxRecDepth 100000 in
set_option maxHeartbeats 4000000 in
theorem lb_X11_safe_139 (g : zG)  {r : Int32 × zM} (E : zX g p m c cX11_safe 9 s args (zWs yX11_safe cX11_safe 9 (some .int)) RX11) (hret : zRi g rE 15 p l e (zrm 7 0 0) s m args below meth c 0 0 Q cX11_safe .int (fun v M1 => r = (v, M1))) (M : zM) (x1 : Int32) (x2 : Int32) (x3 : Int32) (x4 : Int32) (x5 : Int32) (x6 : Int32) (x7 : Int32) (K76 : Int32 → Int32 → Option (Int32 × zM)) (hK76 : ∀ (x5 : Int32) (x6 : Int32) (H : Heap) (locs : List Loc) (ls : Array Slot), K76 x5 x6 = some r → zS g rE 15 s H locs M → lv_has ls 9 [(0, .ref (g.2.2 0)), (1, .int x1), (2, .int x2), (3, .int x3), (4, .int x4), (5, .int x5), (6, .int x6)] → W p l e (zrm 7 0 0) s m args below meth c H locs 0 0 Q (F0 m 76 ls [])) (H : Heap) (locs : List Loc) (ls : Array Slot) (h : b_X11_safe_139 K76 M x1 x2 x3 x4 x5 x6 x7 = some r) (hZ : zS g rE 15 s H locs M) (hl : lv_has ls 9 [(0, .ref (g.2.2 0)), (1, .int x1), (2, .int x2), (3, .int x3), (4, .int x4), (5, .int x5), (6, .int x6), (7, .int x7)]) : W p l e (zrm 7 0 0) s m args below meth c H locs 0 0 Q (F0 m 139 ls []) := by
  have hx := E.1.1
  have hb := E.1.2.1
  unfold b_X11_safe_139 at h
  refine lv_iload hx hb dX11_safe_139 (lv_at hl 5 rfl) ?_
  refine lv_iload hx hb dX11_safe_141 (lv_at hl 7 rfl) ?_
  refine zif_eq (tgt := 150) h E dX11_safe_143 (by decide) (fun c_3 h => ?_) (fun c_3 h => ?_)
  · refine lv_iconst (v := 0) hx hb dX11_safe_150 (by decide) ?_
    exact lb_X11_safe_151 g  E hret M x1 x2 x3 x4 x6 0 x5 K76 hK76 H locs ls h hZ (lv_sub hl [0, 1, 2, 3, 4, 6] rfl)
  · refine lv_iconst (v := 1) hx hb dX11_safe_146 (by decide) ?_
    refine lv_goto (tgt := 151) hx hb dX11_safe_147 (by decide) ?_
    exact lb_X11_safe_151 g  E hret M x1 x2 x3 x4 x6 1 x5 K76 hK76 H locs ls h hZ (lv_sub hl [0, 1, 2, 3, 4, 6] rfl)
def b_X11_safe_131 (K93 : Int32 → Int32 → Option (Int32 × zM)) (M : zM) (x1 : Int32) (x2 : Int32) (x3 : Int32) (x4 : Int32) (x5 : Int32) (x6 : Int32) (x8 : Int32) (t0 : Int32) : Option (Int32 × zM) :=
  znm (x8 + 1) (fun x8_4 => K93 t0 x8_4)
set_option maxRecDepth 100000 in
set_option maxHeartbeats 4000000 in
theorem lb_X11_safe_131 (g : zG)  {r : Int32 × zM} (E : zX g p m c cX11_safe 9 s args (zWs yX11_safe cX11_safe 9 (some .int)) RX11) (hret : zRi g rE 15 p l e (zrm 7 0 0) s m args below meth c 0 0 Q cX11_safe .int (fun v M1 => r = (v, M1))) (M : zM) (x1 : Int32) (x2 : Int32) (x3 : Int32) (x4 : Int32) (x5 : Int32) (x6 : Int32) (x8 : Int32) (t0 : Int32) (K93 : Int32 → Int32 → Option (Int32 × zM)) (hK93 : ∀ (x7 : Int32) (x8 : Int32) (H : Heap) (locs : List Loc) (ls : Array Slot), K93 x7 x8 = some r → zS g rE 15 s H locs M → lv_has ls 9 [(0, .ref (g.2.2 0)), (1, .int x1), (2, .int x2), (3, .int x3), (4, .int x4), (5, .int x5), (6, .int x6), (7, .int x7), (8, .int x8)] → W p l e (zrm 7 0 0) s m args below meth c H locs 0 0 Q (F0 m 93 ls [])) (H : Heap) (locs : List Loc) (ls : Array Slot) (h : b_X11_safe_131 K93 M x1 x2 x3 x4 x5 x6 x8 t0 = some r) (hZ : zS g rE 15 s H locs M) (hl : lv_has ls 9 [(0, .ref (g.2.2 0)), (1, .int x1), (2, .int x2), (3, .int x3), (4, .int x4), (5, .int x5), (6, .int x6), (8, .int x8)]) : W p l e (zrm 7 0 0) s m args below meth c H locs 0 0 Q (F0 m 131 ls [.int t0]) := by
  have hx := E.1.1
  have hb := E.1.2.1
  unfold b_X11_safe_131 at h
  refine lv_istore (lv' := [(7, .int t0), (0, .ref (g.2.2 0)), (1, .int x1), (2, .int x2), (3, .int x3), (4, .int x4), (5, .int x5), (6, .int x6), (8, .int x8)]) hx hb dX11_safe_131 hl (by decide) rfl (fun ls hl => ?_)
  obtain ⟨x8_4, ex8_4, h⟩ := znm_ex h
  refine lv_iinc (v := x8_4) (lv' := [(8, .int x8_4), (7, .int t0), (0, .ref (g.2.2 0)), (1, .int x1), (2, .int x2), (3, .int x3), (4, .int x4), (5, .int x5), (6, .int x6)]) hx hb dX11_safe_133 hl (k := 8) rfl (by rw [ex8_4]; rfl) (by decide) rfl (fun ls hl => ?_)
  refine lv_goto (tgt := 93) hx hb dX11_safe_136 (by decide) ?_
  exact hK93 t0 x8_4 H locs ls h hZ (lv_sub hl [2, 3, 4, 5, 6, 7, 8, 1, 0] rfl)
def b_X11_safe_130 (K93 : Int32 → Int32 → Option (Int32 × zM)) (M : zM) (x1 : Int32) (x2 : Int32) (x3 : Int32) (x4 : Int32) (x5 : Int32) (x6 : Int32) (x8 : Int32) : Option (Int32 × zM) :=
  b_X11_safe_131 K93 M x1 x2 x3 x4 x5 x6 x8 0
set_option maxRecDepth 100000 in
set_option maxHeartbeats 4000000 in
theorem lb_X11_safe_130 (g : zG)  {r : Int32 × zM} (E : zX g p m c cX11_safe 9 s args (zWs yX11_safe cX11_safe 9 (some .int)) RX11) (hret : zRi g rE 15 p l e (zrm 7 0 0) s m args below meth c 0 0 Q cX11_safe .int (fun v M1 => r = (v, M1))) (M : zM) (x1 : Int32) (x2 : Int32) (x3 : Int32) (x4 : Int32) (x5 : Int32) (x6 : Int32) (x8 : Int32) (K93 : Int32 → Int32 → Option (Int32 × zM)) (hK93 : ∀ (x7 : Int32) (x8 : Int32) (H : Heap) (locs : List Loc) (ls : Array Slot), K93 x7 x8 = some r → zS g rE 15 s H locs M → lv_has ls 9 [(0, .ref (g.2.2 0)), (1, .int x1), (2, .int x2), (3, .int x3), (4, .int x4), (5, .int x5), (6, .int x6), (7, .int x7), (8, .int x8)] → W p l e (zrm 7 0 0) s m args below meth c H locs 0 0 Q (F0 m 93 ls [])) (H : Heap) (locs : List Loc) (ls : Array Slot) (h : b_X11_safe_130 K93 M x1 x2 x3 x4 x5 x6 x8 = some r) (hZ : zS g rE 15 s H locs M) (hl : lv_has ls 9 [(0, .ref (g.2.2 0)), (1, .int x1), (2, .int x2), (3, .int x3), (4, .int x4), (5, .int x5), (6, .int x6), (8, .int x8)]) : W p l e (zrm 7 0 0) s m args below meth c H locs 0 0 Q (F0 m 130 ls []) := by
  have hx := E.1.1
  have hb := E.1.2.1
  unfold b_X11_safe_130 at h
  refine lv_iconst (v := 0) hx hb dX11_safe_130 (by decide) ?_
  exact lb_X11_safe_131 g  E hret M x1 x2 x3 x4 x5 x6 x8 0 K93 hK93 H locs ls h hZ (lv_sub hl [0, 1, 2, 3, 4, 5, 6, 7] rfl)
def b_X11_safe_93 (K76 : Int32 → Int32 → Option (Int32 × zM)) (M : zM) (x1 : Int32) (x2 : Int32) (x3 : Int32) (x4 : Int32) (x5 : Int32) (x6 : Int32) : Nat → Int32 → Int32 → Option (Int32 × zM)
  | 0, _, _ => none
  | n + 1, x7, x8 =>
    if x2 < x8 then (b_X11_safe_139 K76 M x1 x2 x3 x4 x5 x6 x7) else (if x7 = 0 then (b_X11_safe_130 (fun x7 x8 => b_X11_safe_93 K76 M x1 x2 x3 x4 x5 x6 n x7 x8) M x1 x2 x3 x4 x5 x6 x8) else (zck (zin 5 2030) (zbn (f_X11_depthAt M x8 (((M 1 (5 : Int32).toNatClampNeg) * x4) + x6)) (fun u_5 => if x3 < u_5 then (b_X11_safe_130 (fun x7 x8 => b_X11_safe_93 K76 M x1 x2 x3 x4 x5 x6 n x7 x8) M x1 x2 x3 x4 x5 x6 x8) else (b_X11_safe_131 (fun x7 x8 => b_X11_safe_93 K76 M x1 x2 x3 x4 x5 x6 n x7 x8) M x1 x2 x3 x4 x5 x6 x8 1)))))
set_option maxRecDepth 100000 in
set_option maxHeartbeats 4000000 in
theorem lb_X11_safe_93 (g : zG)  {r : Int32 × zM} (E : zX g p m c cX11_safe 9 s args (zWs yX11_safe cX11_safe 9 (some .int)) RX11) (hret : zRi g rE 15 p l e (zrm 7 0 0) s m args below meth c 0 0 Q cX11_safe .int (fun v M1 => r = (v, M1))) (M : zM) (x1 : Int32) (x2 : Int32) (x3 : Int32) (x4 : Int32) (x5 : Int32) (x6 : Int32) (K76 : Int32 → Int32 → Option (Int32 × zM)) (hK76 : ∀ (x5 : Int32) (x6 : Int32) (H : Heap) (locs : List Loc) (ls : Array Slot), K76 x5 x6 = some r → zS g rE 15 s H locs M → lv_has ls 9 [(0, .ref (g.2.2 0)), (1, .int x1), (2, .int x2), (3, .int x3), (4, .int x4), (5, .int x5), (6, .int x6)] → W p l e (zrm 7 0 0) s m args below meth c H locs 0 0 Q (F0 m 76 ls [])) : ∀ (n : Nat) (x7 : Int32) (x8 : Int32) (H : Heap) (locs : List Loc) (ls : Array Slot), b_X11_safe_93 K76 M x1 x2 x3 x4 x5 x6 n x7 x8 = some r → zS g rE 15 s H locs M → lv_has ls 9 [(0, .ref (g.2.2 0)), (1, .int x1), (2, .int x2), (3, .int x3), (4, .int x4), (5, .int x5), (6, .int x6), (7, .int x7), (8, .int x8)] → W p l e (zrm 7 0 0) s m args below meth c H locs 0 0 Q (F0 m 93 ls []) := by
  have hx := E.1.1
  have hb := E.1.2.1
  intro n
  induction n with
  | zero => intro x7 x8 H locs ls h hZ hl; cases h
  | succ n ih =>
    intro x7 x8 H locs ls h hZ hl
    rw [b_X11_safe_93] at h
    refine lv_iload hx hb dX11_safe_93 (lv_at hl 8 rfl) ?_
    refine lv_iload_n hx hb dX11_safe_95 rfl (lv_at hl 2 rfl) ?_
    refine zic_gt (tgt := 139) h E dX11_safe_96 (by decide) (fun c_8 h => ?_) (fun c_8 h => ?_)
    · exact lb_X11_safe_139 g  E hret M x1 x2 x3 x4 x5 x6 x7 K76 hK76 H locs ls h hZ (lv_sub hl [0, 1, 2, 3, 4, 5, 6, 7] rfl)
    · refine lv_iload hx hb dX11_safe_99 (lv_at hl 7 rfl) ?_
      refine zif_eq (tgt := 130) h E dX11_safe_101 (by decide) (fun c_7 h => ?_) (fun c_7 h => ?_)
      · exact lb_X11_safe_130 g  E hret M x1 x2 x3 x4 x5 x6 x8 (fun x7 x8 => b_X11_safe_93 K76 M x1 x2 x3 x4 x5 x6 n x7 x8) ih H locs ls h hZ (lv_sub hl [0, 1, 2, 3, 4, 5, 6, 8] rfl)
      · refine lv_aload_n hx hb dX11_safe_104 rfl (lv_at hl 0 rfl) ?_
        refine lv_iload hx hb dX11_safe_105 (lv_at hl 8 rfl) ?_
        refine lv_aload_n hx hb dX11_safe_107 rfl (lv_at hl 0 rfl) ?_
        refine zg (v := .ref (g.2.2 1)) E hZ (by decide) (re_0 _) kc_X11 1 (by decide) kw_1369 rfl rfl dX11_safe_108 ?_
        refine lv_iconst (v := 5) hx hb dX11_safe_111 (by decide) ?_
        refine zia h E hZ (by decide) re_1 dX11_safe_112 (fun h => ?_)
        refine lv_iload hx hb dX11_safe_113 (lv_at hl 4 rfl) ?_
        refine lv_imul hx hb dX11_safe_115 ?_
        refine lv_iload hx hb dX11_safe_116 (lv_at hl 6 rfl) ?_
        refine lv_iadd hx hb dX11_safe_118 ?_
        obtain ⟨u_5, qu_5, h⟩ := zbn_some h
        refine zciR (zrunV E hZ (by decide) (re_0 _) rfl rfl v_X11_depthAt kw_1702 (c_X11_depthAt l g M  x8 (((M 1 (5 : Int32).toNatClampNeg) * x4) + x6) qu_5 _) rfl hl.1 rfl (Nat.le_of_ble_eq_true rfl) ⟨by decide, by decide⟩ ⟨by decide, by decide⟩ dX11_safe_119) hZ (fun H locs hZ => ?_)
        refine lv_iload_n hx hb dX11_safe_122 rfl (lv_at hl 3 rfl) ?_
        refine zic_gt (tgt := 130) h E dX11_safe_123 (by decide) (fun c_6 h => ?_) (fun c_6 h => ?_)
        · exact lb_X11_safe_130 g  E hret M x1 x2 x3 x4 x5 x6 x8 (fun x7 x8 => b_X11_safe_93 K76 M x1 x2 x3 x4 x5 x6 n x7 x8) ih H locs ls h hZ (lv_sub hl [0, 1, 2, 3, 4, 5, 6, 8] rfl)
        · refine lv_iconst (v := 1) hx hb dX11_safe_126 (by decide) ?_
          refine lv_goto (tgt := 131) hx hb dX11_safe_127 (by decide) ?_
          exact lb_X11_safe_131 g  E hret M x1 x2 x3 x4 x5 x6 x8 1 (fun x7 x8 => b_X11_safe_93 K76 M x1 x2 x3 x4 x5 x6 n x7 x8) ih H locs ls h hZ (lv_sub hl [0, 1, 2, 3, 4, 5, 6, 8] rfl)
def b_X11_safe_76  (M : zM) (x1 : Int32) (x2 : Int32) (x3 : Int32) (x4 : Int32) : Nat → Int32 → Int32 → Option (Int32 × zM)
  | 0, _, _ => none
  | n + 1, x5, x6 =>
    zck (zin 5 2030) (if (M 1 (5 : Int32).toNatClampNeg) ≤ x6 then (some (x5, M)) else (b_X11_safe_93 (fun x5 x6 => b_X11_safe_76  M x1 x2 x3 x4 n x5 x6) M x1 x2 x3 x4 x5 x6 6000 1 x1))
set_option maxRecDepth 100000 in
set_option maxHeartbeats 4000000 in
theorem lb_X11_safe_76 (g : zG)  {r : Int32 × zM} (E : zX g p m c cX11_safe 9 s args (zWs yX11_safe cX11_safe 9 (some .int)) RX11) (hret : zRi g rE 15 p l e (zrm 7 0 0) s m args below meth c 0 0 Q cX11_safe .int (fun v M1 => r = (v, M1))) (M : zM) (x1 : Int32) (x2 : Int32) (x3 : Int32) (x4 : Int32)  : ∀ (n : Nat) (x5 : Int32) (x6 : Int32) (H : Heap) (locs : List Loc) (ls : Array Slot), b_X11_safe_76  M x1 x2 x3 x4 n x5 x6 = some r → zS g rE 15 s H locs M → lv_has ls 9 [(0, .ref (g.2.2 0)), (1, .int x1), (2, .int x2), (3, .int x3), (4, .int x4), (5, .int x5), (6, .int x6)] → W p l e (zrm 7 0 0) s m args below meth c H locs 0 0 Q (F0 m 76 ls []) := by
  have hx := E.1.1
  have hb := E.1.2.1
  intro n
  induction n with
  | zero => intro x5 x6 H locs ls h hZ hl; cases h
  | succ n ih =>
    intro x5 x6 H locs ls h hZ hl
    rw [b_X11_safe_76] at h
    refine lv_iload hx hb dX11_safe_76 (lv_at hl 6 rfl) ?_
    refine lv_aload_n hx hb dX11_safe_78 rfl (lv_at hl 0 rfl) ?_
    refine zg (v := .ref (g.2.2 1)) E hZ (by decide) (re_0 _) kc_X11 1 (by decide) kw_1369 rfl rfl dX11_safe_79 ?_
    refine lv_iconst (v := 5) hx hb dX11_safe_82 (by decide) ?_
    refine zia h E hZ (by decide) re_1 dX11_safe_83 (fun h => ?_)
    refine zic_ge (tgt := 160) h E dX11_safe_84 (by decide) (fun c_9 h => ?_) (fun c_9 h => ?_)
    · refine lv_iload hx hb dX11_safe_160 (lv_at hl 5 rfl) ?_
      exact hret _ _ _ _ _ _ (Option.some.inj h).symm rfl hZ dX11_safe_162
    · refine lv_iconst (v := 1) hx hb dX11_safe_87 (by decide) ?_
      refine lv_istore (lv' := [(7, .int 1), (0, .ref (g.2.2 0)), (1, .int x1), (2, .int x2), (3, .int x3), (4, .int x4), (5, .int x5), (6, .int x6)]) hx hb dX11_safe_88 hl (by decide) rfl (fun ls hl => ?_)
      refine lv_iload_n hx hb dX11_safe_90 rfl (lv_at hl 2 rfl) ?_
      refine lv_istore (lv' := [(8, .int x1), (7, .int 1), (0, .ref (g.2.2 0)), (1, .int x1), (2, .int x2), (3, .int x3), (4, .int x4), (5, .int x5), (6, .int x6)]) hx hb dX11_safe_91 hl (by decide) rfl (fun ls hl => ?_)
      exact lb_X11_safe_93 g  E hret M x1 x2 x3 x4 x5 x6 (fun x5 x6 => b_X11_safe_76  M x1 x2 x3 x4 n x5 x6) ih 6000 1 x1 H locs ls h hZ (lv_sub hl [2, 3, 4, 5, 6, 7, 8, 1, 0] rfl)
def b_X11_safe_61  (M : zM) (x1 : Int32) (x2 : Int32) (x3 : Int32) (x4 : Int32) (t0 : Int32) : Option (Int32 × zM) :=
  zbn (f_X11_throwsIf M t0 2) (fun u_10 => if u_10.1 = 0 then (b_X11_safe_76  u_10.2 x1 x2 x3 x4 6000 0 0) else (some (0, u_10.2)))
set_option maxRecDepth 100000 in
set_option maxHeartbeats 4000000 in
theorem lb_X11_safe_61 (g : zG)  {r : Int32 × zM} (E : zX g p m c cX11_safe 9 s args (zWs yX11_safe cX11_safe 9 (some .int)) RX11) (hret : zRi g rE 15 p l e (zrm 7 0 0) s m args below meth c 0 0 Q cX11_safe .int (fun v M1 => r = (v, M1))) (M : zM) (x1 : Int32) (x2 : Int32) (x3 : Int32) (x4 : Int32) (t0 : Int32)  (H : Heap) (locs : List Loc) (ls : Array Slot) (h : b_X11_safe_61  M x1 x2 x3 x4 t0 = some r) (hZ : zS g rE 15 s H locs M) (hl : lv_has ls 9 [(0, .ref (g.2.2 0)), (1, .int x1), (2, .int x2), (3, .int x3), (4, .int x4)]) : W p l e (zrm 7 0 0) s m args below meth c H locs 0 0 Q (F0 m 61 ls [.int t0, .ref (g.2.2 0)]) := by
  have hx := E.1.1
  have hb := E.1.2.1
  unfold b_X11_safe_61 at h
  refine lv_iconst (v := 2) hx hb dX11_safe_61 (by decide) ?_
  obtain ⟨u_10, qu_10, h⟩ := zbn_some h
  refine zciS (zrunV E hZ (by decide) (re_0 _) rfl rfl v_X11_throwsIf kw_1651 (c_X11_throwsIf l g M  t0 2 qu_10 _) rfl hl.1 rfl (Nat.le_of_ble_eq_true rfl) ⟨by decide, by decide⟩ ⟨by decide, by decide⟩ dX11_safe_62) hZ (fun H locs hZ => ?_)
  refine zif_eq (tgt := 70) h E dX11_safe_65 (by decide) (fun c_11 h => ?_) (fun c_11 h => ?_)
  · refine lv_iconst (v := 0) hx hb dX11_safe_70 (by decide) ?_
    refine lv_istore (lv' := [(5, .int 0), (0, .ref (g.2.2 0)), (1, .int x1), (2, .int x2), (3, .int x3), (4, .int x4)]) hx hb dX11_safe_71 hl (by decide) rfl (fun ls hl => ?_)
    refine lv_iconst (v := 0) hx hb dX11_safe_73 (by decide) ?_
    refine lv_istore (lv' := [(6, .int 0), (5, .int 0), (0, .ref (g.2.2 0)), (1, .int x1), (2, .int x2), (3, .int x3), (4, .int x4)]) hx hb dX11_safe_74 hl (by decide) rfl (fun ls hl => ?_)
    exact lb_X11_safe_76 g  E hret u_10.2 x1 x2 x3 x4  6000 0 0 H locs ls h hZ (lv_sub hl [2, 3, 4, 5, 6, 1, 0] rfl)
  · refine lv_iconst (v := 0) hx hb dX11_safe_68 (by decide) ?_
    exact hret _ _ _ _ _ _ (Option.some.inj h).symm rfl hZ dX11_safe_69
def b_X11_safe_56  (M : zM) (x1 : Int32) (x2 : Int32) (x3 : Int32) (x4 : Int32) : Option (Int32 × zM) :=
  b_X11_safe_61  M x1 x2 x3 x4 1
set_option maxRecDepth 100000 in
set_option maxHeartbeats 4000000 in
theorem lb_X11_safe_56 (g : zG)  {r : Int32 × zM} (E : zX g p m c cX11_safe 9 s args (zWs yX11_safe cX11_safe 9 (some .int)) RX11) (hret : zRi g rE 15 p l e (zrm 7 0 0) s m args below meth c 0 0 Q cX11_safe .int (fun v M1 => r = (v, M1))) (M : zM) (x1 : Int32) (x2 : Int32) (x3 : Int32) (x4 : Int32)  (H : Heap) (locs : List Loc) (ls : Array Slot) (h : b_X11_safe_56  M x1 x2 x3 x4 = some r) (hZ : zS g rE 15 s H locs M) (hl : lv_has ls 9 [(0, .ref (g.2.2 0)), (1, .int x1), (2, .int x2), (3, .int x3), (4, .int x4)]) : W p l e (zrm 7 0 0) s m args below meth c H locs 0 0 Q (F0 m 56 ls [.ref (g.2.2 0)]) := by
  have hx := E.1.1
  have hb := E.1.2.1
  unfold b_X11_safe_56 at h
  refine lv_iconst (v := 1) hx hb dX11_safe_56 (by decide) ?_
  refine lv_goto (tgt := 61) hx hb dX11_safe_57 (by decide) ?_
  exact lb_X11_safe_61 g  E hret M x1 x2 x3 x4 1  H locs ls h hZ (lv_sub hl [0, 1, 2, 3, 4] rfl)
def b_X11_safe_25  (M : zM) (x1 : Int32) (x2 : Int32) (x3 : Int32) (x4 : Int32) (t0 : Int32) : Option (Int32 × zM) :=
  zbn (f_X11_throwsIf M t0 1) (fun u_12 => if u_12.1 = 0 then (if x2 < x1 then (b_X11_safe_56  u_12.2 x1 x2 x3 x4) else (zbn (f_X11_in u_12.2 x3 0 9) (fun u_13 => if u_13 = 0 then (b_X11_safe_56  u_12.2 x1 x2 x3 x4) else (zbn (f_X11_noTide u_12.2 x4) (fun u_14 => if u_14 = 0 then (b_X11_safe_61  u_12.2 x1 x2 x3 x4 0) else (b_X11_safe_56  u_12.2 x1 x2 x3 x4)))))) else (some (0, u_12.2)))
set_option maxRecDepth 100000 in
set_option maxHeartbeats 4000000 in
theorem lb_X11_safe_25 (g : zG)  {r : Int32 × zM} (E : zX g p m c cX11_safe 9 s args (zWs yX11_safe cX11_safe 9 (some .int)) RX11) (hret : zRi g rE 15 p l e (zrm 7 0 0) s m args below meth c 0 0 Q cX11_safe .int (fun v M1 => r = (v, M1))) (M : zM) (x1 : Int32) (x2 : Int32) (x3 : Int32) (x4 : Int32) (t0 : Int32)  (H : Heap) (locs : List Loc) (ls : Array Slot) (h : b_X11_safe_25  M x1 x2 x3 x4 t0 = some r) (hZ : zS g rE 15 s H locs M) (hl : lv_has ls 9 [(0, .ref (g.2.2 0)), (1, .int x1), (2, .int x2), (3, .int x3), (4, .int x4)]) : W p l e (zrm 7 0 0) s m args below meth c H locs 0 0 Q (F0 m 25 ls [.int t0, .ref (g.2.2 0)]) := by
  have hx := E.1.1
  have hb := E.1.2.1
  unfold b_X11_safe_25 at h
  refine lv_iconst (v := 1) hx hb dX11_safe_25 (by decide) ?_
  obtain ⟨u_12, qu_12, h⟩ := zbn_some h
  refine zciS (zrunV E hZ (by decide) (re_0 _) rfl rfl v_X11_throwsIf kw_1651 (c_X11_throwsIf l g M  t0 1 qu_12 _) rfl hl.1 rfl (Nat.le_of_ble_eq_true rfl) ⟨by decide, by decide⟩ ⟨by decide, by decide⟩ dX11_safe_26) hZ (fun H locs hZ => ?_)
  refine zif_ne (tgt := 68) h E dX11_safe_29 (by decide) (fun c_18 h => ?_) (fun c_18 h => ?_)
  · refine lv_iconst (v := 0) hx hb dX11_safe_68 (by decide) ?_
    exact hret _ _ _ _ _ _ (Option.some.inj h).symm rfl hZ dX11_safe_69
  · refine lv_aload_n hx hb dX11_safe_32 rfl (lv_at hl 0 rfl) ?_
    refine lv_iload_n hx hb dX11_safe_33 rfl (lv_at hl 1 rfl) ?_
    refine lv_iload_n hx hb dX11_safe_34 rfl (lv_at hl 2 rfl) ?_
    refine zic_gt (tgt := 56) h E dX11_safe_35 (by decide) (fun c_17 h => ?_) (fun c_17 h => ?_)
    · exact lb_X11_safe_56 g  E hret u_12.2 x1 x2 x3 x4  H locs ls h hZ (lv_sub hl [0, 1, 2, 3, 4] rfl)
    · refine lv_iload_n hx hb dX11_safe_38 rfl (lv_at hl 3 rfl) ?_
      refine lv_iconst (v := 0) hx hb dX11_safe_39 (by decide) ?_
      refine lv_bipush (v := 9) hx hb dX11_safe_40 (by decide) ?_
      obtain ⟨u_13, qu_13, h⟩ := zbn_some h
      refine zciR (zrunS E hZ v_X11_in kw_1666 (c_X11_in l g u_12.2  x3 0 9 qu_13 _) rfl hl.1 rfl (Nat.le_of_ble_eq_true rfl) ⟨by decide, by decide⟩ ⟨by decide, by decide⟩ dX11_safe_42) hZ (fun H locs hZ => ?_)
      refine zif_eq (tgt := 56) h E dX11_safe_45 (by decide) (fun c_16 h => ?_) (fun c_16 h => ?_)
      · exact lb_X11_safe_56 g  E hret u_12.2 x1 x2 x3 x4  H locs ls h hZ (lv_sub hl [0, 1, 2, 3, 4] rfl)
      · refine lv_iload hx hb dX11_safe_48 (lv_at hl 4 rfl) ?_
        obtain ⟨u_14, qu_14, h⟩ := zbn_some h
        refine zciR (zrunS E hZ v_X11_noTide kw_1722 (c_X11_noTide l g u_12.2  x4 qu_14 _) rfl hl.1 rfl (Nat.le_of_ble_eq_true rfl) ⟨by decide, by decide⟩ ⟨by decide, by decide⟩ dX11_safe_50) hZ (fun H locs hZ => ?_)
        refine zif_eq (tgt := 60) h E dX11_safe_53 (by decide) (fun c_15 h => ?_) (fun c_15 h => ?_)
        · refine lv_iconst (v := 0) hx hb dX11_safe_60 (by decide) ?_
          exact lb_X11_safe_61 g  E hret u_12.2 x1 x2 x3 x4 0  H locs ls h hZ (lv_sub hl [0, 1, 2, 3, 4] rfl)
        · exact lb_X11_safe_56 g  E hret u_12.2 x1 x2 x3 x4  H locs ls h hZ (lv_sub hl [0, 1, 2, 3, 4] rfl)
def b_X11_safe_20  (M : zM) (x1 : Int32) (x2 : Int32) (x3 : Int32) (x4 : Int32) : Option (Int32 × zM) :=
  b_X11_safe_25  M x1 x2 x3 x4 1
set_option maxRecDepth 100000 in
set_option maxHeartbeats 4000000 in
theorem lb_X11_safe_20 (g : zG)  {r : Int32 × zM} (E : zX g p m c cX11_safe 9 s args (zWs yX11_safe cX11_safe 9 (some .int)) RX11) (hret : zRi g rE 15 p l e (zrm 7 0 0) s m args below meth c 0 0 Q cX11_safe .int (fun v M1 => r = (v, M1))) (M : zM) (x1 : Int32) (x2 : Int32) (x3 : Int32) (x4 : Int32)  (H : Heap) (locs : List Loc) (ls : Array Slot) (h : b_X11_safe_20  M x1 x2 x3 x4 = some r) (hZ : zS g rE 15 s H locs M) (hl : lv_has ls 9 [(0, .ref (g.2.2 0)), (1, .int x1), (2, .int x2), (3, .int x3), (4, .int x4)]) : W p l e (zrm 7 0 0) s m args below meth c H locs 0 0 Q (F0 m 20 ls [.ref (g.2.2 0)]) := by
  have hx := E.1.1
  have hb := E.1.2.1
  unfold b_X11_safe_20 at h
  refine lv_iconst (v := 1) hx hb dX11_safe_20 (by decide) ?_
  refine lv_goto (tgt := 25) hx hb dX11_safe_21 (by decide) ?_
  exact lb_X11_safe_25 g  E hret M x1 x2 x3 x4 1  H locs ls h hZ (lv_sub hl [0, 1, 2, 3, 4] rfl)
def f_X11_safe (M : zM) (x1 : Int32) (x2 : Int32) (x3 : Int32) (x4 : Int32) : Option (Int32 × zM) :=
  znm (zu M 0 0 0) (fun M_19 => zbn (f_X11_noPlace M_19 x1) (fun u_20 => if u_20 = 0 then (zbn (f_X11_noPlace M_19 x2) (fun u_21 => if u_21 = 0 then (b_X11_safe_25  M_19 x1 x2 x3 x4 0) else (b_X11_safe_20  M_19 x1 x2 x3 x4))) else (b_X11_safe_20  M_19 x1 x2 x3 x4)))
set_option maxRecDepth 100000 in
set_option maxHeartbeats 4000000 in
theorem w_X11_safe (g : zG)  {r : Int32 × zM} (E : zX g p m c cX11_safe 9 s args (zWs yX11_safe cX11_safe 9 (some .int)) RX11) (hret : zRi g rE 15 p l e (zrm 7 0 0) s m args below meth c 0 0 Q cX11_safe .int (fun v M1 => r = (v, M1))) (M : zM) (x1 : Int32) (x2 : Int32) (x3 : Int32) (x4 : Int32) (H : Heap) (locs : List Loc) (ls : Array Slot) (h : f_X11_safe M x1 x2 x3 x4 = some r) (hZ : zS g rE 15 s H locs M) (hl : lv_has ls 9 [(0, .ref (g.2.2 0)), (1, .int x1), (2, .int x2), (3, .int x3), (4, .int x4)]) : W p l e (zrm 7 0 0) s m args below meth c H locs 0 0 Q (F0 m 0 ls []) := by
  have hx := E.1.1
  have hb := E.1.2.1
  unfold f_X11_safe at h
  refine lv_aload_n hx hb dX11_safe_0 rfl (lv_at hl 0 rfl) ?_
  refine lv_iconst (v := 0) hx hb dX11_safe_1 (by decide) ?_
  refine zp h E hZ (by decide) (re_0 _) ((re_0 _).trans (congrArg (fun z => Sum.inr (10, z)) (fs_X11_0 g _ _ _))) kc_X11 (by decide) kw_1368 rfl rfl rfl (Nat.le_of_ble_eq_true rfl) dX11_safe_2 (fun M_19 H locs eM_19 h hZ => ?_)
  refine lv_aload_n hx hb dX11_safe_5 rfl (lv_at hl 0 rfl) ?_
  refine lv_iload_n hx hb dX11_safe_6 rfl (lv_at hl 1 rfl) ?_
  obtain ⟨u_20, qu_20, h⟩ := zbn_some h
  refine zciR (zrunS E hZ v_X11_noPlace kw_1663 (c_X11_noPlace l g M_19  x1 qu_20 _) rfl hl.1 rfl (Nat.le_of_ble_eq_true rfl) ⟨by decide, by decide⟩ ⟨by decide, by decide⟩ dX11_safe_7) hZ (fun H locs hZ => ?_)
  refine zif_ne (tgt := 20) h E dX11_safe_10 (by decide) (fun c_23 h => ?_) (fun c_23 h => ?_)
  · exact lb_X11_safe_20 g  E hret M_19 x1 x2 x3 x4  H locs ls h hZ (lv_sub hl [0, 1, 2, 3, 4] rfl)
  · refine lv_iload_n hx hb dX11_safe_13 rfl (lv_at hl 2 rfl) ?_
    obtain ⟨u_21, qu_21, h⟩ := zbn_some h
    refine zciR (zrunS E hZ v_X11_noPlace kw_1663 (c_X11_noPlace l g M_19  x2 qu_21 _) rfl hl.1 rfl (Nat.le_of_ble_eq_true rfl) ⟨by decide, by decide⟩ ⟨by decide, by decide⟩ dX11_safe_14) hZ (fun H locs hZ => ?_)
    refine zif_eq (tgt := 24) h E dX11_safe_17 (by decide) (fun c_22 h => ?_) (fun c_22 h => ?_)
    · refine lv_iconst (v := 0) hx hb dX11_safe_24 (by decide) ?_
      exact lb_X11_safe_25 g  E hret M_19 x1 x2 x3 x4 0  H locs ls h hZ (lv_sub hl [0, 1, 2, 3, 4] rfl)
    · exact lb_X11_safe_20 g  E hret M_19 x1 x2 x3 x4  H locs ls h hZ (lv_sub hl [0, 1, 2, 3, 4] rfl)
theorem c_X11_safe (l : Launch) (g : zG) (M : zM)  (x1 : Int32) (x2 : Int32) (x3 : Int32) (x4 : Int32) {r : Int32 × zM} (h : f_X11_safe M x1 x2 x3 x4 = some r) : zMi l g rE 15 yX11_safe (zWs yX11_safe cX11_safe 9 (some .int)) 7 [.ref (g.2.2 0), .int x1, .int x2, .int x3, .int x4] M (fun v M1 => r = (v, M1)) :=
  zMi_of (by decide +kernel) (Nat.le_of_ble_eq_true rfl) (fun p e s m args below meth c Q ls E hret hZ hl => w_X11_safe g  E hret M x1 x2 x3 x4 _ _ ls h hZ hl)
theorem v_X11_safe : zYV yX11_safe cX11_safe 9 (some .int) 4 := ⟨kw_1941, kw_15, kw_1939, kw_1940, by decide +kernel⟩

def f_X11_comesTo (M : zM) (x1 : Int32) (x2 : Int32) : Option (Int32) :=
  zbn (f_X11_of M x1 0) (fun u_1 => zbn (f_X11_of M x1 2) (fun u_2 => zck (zin 4 2030) (zbn (f_X11_hoursOf M u_1 x2 u_2 1 (M 1 (4 : Int32).toNatClampNeg)) (fun u_3 => some u_3))))
set_option maxRecDepth 100000 in
set_option maxHeartbeats 4000000 in
theorem w_X11_comesTo (g : zG)  {r : Int32} {M0 : zM} (E : zX g p m c cX11_comesTo 3 s args (zWs yX11_comesTo cX11_comesTo 3 (some .int)) RX11) (hret : zRi g rE 15 p l e (zrm 10 0 0) s m args below meth c 0 0 Q cX11_comesTo .int (fun v M1 => v = r ∧ M1 = M0)) (M : zM) (hM : M = M0) (x1 : Int32) (x2 : Int32) (H : Heap) (locs : List Loc) (ls : Array Slot) (h : f_X11_comesTo M x1 x2 = some r) (hZ : zS g rE 15 s H locs M) (hl : lv_has ls 3 [(0, .ref (g.2.2 0)), (1, .int x1), (2, .int x2)]) : W p l e (zrm 10 0 0) s m args below meth c H locs 0 0 Q (F0 m 0 ls []) := by
  have hx := E.1.1
  have hb := E.1.2.1
  unfold f_X11_comesTo at h
  refine lv_aload_n hx hb dX11_comesTo_0 rfl (lv_at hl 0 rfl) ?_
  refine lv_aload_n hx hb dX11_comesTo_1 rfl (lv_at hl 0 rfl) ?_
  refine lv_iload_n hx hb dX11_comesTo_2 rfl (lv_at hl 1 rfl) ?_
  refine lv_iconst (v := 0) hx hb dX11_comesTo_3 (by decide) ?_
  obtain ⟨u_1, qu_1, h⟩ := zbn_some h
  refine zciR (zrunV E hZ (by decide) (re_0 _) rfl rfl v_X11_of kw_1765 (c_X11_of l g M  x1 0 qu_1 _) rfl hl.1 rfl (Nat.le_of_ble_eq_true rfl) ⟨by decide, by decide⟩ ⟨by decide, by decide⟩ dX11_comesTo_4) hZ (fun H locs hZ => ?_)
  refine lv_iload_n hx hb dX11_comesTo_7 rfl (lv_at hl 2 rfl) ?_
  refine lv_aload_n hx hb dX11_comesTo_8 rfl (lv_at hl 0 rfl) ?_
  refine lv_iload_n hx hb dX11_comesTo_9 rfl (lv_at hl 1 rfl) ?_
  refine lv_iconst (v := 2) hx hb dX11_comesTo_10 (by decide) ?_
  obtain ⟨u_2, qu_2, h⟩ := zbn_some h
  refine zciR (zrunV E hZ (by decide) (re_0 _) rfl rfl v_X11_of kw_1765 (c_X11_of l g M  x1 2 qu_2 _) rfl hl.1 rfl (Nat.le_of_ble_eq_true rfl) ⟨by decide, by decide⟩ ⟨by decide, by decide⟩ dX11_comesTo_11) hZ (fun H locs hZ => ?_)
  refine lv_iconst (v := 1) hx hb dX11_comesTo_14 (by decide) ?_
  refine lv_aload_n hx hb dX11_comesTo_15 rfl (lv_at hl 0 rfl) ?_
  refine zg (v := .ref (g.2.2 1)) E hZ (by decide) (re_0 _) kc_X11 1 (by decide) kw_1369 rfl rfl dX11_comesTo_16 ?_
  refine lv_iconst (v := 4) hx hb dX11_comesTo_19 (by decide) ?_
  refine zia h E hZ (by decide) re_1 dX11_comesTo_20 (fun h => ?_)
  obtain ⟨u_3, qu_3, h⟩ := zbn_some h
  refine zciR (zrunV E hZ (by decide) (re_0 _) rfl rfl v_X11_hoursOf kw_1918 (c_X11_hoursOf l g M  u_1 x2 u_2 1 (M 1 (4 : Int32).toNatClampNeg) qu_3 _) rfl hl.1 rfl (Nat.le_of_ble_eq_true rfl) ⟨by decide, by decide⟩ ⟨by decide, by decide⟩ dX11_comesTo_21) hZ (fun H locs hZ => ?_)
  exact hret _ _ _ _ _ _ ⟨Option.some.inj h, hM⟩ rfl hZ dX11_comesTo_24
theorem c_X11_comesTo (l : Launch) (g : zG) (M : zM)  (x1 : Int32) (x2 : Int32) {r : Int32} (h : f_X11_comesTo M x1 x2 = some r) : zMi l g rE 15 yX11_comesTo (zWs yX11_comesTo cX11_comesTo 3 (some .int)) 10 [.ref (g.2.2 0), .int x1, .int x2] M (fun v M1 => v = r ∧ M1 = M) :=
  zMi_of (by decide +kernel) (Nat.le_of_ble_eq_true rfl) (fun p e s m args below meth c Q ls E hret hZ hl => w_X11_comesTo g  E hret M rfl x1 x2 _ _ ls h hZ hl)
theorem v_X11_comesTo : zYV yX11_comesTo cX11_comesTo 3 (some .int) 2 := ⟨kw_1949, kw_15, kw_1948, kp_106, by decide +kernel⟩

def b_X11_fetch_95 (K39 : Int32 → Int32 → Int32 → Option (Int32 × zM)) (M : zM) (x1 : Int32) (x3 : Int32) (x4 : Int32) (x5 : Int32) (t0 : Int32) : Option (Int32 × zM) :=
  znm (if x5 < x3 then x5 else x3) (fun v_1 => znm (x4 + 1) (fun x4_2 => K39 t0 v_1 x4_2))
set_option maxRecDepth 100000 in
set_option maxHeartbeats 4000000 in
theorem lb_X11_fetch_95 (g : zG)  {r : Int32 × zM} (E : zX g p m c cX11_fetch 6 s args (zWs yX11_fetch cX11_fetch 6 (some .int)) RX11) (hret : zRi g rE 15 p l e (zrm 11 0 0) s m args below meth c 0 0 Q cX11_fetch .int (fun v M1 => r = (v, M1))) (M : zM) (x1 : Int32) (x3 : Int32) (x4 : Int32) (x5 : Int32) (t0 : Int32) (K39 : Int32 → Int32 → Int32 → Option (Int32 × zM)) (hK39 : ∀ (x2 : Int32) (x3 : Int32) (x4 : Int32) (H : Heap) (locs : List Loc) (ls : Array Slot), K39 x2 x3 x4 = some r → zS g rE 15 s H locs M → lv_has ls 6 [(0, .ref (g.2.2 0)), (1, .int x1), (2, .int x2), (3, .int x3), (4, .int x4)] → W p l e (zrm 11 0 0) s m args below meth c H locs 0 0 Q (F0 m 39 ls [])) (H : Heap) (locs : List Loc) (ls : Array Slot) (h : b_X11_fetch_95 K39 M x1 x3 x4 x5 t0 = some r) (hZ : zS g rE 15 s H locs M) (hl : lv_has ls 6 [(0, .ref (g.2.2 0)), (1, .int x1), (3, .int x3), (4, .int x4), (5, .int x5)]) : W p l e (zrm 11 0 0) s m args below meth c H locs 0 0 Q (F0 m 95 ls [.int t0]) := by
  have hx := E.1.1
  have hb := E.1.2.1
  unfold b_X11_fetch_95 at h
  refine lv_istore_n (lv' := [(2, .int t0), (0, .ref (g.2.2 0)), (1, .int x1), (3, .int x3), (4, .int x4), (5, .int x5)]) hx hb dX11_fetch_95 rfl hl (by decide) rfl (fun ls hl => ?_)
  refine lv_iload_n hx hb dX11_fetch_96 rfl (lv_at hl 3 rfl) ?_
  refine lv_iload hx hb dX11_fetch_97 (lv_at hl 5 rfl) ?_
  refine va_mmin hx hb (E.1.2.2.1.trans hl.1.symm) E.1.2.2.2.1 (E.w kw_1862) (E.w kw_540) (E.w kw_16) (E.w kw_541) (Nat.le_of_ble_eq_true rfl) (Nat.le_of_ble_eq_true rfl) (Nat.le_of_ble_eq_true rfl) (Nat.le_of_ble_eq_true rfl) dX11_fetch_99 ?_
  refine zni h (fun v_1 ev_1 h => ?_)
  refine lv_istore_n (lv' := [(3, .int v_1), (2, .int t0), (0, .ref (g.2.2 0)), (1, .int x1), (4, .int x4), (5, .int x5)]) hx hb dX11_fetch_102 rfl hl (by decide) rfl (fun ls hl => ?_)
  obtain ⟨x4_2, ex4_2, h⟩ := znm_ex h
  refine lv_iinc (v := x4_2) (lv' := [(4, .int x4_2), (3, .int v_1), (2, .int t0), (0, .ref (g.2.2 0)), (1, .int x1), (5, .int x5)]) hx hb dX11_fetch_103 hl (k := 4) rfl (by rw [ex4_2]; rfl) (by decide) rfl (fun ls hl => ?_)
  refine lv_goto (tgt := 39) hx hb dX11_fetch_106 (by decide) ?_
  exact hK39 t0 v_1 x4_2 H locs ls h hZ (lv_sub hl [3, 4, 2, 1, 0] rfl)
def b_X11_fetch_81 (K39 : Int32 → Int32 → Int32 → Option (Int32 × zM)) (M : zM) (x1 : Int32) (x2 : Int32) (x3 : Int32) (x4 : Int32) (t0 : Int32) : Option (Int32 × zM) :=
  if x3 ≤ t0 then (b_X11_fetch_95 K39 M x1 x3 x4 t0 x2) else (b_X11_fetch_95 K39 M x1 x3 x4 t0 x4)
set_option maxRecDepth 100000 in
set_option maxHeartbeats 4000000 in
theorem lb_X11_fetch_81 (g : zG)  {r : Int32 × zM} (E : zX g p m c cX11_fetch 6 s args (zWs yX11_fetch cX11_fetch 6 (some .int)) RX11) (hret : zRi g rE 15 p l e (zrm 11 0 0) s m args below meth c 0 0 Q cX11_fetch .int (fun v M1 => r = (v, M1))) (M : zM) (x1 : Int32) (x2 : Int32) (x3 : Int32) (x4 : Int32) (t0 : Int32) (K39 : Int32 → Int32 → Int32 → Option (Int32 × zM)) (hK39 : ∀ (x2 : Int32) (x3 : Int32) (x4 : Int32) (H : Heap) (locs : List Loc) (ls : Array Slot), K39 x2 x3 x4 = some r → zS g rE 15 s H locs M → lv_has ls 6 [(0, .ref (g.2.2 0)), (1, .int x1), (2, .int x2), (3, .int x3), (4, .int x4)] → W p l e (zrm 11 0 0) s m args below meth c H locs 0 0 Q (F0 m 39 ls [])) (H : Heap) (locs : List Loc) (ls : Array Slot) (h : b_X11_fetch_81 K39 M x1 x2 x3 x4 t0 = some r) (hZ : zS g rE 15 s H locs M) (hl : lv_has ls 6 [(0, .ref (g.2.2 0)), (1, .int x1), (2, .int x2), (3, .int x3), (4, .int x4)]) : W p l e (zrm 11 0 0) s m args below meth c H locs 0 0 Q (F0 m 81 ls [.int t0]) := by
  have hx := E.1.1
  have hb := E.1.2.1
  unfold b_X11_fetch_81 at h
  refine lv_istore (lv' := [(5, .int t0), (0, .ref (g.2.2 0)), (1, .int x1), (2, .int x2), (3, .int x3), (4, .int x4)]) hx hb dX11_fetch_81 hl (by decide) rfl (fun ls hl => ?_)
  refine lv_iload hx hb dX11_fetch_83 (lv_at hl 0 rfl) ?_
  refine lv_iload_n hx hb dX11_fetch_85 rfl (lv_at hl 4 rfl) ?_
  refine zic_ge (tgt := 94) h E dX11_fetch_86 (by decide) (fun c_3 h => ?_) (fun c_3 h => ?_)
  · refine lv_iload_n hx hb dX11_fetch_94 rfl (lv_at hl 3 rfl) ?_
    exact lb_X11_fetch_95 g  E hret M x1 x3 x4 t0 x2 K39 hK39 H locs ls h hZ (lv_sub hl [1, 2, 4, 5, 0] rfl)
  · refine lv_iload hx hb dX11_fetch_89 (lv_at hl 5 rfl) ?_
    refine lv_goto (tgt := 95) hx hb dX11_fetch_91 (by decide) ?_
    exact lb_X11_fetch_95 g  E hret M x1 x3 x4 t0 x4 K39 hK39 H locs ls h hZ (lv_sub hl [1, 2, 4, 5, 0] rfl)
def b_X11_fetch_63 (K39 : Int32 → Int32 → Int32 → Option (Int32 × zM)) (M : zM) (x1 : Int32) (x2 : Int32) (x3 : Int32) (x4 : Int32) : Option (Int32 × zM) :=
  b_X11_fetch_81 K39 M x1 x2 x3 x4 1000000
set_option maxRecDepth 100000 in
set_option maxHeartbeats 4000000 in
theorem lb_X11_fetch_63 (g : zG)  {r : Int32 × zM} (E : zX g p m c cX11_fetch 6 s args (zWs yX11_fetch cX11_fetch 6 (some .int)) RX11) (hret : zRi g rE 15 p l e (zrm 11 0 0) s m args below meth c 0 0 Q cX11_fetch .int (fun v M1 => r = (v, M1))) (M : zM) (x1 : Int32) (x2 : Int32) (x3 : Int32) (x4 : Int32) (K39 : Int32 → Int32 → Int32 → Option (Int32 × zM)) (hK39 : ∀ (x2 : Int32) (x3 : Int32) (x4 : Int32) (H : Heap) (locs : List Loc) (ls : Array Slot), K39 x2 x3 x4 = some r → zS g rE 15 s H locs M → lv_has ls 6 [(0, .ref (g.2.2 0)), (1, .int x1), (2, .int x2), (3, .int x3), (4, .int x4)] → W p l e (zrm 11 0 0) s m args below meth c H locs 0 0 Q (F0 m 39 ls [])) (H : Heap) (locs : List Loc) (ls : Array Slot) (h : b_X11_fetch_63 K39 M x1 x2 x3 x4 = some r) (hZ : zS g rE 15 s H locs M) (hl : lv_has ls 6 [(0, .ref (g.2.2 0)), (1, .int x1), (2, .int x2), (3, .int x3), (4, .int x4)]) : W p l e (zrm 11 0 0) s m args below meth c H locs 0 0 Q (F0 m 63 ls []) := by
  have hx := E.1.1
  have hb := E.1.2.1
  unfold b_X11_fetch_63 at h
  refine lv_ldcw (v := 1000000) hx hb E.1.2.2.2.1 (E.w kw_1933) dX11_fetch_63 ?_
  refine lv_goto (tgt := 81) hx hb dX11_fetch_66 (by decide) ?_
  exact lb_X11_fetch_81 g  E hret M x1 x2 x3 x4 1000000 K39 hK39 H locs ls h hZ (lv_sub hl [0, 1, 2, 3, 4] rfl)
def b_X11_fetch_39  (M : zM) (x1 : Int32) : Nat → Int32 → Int32 → Int32 → Option (Int32 × zM)
  | 0, _, _, _ => none
  | n + 1, x2, x3, x4 =>
    zbn (f_X11_monks M ) (fun u_4 => if u_4 ≤ x4 then (some (x2, M)) else (if x4 = x1 then (b_X11_fetch_63 (fun x2 x3 x4 => b_X11_fetch_39  M x1 n x2 x3 x4) M x1 x2 x3 x4) else (zbn (f_X11_isDrowned M x4) (fun u_5 => if u_5 = 0 then (zbn (f_X11_of M x1 0) (fun u_6 => zbn (f_X11_comesTo M x4 u_6) (fun u_7 => b_X11_fetch_81 (fun x2 x3 x4 => b_X11_fetch_39  M x1 n x2 x3 x4) M x1 x2 x3 x4 u_7))) else (b_X11_fetch_63 (fun x2 x3 x4 => b_X11_fetch_39  M x1 n x2 x3 x4) M x1 x2 x3 x4)))))
set_option maxRecDepth 100000 in
set_option maxHeartbeats 4000000 in
theorem lb_X11_fetch_39 (g : zG)  {r : Int32 × zM} (E : zX g p m c cX11_fetch 6 s args (zWs yX11_fetch cX11_fetch 6 (some .int)) RX11) (hret : zRi g rE 15 p l e (zrm 11 0 0) s m args below meth c 0 0 Q cX11_fetch .int (fun v M1 => r = (v, M1))) (M : zM) (x1 : Int32)  : ∀ (n : Nat) (x2 : Int32) (x3 : Int32) (x4 : Int32) (H : Heap) (locs : List Loc) (ls : Array Slot), b_X11_fetch_39  M x1 n x2 x3 x4 = some r → zS g rE 15 s H locs M → lv_has ls 6 [(0, .ref (g.2.2 0)), (1, .int x1), (2, .int x2), (3, .int x3), (4, .int x4)] → W p l e (zrm 11 0 0) s m args below meth c H locs 0 0 Q (F0 m 39 ls []) := by
  have hx := E.1.1
  have hb := E.1.2.1
  intro n
  induction n with
  | zero => intro x2 x3 x4 H locs ls h hZ hl; cases h
  | succ n ih =>
    intro x2 x3 x4 H locs ls h hZ hl
    rw [b_X11_fetch_39] at h
    refine lv_iload hx hb dX11_fetch_39 (lv_at hl 4 rfl) ?_
    refine lv_aload_n hx hb dX11_fetch_41 rfl (lv_at hl 0 rfl) ?_
    obtain ⟨u_4, qu_4, h⟩ := zbn_some h
    refine zciR (zrunV E hZ (by decide) (re_0 _) rfl rfl v_X11_monks kw_1562 (c_X11_monks l g M   qu_4 _) rfl hl.1 rfl (Nat.le_of_ble_eq_true rfl) ⟨by decide, by decide⟩ ⟨by decide, by decide⟩ dX11_fetch_42) hZ (fun H locs hZ => ?_)
    refine zic_ge (tgt := 109) h E dX11_fetch_45 (by decide) (fun c_10 h => ?_) (fun c_10 h => ?_)
    · refine lv_iload_n hx hb dX11_fetch_109 rfl (lv_at hl 2 rfl) ?_
      exact hret _ _ _ _ _ _ (Option.some.inj h).symm rfl hZ dX11_fetch_110
    · refine lv_iload hx hb dX11_fetch_48 (lv_at hl 4 rfl) ?_
      refine lv_iload_n hx hb dX11_fetch_50 rfl (lv_at hl 1 rfl) ?_
      refine zic_eq (tgt := 63) h E dX11_fetch_51 (by decide) (fun c_9 h => ?_) (fun c_9 h => ?_)
      · exact lb_X11_fetch_63 g  E hret M x1 x2 x3 x4 (fun x2 x3 x4 => b_X11_fetch_39  M x1 n x2 x3 x4) ih H locs ls h hZ (lv_sub hl [0, 1, 2, 3, 4] rfl)
      · refine lv_aload_n hx hb dX11_fetch_54 rfl (lv_at hl 0 rfl) ?_
        refine lv_iload hx hb dX11_fetch_55 (lv_at hl 4 rfl) ?_
        obtain ⟨u_5, qu_5, h⟩ := zbn_some h
        refine zciR (zrunV E hZ (by decide) (re_0 _) rfl rfl v_X11_isDrowned kw_1797 (c_X11_isDrowned l g M  x4 qu_5 _) rfl hl.1 rfl (Nat.le_of_ble_eq_true rfl) ⟨by decide, by decide⟩ ⟨by decide, by decide⟩ dX11_fetch_57) hZ (fun H locs hZ => ?_)
        refine zif_eq (tgt := 69) h E dX11_fetch_60 (by decide) (fun c_8 h => ?_) (fun c_8 h => ?_)
        · refine lv_aload_n hx hb dX11_fetch_69 rfl (lv_at hl 0 rfl) ?_
          refine lv_iload hx hb dX11_fetch_70 (lv_at hl 4 rfl) ?_
          refine lv_aload_n hx hb dX11_fetch_72 rfl (lv_at hl 0 rfl) ?_
          refine lv_iload_n hx hb dX11_fetch_73 rfl (lv_at hl 1 rfl) ?_
          refine lv_iconst (v := 0) hx hb dX11_fetch_74 (by decide) ?_
          obtain ⟨u_6, qu_6, h⟩ := zbn_some h
          refine zciR (zrunV E hZ (by decide) (re_0 _) rfl rfl v_X11_of kw_1765 (c_X11_of l g M  x1 0 qu_6 _) rfl hl.1 rfl (Nat.le_of_ble_eq_true rfl) ⟨by decide, by decide⟩ ⟨by decide, by decide⟩ dX11_fetch_75) hZ (fun H locs hZ => ?_)
          obtain ⟨u_7, qu_7, h⟩ := zbn_some h
          refine zciR (zrunV E hZ (by decide) (re_0 _) rfl rfl v_X11_comesTo kw_1946 (c_X11_comesTo l g M  x4 u_6 qu_7 _) rfl hl.1 rfl (Nat.le_of_ble_eq_true rfl) ⟨by decide, by decide⟩ ⟨by decide, by decide⟩ dX11_fetch_78) hZ (fun H locs hZ => ?_)
          exact lb_X11_fetch_81 g  E hret M x1 x2 x3 x4 u_7 (fun x2 x3 x4 => b_X11_fetch_39  M x1 n x2 x3 x4) ih H locs ls h hZ (lv_sub hl [0, 1, 2, 3, 4] rfl)
        · exact lb_X11_fetch_63 g  E hret M x1 x2 x3 x4 (fun x2 x3 x4 => b_X11_fetch_39  M x1 n x2 x3 x4) ih H locs ls h hZ (lv_sub hl [0, 1, 2, 3, 4] rfl)
def f_X11_fetch (M : zM) (x1 : Int32) : Option (Int32 × zM) :=
  znm (zu M 0 0 0) (fun M_11 => zbn (f_X11_noMonk M_11 x1) (fun u_12 => zbn (f_X11_throwsIf M_11 u_12 1) (fun u_13 => if u_13.1 = 0 then (zbn (f_X11_isDrowned u_13.2 x1) (fun u_14 => if u_14 = 0 then (b_X11_fetch_39  u_13.2 x1 6000 ((-1)) 1000000 0) else (some ((-1), u_13.2)))) else (some (0, u_13.2)))))
set_option maxRecDepth 100000 in
set_option maxHeartbeats 4000000 in
theorem w_X11_fetch (g : zG)  {r : Int32 × zM} (E : zX g p m c cX11_fetch 6 s args (zWs yX11_fetch cX11_fetch 6 (some .int)) RX11) (hret : zRi g rE 15 p l e (zrm 11 0 0) s m args below meth c 0 0 Q cX11_fetch .int (fun v M1 => r = (v, M1))) (M : zM) (x1 : Int32) (H : Heap) (locs : List Loc) (ls : Array Slot) (h : f_X11_fetch M x1 = some r) (hZ : zS g rE 15 s H locs M) (hl : lv_has ls 6 [(0, .ref (g.2.2 0)), (1, .int x1)]) : W p l e (zrm 11 0 0) s m args below meth c H locs 0 0 Q (F0 m 0 ls []) := by
  have hx := E.1.1
  have hb := E.1.2.1
  unfold f_X11_fetch at h
  refine lv_aload_n hx hb dX11_fetch_0 rfl (lv_at hl 0 rfl) ?_
  refine lv_iconst (v := 0) hx hb dX11_fetch_1 (by decide) ?_
  refine zp h E hZ (by decide) (re_0 _) ((re_0 _).trans (congrArg (fun z => Sum.inr (10, z)) (fs_X11_0 g _ _ _))) kc_X11 (by decide) kw_1368 rfl rfl rfl (Nat.le_of_ble_eq_true rfl) dX11_fetch_2 (fun M_11 H locs eM_11 h hZ => ?_)
  refine lv_aload_n hx hb dX11_fetch_5 rfl (lv_at hl 0 rfl) ?_
  refine lv_aload_n hx hb dX11_fetch_6 rfl (lv_at hl 0 rfl) ?_
  refine lv_iload_n hx hb dX11_fetch_7 rfl (lv_at hl 1 rfl) ?_
  obtain ⟨u_12, qu_12, h⟩ := zbn_some h
  refine zciR (zrunV E hZ (by decide) (re_0 _) rfl rfl v_X11_noMonk kw_1745 (c_X11_noMonk l g M_11  x1 qu_12 _) rfl hl.1 rfl (Nat.le_of_ble_eq_true rfl) ⟨by decide, by decide⟩ ⟨by decide, by decide⟩ dX11_fetch_8) hZ (fun H locs hZ => ?_)
  refine lv_iconst (v := 1) hx hb dX11_fetch_11 (by decide) ?_
  obtain ⟨u_13, qu_13, h⟩ := zbn_some h
  refine zciS (zrunV E hZ (by decide) (re_0 _) rfl rfl v_X11_throwsIf kw_1651 (c_X11_throwsIf l g M_11  u_12 1 qu_13 _) rfl hl.1 rfl (Nat.le_of_ble_eq_true rfl) ⟨by decide, by decide⟩ ⟨by decide, by decide⟩ dX11_fetch_12) hZ (fun H locs hZ => ?_)
  refine zif_eq (tgt := 20) h E dX11_fetch_15 (by decide) (fun c_16 h => ?_) (fun c_16 h => ?_)
  · refine lv_aload_n hx hb dX11_fetch_20 rfl (lv_at hl 0 rfl) ?_
    refine lv_iload_n hx hb dX11_fetch_21 rfl (lv_at hl 1 rfl) ?_
    obtain ⟨u_14, qu_14, h⟩ := zbn_some h
    refine zciR (zrunV E hZ (by decide) (re_0 _) rfl rfl v_X11_isDrowned kw_1797 (c_X11_isDrowned l g u_13.2  x1 qu_14 _) rfl hl.1 rfl (Nat.le_of_ble_eq_true rfl) ⟨by decide, by decide⟩ ⟨by decide, by decide⟩ dX11_fetch_22) hZ (fun H locs hZ => ?_)
    refine zif_eq (tgt := 30) h E dX11_fetch_25 (by decide) (fun c_15 h => ?_) (fun c_15 h => ?_)
    · refine lv_iconst (v := (-1)) hx hb dX11_fetch_30 (by decide) ?_
      refine lv_istore_n (lv' := [(2, .int ((-1))), (0, .ref (g.2.2 0)), (1, .int x1)]) hx hb dX11_fetch_31 rfl hl (by decide) rfl (fun ls hl => ?_)
      refine lv_ldcw (v := 1000000) hx hb E.1.2.2.2.1 (E.w kw_1933) dX11_fetch_32 ?_
      refine lv_istore_n (lv' := [(3, .int 1000000), (2, .int ((-1))), (0, .ref (g.2.2 0)), (1, .int x1)]) hx hb dX11_fetch_35 rfl hl (by decide) rfl (fun ls hl => ?_)
      refine lv_iconst (v := 0) hx hb dX11_fetch_36 (by decide) ?_
      refine lv_istore (lv' := [(4, .int 0), (3, .int 1000000), (2, .int ((-1))), (0, .ref (g.2.2 0)), (1, .int x1)]) hx hb dX11_fetch_37 hl (by decide) rfl (fun ls hl => ?_)
      exact lb_X11_fetch_39 g  E hret u_13.2 x1  6000 ((-1)) 1000000 0 H locs ls h hZ (lv_sub hl [3, 4, 2, 1, 0] rfl)
    · refine lv_iconst (v := (-1)) hx hb dX11_fetch_28 (by decide) ?_
      exact hret _ _ _ _ _ _ (Option.some.inj h).symm rfl hZ dX11_fetch_29
  · refine lv_iconst (v := 0) hx hb dX11_fetch_18 (by decide) ?_
    exact hret _ _ _ _ _ _ (Option.some.inj h).symm rfl hZ dX11_fetch_19
theorem c_X11_fetch (l : Launch) (g : zG) (M : zM)  (x1 : Int32) {r : Int32 × zM} (h : f_X11_fetch M x1 = some r) : zMi l g rE 15 yX11_fetch (zWs yX11_fetch cX11_fetch 6 (some .int)) 11 [.ref (g.2.2 0), .int x1] M (fun v M1 => r = (v, M1)) :=
  zMi_of (by decide +kernel) (Nat.le_of_ble_eq_true rfl) (fun p e s m args below meth c Q ls E hret hZ hl => w_X11_fetch g  E hret M x1 _ _ ls h hZ hl)
theorem v_X11_fetch : zYV yX11_fetch cX11_fetch 6 (some .int) 1 := ⟨kw_1945, kw_15, kw_1943, kw_1944, by decide +kernel⟩

def f_X11_leastOf (M : zM) (x1 : Int32) (x2 : Int32) : Option (Int32) :=
  zck (zin ((x1 <<< ((6 : Int32) &&& 31)) + x2) 448) (some (M 10 ((x1 <<< ((6 : Int32) &&& 31)) + x2 : Int32).toNatClampNeg))
set_option maxRecDepth 100000 in
set_option maxHeartbeats 4000000 in
theorem w_X11_leastOf (g : zG)  {r : Int32} {M0 : zM} (E : zX g p m c cX11_leastOf 3 s args (zWs yX11_leastOf cX11_leastOf 3 (some .int)) RX11) (hret : zRi g rE 15 p l e (zrm 2 0 0) s m args below meth c 0 0 Q cX11_leastOf .int (fun v M1 => v = r ∧ M1 = M0)) (M : zM) (hM : M = M0) (x1 : Int32) (x2 : Int32) (H : Heap) (locs : List Loc) (ls : Array Slot) (h : f_X11_leastOf M x1 x2 = some r) (hZ : zS g rE 15 s H locs M) (hl : lv_has ls 3 [(0, .ref (g.2.2 0)), (1, .int x1), (2, .int x2)]) : W p l e (zrm 2 0 0) s m args below meth c H locs 0 0 Q (F0 m 0 ls []) := by
  have hx := E.1.1
  have hb := E.1.2.1
  unfold f_X11_leastOf at h
  refine lv_aload_n hx hb dX11_leastOf_0 rfl (lv_at hl 0 rfl) ?_
  refine zg (v := .ref (g.2.2 10)) E hZ (by decide) (re_0 _) kc_X11 19 (by decide) kw_1387 rfl rfl dX11_leastOf_1 ?_
  refine lv_iload_n hx hb dX11_leastOf_4 rfl (lv_at hl 1 rfl) ?_
  refine lv_bipush (v := 6) hx hb dX11_leastOf_5 (by decide) ?_
  refine lv_ishl hx hb dX11_leastOf_7 ?_
  refine lv_iload_n hx hb dX11_leastOf_8 rfl (lv_at hl 2 rfl) ?_
  refine lv_iadd hx hb dX11_leastOf_9 ?_
  refine zia h E hZ (by decide) re_10 dX11_leastOf_10 (fun h => ?_)
  exact hret _ _ _ _ _ _ ⟨Option.some.inj h, hM⟩ rfl hZ dX11_leastOf_11
theorem c_X11_leastOf (l : Launch) (g : zG) (M : zM)  (x1 : Int32) (x2 : Int32) {r : Int32} (h : f_X11_leastOf M x1 x2 = some r) : zMi l g rE 15 yX11_leastOf (zWs yX11_leastOf cX11_leastOf 3 (some .int)) 2 [.ref (g.2.2 0), .int x1, .int x2] M (fun v M1 => v = r ∧ M1 = M) :=
  zMi_of (by decide +kernel) (Nat.le_of_ble_eq_true rfl) (fun p e s m args below meth c Q ls E hret hZ hl => w_X11_leastOf g  E hret M rfl x1 x2 _ _ ls h hZ hl)
theorem v_X11_leastOf : zYV yX11_leastOf cX11_leastOf 3 (some .int) 2 := ⟨kw_1961, kw_15, kw_1960, kp_108, by decide +kernel⟩

def f_X11_leastBy (M : zM) (x1 : Int32) (x2 : Int32) (x3 : Int32) : Option (Int32) :=
  zck (zin ((6 * x1) + x3) 36) (zbn (f_X11_leastOf M (x1 + 1) (x2 ||| ((1 : Int32) <<< (x3 &&& 31)))) (fun u_1 => znm (if ((M 9 ((6 * x1) + x3 : Int32).toNatClampNeg) + u_1) < 1000000 then ((M 9 ((6 * x1) + x3 : Int32).toNatClampNeg) + u_1) else 1000000) (fun v_2 => some v_2)))
set_option maxRecDepth 100000 in
set_option maxHeartbeats 4000000 in
theorem w_X11_leastBy (g : zG)  {r : Int32} {M0 : zM} (E : zX g p m c cX11_leastBy 4 s args (zWs yX11_leastBy cX11_leastBy 4 (some .int)) RX11) (hret : zRi g rE 15 p l e (zrm 3 0 0) s m args below meth c 0 0 Q cX11_leastBy .int (fun v M1 => v = r ∧ M1 = M0)) (M : zM) (hM : M = M0) (x1 : Int32) (x2 : Int32) (x3 : Int32) (H : Heap) (locs : List Loc) (ls : Array Slot) (h : f_X11_leastBy M x1 x2 x3 = some r) (hZ : zS g rE 15 s H locs M) (hl : lv_has ls 4 [(0, .ref (g.2.2 0)), (1, .int x1), (2, .int x2), (3, .int x3)]) : W p l e (zrm 3 0 0) s m args below meth c H locs 0 0 Q (F0 m 0 ls []) := by
  have hx := E.1.1
  have hb := E.1.2.1
  unfold f_X11_leastBy at h
  refine lv_ldcw (v := 1000000) hx hb E.1.2.2.2.1 (E.w kw_1933) dX11_leastBy_0 ?_
  refine lv_aload_n hx hb dX11_leastBy_3 rfl (lv_at hl 0 rfl) ?_
  refine zg (v := .ref (g.2.2 9)) E hZ (by decide) (re_0 _) kc_X11 18 (by decide) kw_1386 rfl rfl dX11_leastBy_4 ?_
  refine lv_bipush (v := 6) hx hb dX11_leastBy_7 (by decide) ?_
  refine lv_iload_n hx hb dX11_leastBy_9 rfl (lv_at hl 1 rfl) ?_
  refine lv_imul hx hb dX11_leastBy_10 ?_
  refine lv_iload_n hx hb dX11_leastBy_11 rfl (lv_at hl 3 rfl) ?_
  refine lv_iadd hx hb dX11_leastBy_12 ?_
  refine zia h E hZ (by decide) re_9 dX11_leastBy_13 (fun h => ?_)
  refine lv_aload_n hx hb dX11_leastBy_14 rfl (lv_at hl 0 rfl) ?_
  refine lv_iload_n hx hb dX11_leastBy_15 rfl (lv_at hl 1 rfl) ?_
  refine lv_iconst (v := 1) hx hb dX11_leastBy_16 (by decide) ?_
  refine lv_iadd hx hb dX11_leastBy_17 ?_
  refine lv_iload_n hx hb dX11_leastBy_18 rfl (lv_at hl 2 rfl) ?_
  refine lv_iconst (v := 1) hx hb dX11_leastBy_19 (by decide) ?_
  refine lv_iload_n hx hb dX11_leastBy_20 rfl (lv_at hl 3 rfl) ?_
  refine lv_ishl hx hb dX11_leastBy_21 ?_
  refine lv_ior hx hb dX11_leastBy_22 ?_
  obtain ⟨u_1, qu_1, h⟩ := zbn_some h
  refine zciR (zrunV E hZ (by decide) (re_0 _) rfl rfl v_X11_leastOf kw_1958 (c_X11_leastOf l g M  (x1 + 1) (x2 ||| ((1 : Int32) <<< (x3 &&& 31))) qu_1 _) rfl hl.1 rfl (Nat.le_of_ble_eq_true rfl) ⟨by decide, by decide⟩ ⟨by decide, by decide⟩ dX11_leastBy_23) hZ (fun H locs hZ => ?_)
  refine lv_iadd hx hb dX11_leastBy_26 ?_
  refine va_mmin hx hb (E.1.2.2.1.trans hl.1.symm) E.1.2.2.2.1 (E.w kw_1862) (E.w kw_540) (E.w kw_16) (E.w kw_541) (Nat.le_of_ble_eq_true rfl) (Nat.le_of_ble_eq_true rfl) (Nat.le_of_ble_eq_true rfl) (Nat.le_of_ble_eq_true rfl) dX11_leastBy_27 ?_
  refine zni h (fun v_2 ev_2 h => ?_)
  exact hret _ _ _ _ _ _ ⟨Option.some.inj h, hM⟩ rfl hZ dX11_leastBy_30
theorem c_X11_leastBy (l : Launch) (g : zG) (M : zM)  (x1 : Int32) (x2 : Int32) (x3 : Int32) {r : Int32} (h : f_X11_leastBy M x1 x2 x3 = some r) : zMi l g rE 15 yX11_leastBy (zWs yX11_leastBy cX11_leastBy 4 (some .int)) 3 [.ref (g.2.2 0), .int x1, .int x2, .int x3] M (fun v M1 => v = r ∧ M1 = M) :=
  zMi_of (by decide +kernel) (Nat.le_of_ble_eq_true rfl) (fun p e s m args below meth c Q ls E hret hZ hl => w_X11_leastBy g  E hret M rfl x1 x2 x3 _ _ ls h hZ hl)
theorem v_X11_leastBy : zYV yX11_leastBy cX11_leastBy 4 (some .int) 3 := ⟨kw_1965, kw_15, kw_1964, kp_109, by decide +kernel⟩

def b_X11_laysLeast_203 (K101 : zM → Int32 → Option (zM)) (M : zM) (x1 : Int32) (x2 : Int32) : Option (zM) :=
  znm (x2 + (-1)) (fun x2_1 => K101 M x2_1)
set_option maxRecDepth 100000 in
set_option maxHeartbeats 4000000 in
theorem lb_X11_laysLeast_203 (g : zG)  {r : zM} (E : zX g p m c cX11_laysLeast 6 s args (zWs yX11_laysLeast cX11_laysLeast 6 none) RX11) (hret : zRv g rE 15 p l e (zrm 11 0 0) s m args below meth c 0 0 Q cX11_laysLeast (fun M1 => M1 = r)) (M : zM) (x1 : Int32) (x2 : Int32) (K101 : zM → Int32 → Option (zM)) (hK101 : ∀ (M : zM) (x2 : Int32) (H : Heap) (locs : List Loc) (ls : Array Slot), K101 M x2 = some r → zS g rE 15 s H locs M → lv_has ls 6 [(0, .ref (g.2.2 0)), (1, .int x1), (2, .int x2)] → W p l e (zrm 11 0 0) s m args below meth c H locs 0 0 Q (F0 m 101 ls [])) (H : Heap) (locs : List Loc) (ls : Array Slot) (h : b_X11_laysLeast_203 K101 M x1 x2 = some r) (hZ : zS g rE 15 s H locs M) (hl : lv_has ls 6 [(0, .ref (g.2.2 0)), (1, .int x1), (2, .int x2)]) : W p l e (zrm 11 0 0) s m args below meth c H locs 0 0 Q (F0 m 203 ls []) := by
  have hx := E.1.1
  have hb := E.1.2.1
  unfold b_X11_laysLeast_203 at h
  obtain ⟨x2_1, ex2_1, h⟩ := znm_ex h
  refine lv_iinc (v := x2_1) (lv' := [(2, .int x2_1), (0, .ref (g.2.2 0)), (1, .int x1)]) hx hb dX11_laysLeast_203 hl (k := 2) rfl (by rw [ex2_1]; rfl) (by decide) rfl (fun ls hl => ?_)
  refine lv_goto (tgt := 101) hx hb dX11_laysLeast_206 (by decide) ?_
  exact hK101 M x2_1 H locs ls h hZ (lv_sub hl [1, 2, 0] rfl)
def b_X11_laysLeast_184 (K107 : zM → Int32 → Option (zM)) (M : zM) (x1 : Int32) (x2 : Int32) (x3 : Int32) (x4 : Int32) : Option (zM) :=
  zck (zin ((x2 <<< ((6 : Int32) &&& 31)) + x3) 448) (znm (zu M 10 ((x2 <<< ((6 : Int32) &&& 31)) + x3 : Int32).toNatClampNeg x4) (fun M_2 => znm (x3 + 1) (fun x3_3 => K107 M_2 x3_3)))
set_option maxRecDepth 100000 in
set_option maxHeartbeats 4000000 in
theorem lb_X11_laysLeast_184 (g : zG)  {r : zM} (E : zX g p m c cX11_laysLeast 6 s args (zWs yX11_laysLeast cX11_laysLeast 6 none) RX11) (hret : zRv g rE 15 p l e (zrm 11 0 0) s m args below meth c 0 0 Q cX11_laysLeast (fun M1 => M1 = r)) (M : zM) (x1 : Int32) (x2 : Int32) (x3 : Int32) (x4 : Int32) (K107 : zM → Int32 → Option (zM)) (hK107 : ∀ (M : zM) (x3 : Int32) (H : Heap) (locs : List Loc) (ls : Array Slot), K107 M x3 = some r → zS g rE 15 s H locs M → lv_has ls 6 [(0, .ref (g.2.2 0)), (1, .int x1), (2, .int x2), (3, .int x3)] → W p l e (zrm 11 0 0) s m args below meth c H locs 0 0 Q (F0 m 107 ls [])) (H : Heap) (locs : List Loc) (ls : Array Slot) (h : b_X11_laysLeast_184 K107 M x1 x2 x3 x4 = some r) (hZ : zS g rE 15 s H locs M) (hl : lv_has ls 6 [(0, .ref (g.2.2 0)), (1, .int x1), (2, .int x2), (3, .int x3), (4, .int x4)]) : W p l e (zrm 11 0 0) s m args below meth c H locs 0 0 Q (F0 m 184 ls []) := by
  have hx := E.1.1
  have hb := E.1.2.1
  unfold b_X11_laysLeast_184 at h
  refine lv_aload_n hx hb dX11_laysLeast_184 rfl (lv_at hl 0 rfl) ?_
  refine zg (v := .ref (g.2.2 10)) E hZ (by decide) (re_0 _) kc_X11 19 (by decide) kw_1387 rfl rfl dX11_laysLeast_185 ?_
  refine lv_iload_n hx hb dX11_laysLeast_188 rfl (lv_at hl 2 rfl) ?_
  refine lv_bipush (v := 6) hx hb dX11_laysLeast_189 (by decide) ?_
  refine lv_ishl hx hb dX11_laysLeast_191 ?_
  refine lv_iload_n hx hb dX11_laysLeast_192 rfl (lv_at hl 3 rfl) ?_
  refine lv_iadd hx hb dX11_laysLeast_193 ?_
  refine lv_iload hx hb dX11_laysLeast_194 (lv_at hl 4 rfl) ?_
  refine zis h E hZ (by decide) re_10 dX11_laysLeast_196 (fun M_2 H locs eM_2 h hZ => ?_)
  obtain ⟨x3_3, ex3_3, h⟩ := znm_ex h
  refine lv_iinc (v := x3_3) (lv' := [(3, .int x3_3), (0, .ref (g.2.2 0)), (1, .int x1), (2, .int x2), (4, .int x4)]) hx hb dX11_laysLeast_197 hl (k := 3) rfl (by rw [ex3_3]; rfl) (by decide) rfl (fun ls hl => ?_)
  refine lv_goto (tgt := 107) hx hb dX11_laysLeast_200 (by decide) ?_
  exact hK107 M_2 x3_3 H locs ls h hZ (lv_sub hl [1, 2, 3, 0] rfl)
def b_X11_laysLeast_178 (K140 : Int32 → Int32 → Option (zM)) (M : zM) (x1 : Int32) (x2 : Int32) (x3 : Int32) (x4 : Int32) (x5 : Int32) : Option (zM) :=
  znm (x5 + 1) (fun x5_4 => K140 x4 x5_4)
set_option maxRecDepth 100000 in
set_option maxHeartbeats 4000000 in
theorem lb_X11_laysLeast_178 (g : zG)  {r : zM} (E : zX g p m c cX11_laysLeast 6 s args (zWs yX11_laysLeast cX11_laysLeast 6 none) RX11) (hret : zRv g rE 15 p l e (zrm 11 0 0) s m args below meth c 0 0 Q cX11_laysLeast (fun M1 => M1 = r)) (M : zM) (x1 : Int32) (x2 : Int32) (x3 : Int32) (x4 : Int32) (x5 : Int32) (K140 : Int32 → Int32 → Option (zM)) (hK140 : ∀ (x4 : Int32) (x5 : Int32) (H : Heap) (locs : List Loc) (ls : Array Slot), K140 x4 x5 = some r → zS g rE 15 s H locs M → lv_has ls 6 [(0, .ref (g.2.2 0)), (1, .int x1), (2, .int x2), (3, .int x3), (4, .int x4), (5, .int x5)] → W p l e (zrm 11 0 0) s m args below meth c H locs 0 0 Q (F0 m 140 ls [])) (H : Heap) (locs : List Loc) (ls : Array Slot) (h : b_X11_laysLeast_178 K140 M x1 x2 x3 x4 x5 = some r) (hZ : zS g rE 15 s H locs M) (hl : lv_has ls 6 [(0, .ref (g.2.2 0)), (1, .int x1), (2, .int x2), (3, .int x3), (4, .int x4), (5, .int x5)]) : W p l e (zrm 11 0 0) s m args below meth c H locs 0 0 Q (F0 m 178 ls []) := by
  have hx := E.1.1
  have hb := E.1.2.1
  unfold b_X11_laysLeast_178 at h
  obtain ⟨x5_4, ex5_4, h⟩ := znm_ex h
  refine lv_iinc (v := x5_4) (lv' := [(5, .int x5_4), (0, .ref (g.2.2 0)), (1, .int x1), (2, .int x2), (3, .int x3), (4, .int x4)]) hx hb dX11_laysLeast_178 hl (k := 5) rfl (by rw [ex5_4]; rfl) (by decide) rfl (fun ls hl => ?_)
  refine lv_goto (tgt := 140) hx hb dX11_laysLeast_181 (by decide) ?_
  exact hK140 x4 x5_4 H locs ls h hZ (lv_sub hl [1, 2, 3, 4, 5, 0] rfl)
def b_X11_laysLeast_140 (K107 : zM → Int32 → Option (zM)) (M : zM) (x1 : Int32) (x2 : Int32) (x3 : Int32) : Nat → Int32 → Int32 → Option (zM)
  | 0, _, _ => none
  | n + 1, x4, x5 =>
    if x1 ≤ x5 then (b_X11_laysLeast_184 K107 M x1 x2 x3 x4) else (zbn (f_X11_isDrowned M x2) (fun u_5 => if u_5 = 0 then (zbn (f_X11_has M x3 x5) (fun u_6 => if u_6 = 0 then (zbn (f_X11_leastBy M x2 x3 x5) (fun u_7 => znm (if u_7 < x4 then u_7 else x4) (fun v_8 => b_X11_laysLeast_178 (fun x4 x5 => b_X11_laysLeast_140 K107 M x1 x2 x3 n x4 x5) M x1 x2 x3 v_8 x5))) else (b_X11_laysLeast_178 (fun x4 x5 => b_X11_laysLeast_140 K107 M x1 x2 x3 n x4 x5) M x1 x2 x3 x4 x5))) else (b_X11_laysLeast_184 K107 M x1 x2 x3 x4)))
set_option maxRecDepth 100000 in
set_option maxHeartbeats 4000000 in
theorem lb_X11_laysLeast_140 (g : zG)  {r : zM} (E : zX g p m c cX11_laysLeast 6 s args (zWs yX11_laysLeast cX11_laysLeast 6 none) RX11) (hret : zRv g rE 15 p l e (zrm 11 0 0) s m args below meth c 0 0 Q cX11_laysLeast (fun M1 => M1 = r)) (M : zM) (x1 : Int32) (x2 : Int32) (x3 : Int32) (K107 : zM → Int32 → Option (zM)) (hK107 : ∀ (M : zM) (x3 : Int32) (H : Heap) (locs : List Loc) (ls : Array Slot), K107 M x3 = some r → zS g rE 15 s H locs M → lv_has ls 6 [(0, .ref (g.2.2 0)), (1, .int x1), (2, .int x2), (3, .int x3)] → W p l e (zrm 11 0 0) s m args below meth c H locs 0 0 Q (F0 m 107 ls [])) : ∀ (n : Nat) (x4 : Int32) (x5 : Int32) (H : Heap) (locs : List Loc) (ls : Array Slot), b_X11_laysLeast_140 K107 M x1 x2 x3 n x4 x5 = some r → zS g rE 15 s H locs M → lv_has ls 6 [(0, .ref (g.2.2 0)), (1, .int x1), (2, .int x2), (3, .int x3), (4, .int x4), (5, .int x5)] → W p l e (zrm 11 0 0) s m args below meth c H locs 0 0 Q (F0 m 140 ls []) := by
  have hx := E.1.1
  have hb := E.1.2.1
  intro n
  induction n with
  | zero => intro x4 x5 H locs ls h hZ hl; cases h
  | succ n ih =>
    intro x4 x5 H locs ls h hZ hl
    rw [b_X11_laysLeast_140] at h
    refine lv_iload hx hb dX11_laysLeast_140 (lv_at hl 5 rfl) ?_
    refine lv_iload_n hx hb dX11_laysLeast_142 rfl (lv_at hl 1 rfl) ?_
    refine zic_ge (tgt := 184) h E dX11_laysLeast_143 (by decide) (fun c_11 h => ?_) (fun c_11 h => ?_)
    · exact lb_X11_laysLeast_184 g  E hret M x1 x2 x3 x4 K107 hK107 H locs ls h hZ (lv_sub hl [0, 1, 2, 3, 4] rfl)
    · refine lv_aload_n hx hb dX11_laysLeast_146 rfl (lv_at hl 0 rfl) ?_
      refine lv_iload_n hx hb dX11_laysLeast_147 rfl (lv_at hl 2 rfl) ?_
      obtain ⟨u_5, qu_5, h⟩ := zbn_some h
      refine zciR (zrunV E hZ (by decide) (re_0 _) rfl rfl v_X11_isDrowned kw_1797 (c_X11_isDrowned l g M  x2 qu_5 _) rfl hl.1 rfl (Nat.le_of_ble_eq_true rfl) ⟨by decide, by decide⟩ ⟨by decide, by decide⟩ dX11_laysLeast_148) hZ (fun H locs hZ => ?_)
      refine zif_ne (tgt := 184) h E dX11_laysLeast_151 (by decide) (fun c_10 h => ?_) (fun c_10 h => ?_)
      · exact lb_X11_laysLeast_184 g  E hret M x1 x2 x3 x4 K107 hK107 H locs ls h hZ (lv_sub hl [0, 1, 2, 3, 4] rfl)
      · refine lv_iload_n hx hb dX11_laysLeast_154 rfl (lv_at hl 3 rfl) ?_
        refine lv_iload hx hb dX11_laysLeast_155 (lv_at hl 5 rfl) ?_
        obtain ⟨u_6, qu_6, h⟩ := zbn_some h
        refine zciR (zrunS E hZ v_X11_has kw_1922 (c_X11_has l g M  x3 x5 qu_6 _) rfl hl.1 rfl (Nat.le_of_ble_eq_true rfl) ⟨by decide, by decide⟩ ⟨by decide, by decide⟩ dX11_laysLeast_157) hZ (fun H locs hZ => ?_)
        refine zif_ne (tgt := 178) h E dX11_laysLeast_160 (by decide) (fun c_9 h => ?_) (fun c_9 h => ?_)
        · exact lb_X11_laysLeast_178 g  E hret M x1 x2 x3 x4 x5 (fun x4 x5 => b_X11_laysLeast_140 K107 M x1 x2 x3 n x4 x5) ih H locs ls h hZ (lv_sub hl [0, 1, 2, 3, 4, 5] rfl)
        · refine lv_iload hx hb dX11_laysLeast_163 (lv_at hl 4 rfl) ?_
          refine lv_aload_n hx hb dX11_laysLeast_165 rfl (lv_at hl 0 rfl) ?_
          refine lv_iload_n hx hb dX11_laysLeast_166 rfl (lv_at hl 2 rfl) ?_
          refine lv_iload_n hx hb dX11_laysLeast_167 rfl (lv_at hl 3 rfl) ?_
          refine lv_iload hx hb dX11_laysLeast_168 (lv_at hl 5 rfl) ?_
          obtain ⟨u_7, qu_7, h⟩ := zbn_some h
          refine zciR (zrunV E hZ (by decide) (re_0 _) rfl rfl v_X11_leastBy kw_1962 (c_X11_leastBy l g M  x2 x3 x5 qu_7 _) rfl hl.1 rfl (Nat.le_of_ble_eq_true rfl) ⟨by decide, by decide⟩ ⟨by decide, by decide⟩ dX11_laysLeast_170) hZ (fun H locs hZ => ?_)
          refine va_mmin hx hb (E.1.2.2.1.trans hl.1.symm) E.1.2.2.2.1 (E.w kw_1862) (E.w kw_540) (E.w kw_16) (E.w kw_541) (Nat.le_of_ble_eq_true rfl) (Nat.le_of_ble_eq_true rfl) (Nat.le_of_ble_eq_true rfl) (Nat.le_of_ble_eq_true rfl) dX11_laysLeast_173 ?_
          refine zni h (fun v_8 ev_8 h => ?_)
          refine lv_istore (lv' := [(4, .int v_8), (0, .ref (g.2.2 0)), (1, .int x1), (2, .int x2), (3, .int x3), (5, .int x5)]) hx hb dX11_laysLeast_176 hl (by decide) rfl (fun ls hl => ?_)
          exact lb_X11_laysLeast_178 g  E hret M x1 x2 x3 v_8 x5 (fun x4 x5 => b_X11_laysLeast_140 K107 M x1 x2 x3 n x4 x5) ih H locs ls h hZ (lv_sub hl [1, 2, 3, 4, 0, 5] rfl)
def b_X11_laysLeast_135 (K107 : zM → Int32 → Option (zM)) (M : zM) (x1 : Int32) (x2 : Int32) (x3 : Int32) (t0 : Int32) : Option (zM) :=
  b_X11_laysLeast_140 K107 M x1 x2 x3 6000 t0 0
set_option maxRecDepth 100000 in
set_option maxHeartbeats 4000000 in
theorem lb_X11_laysLeast_135 (g : zG)  {r : zM} (E : zX g p m c cX11_laysLeast 6 s args (zWs yX11_laysLeast cX11_laysLeast 6 none) RX11) (hret : zRv g rE 15 p l e (zrm 11 0 0) s m args below meth c 0 0 Q cX11_laysLeast (fun M1 => M1 = r)) (M : zM) (x1 : Int32) (x2 : Int32) (x3 : Int32) (t0 : Int32) (K107 : zM → Int32 → Option (zM)) (hK107 : ∀ (M : zM) (x3 : Int32) (H : Heap) (locs : List Loc) (ls : Array Slot), K107 M x3 = some r → zS g rE 15 s H locs M → lv_has ls 6 [(0, .ref (g.2.2 0)), (1, .int x1), (2, .int x2), (3, .int x3)] → W p l e (zrm 11 0 0) s m args below meth c H locs 0 0 Q (F0 m 107 ls [])) (H : Heap) (locs : List Loc) (ls : Array Slot) (h : b_X11_laysLeast_135 K107 M x1 x2 x3 t0 = some r) (hZ : zS g rE 15 s H locs M) (hl : lv_has ls 6 [(0, .ref (g.2.2 0)), (1, .int x1), (2, .int x2), (3, .int x3)]) : W p l e (zrm 11 0 0) s m args below meth c H locs 0 0 Q (F0 m 135 ls [.int t0]) := by
  have hx := E.1.1
  have hb := E.1.2.1
  unfold b_X11_laysLeast_135 at h
  refine lv_istore (lv' := [(4, .int t0), (0, .ref (g.2.2 0)), (1, .int x1), (2, .int x2), (3, .int x3)]) hx hb dX11_laysLeast_135 hl (by decide) rfl (fun ls hl => ?_)
  refine lv_iconst (v := 0) hx hb dX11_laysLeast_137 (by decide) ?_
  refine lv_istore (lv' := [(5, .int 0), (4, .int t0), (0, .ref (g.2.2 0)), (1, .int x1), (2, .int x2), (3, .int x3)]) hx hb dX11_laysLeast_138 hl (by decide) rfl (fun ls hl => ?_)
  exact lb_X11_laysLeast_140 g  E hret M x1 x2 x3 K107 hK107 6000 t0 0 H locs ls h hZ (lv_sub hl [2, 3, 4, 5, 1, 0] rfl)
def b_X11_laysLeast_107 (K101 : zM → Int32 → Option (zM)) (x1 : Int32) (x2 : Int32) : Nat → zM → Int32 → Option (zM)
  | 0, _, _ => none
  | n + 1, M, x3 =>
    if 64 ≤ x3 then (b_X11_laysLeast_203 K101 M x1 x2) else (zbn (f_X11_isDrowned M x2) (fun u_12 => if u_12 = 0 then (b_X11_laysLeast_135 (fun M x3 => b_X11_laysLeast_107 K101 x1 x2 n M x3) M x1 x2 x3 1000000) else (zbn (f_X11_leastOf M (x2 + 1) x3) (fun u_13 => b_X11_laysLeast_135 (fun M x3 => b_X11_laysLeast_107 K101 x1 x2 n M x3) M x1 x2 x3 u_13))))
set_option maxRecDepth 100000 in
set_option maxHeartbeats 4000000 in
theorem lb_X11_laysLeast_107 (g : zG)  {r : zM} (E : zX g p m c cX11_laysLeast 6 s args (zWs yX11_laysLeast cX11_laysLeast 6 none) RX11) (hret : zRv g rE 15 p l e (zrm 11 0 0) s m args below meth c 0 0 Q cX11_laysLeast (fun M1 => M1 = r)) (x1 : Int32) (x2 : Int32) (K101 : zM → Int32 → Option (zM)) (hK101 : ∀ (M : zM) (x2 : Int32) (H : Heap) (locs : List Loc) (ls : Array Slot), K101 M x2 = some r → zS g rE 15 s H locs M → lv_has ls 6 [(0, .ref (g.2.2 0)), (1, .int x1), (2, .int x2)] → W p l e (zrm 11 0 0) s m args below meth c H locs 0 0 Q (F0 m 101 ls [])) : ∀ (n : Nat) (M : zM) (x3 : Int32) (H : Heap) (locs : List Loc) (ls : Array Slot), b_X11_laysLeast_107 K101 x1 x2 n M x3 = some r → zS g rE 15 s H locs M → lv_has ls 6 [(0, .ref (g.2.2 0)), (1, .int x1), (2, .int x2), (3, .int x3)] → W p l e (zrm 11 0 0) s m args below meth c H locs 0 0 Q (F0 m 107 ls []) := by
  have hx := E.1.1
  have hb := E.1.2.1
  intro n
  induction n with
  | zero => intro M x3 H locs ls h hZ hl; cases h
  | succ n ih =>
    intro M x3 H locs ls h hZ hl
    rw [b_X11_laysLeast_107] at h
    refine lv_iload_n hx hb dX11_laysLeast_107 rfl (lv_at hl 3 rfl) ?_
    refine lv_bipush (v := 64) hx hb dX11_laysLeast_108 (by decide) ?_
    refine zic_ge (tgt := 203) h E dX11_laysLeast_110 (by decide) (fun c_15 h => ?_) (fun c_15 h => ?_)
    · exact lb_X11_laysLeast_203 g  E hret M x1 x2 K101 hK101 H locs ls h hZ (lv_sub hl [0, 1, 2] rfl)
    · refine lv_aload_n hx hb dX11_laysLeast_113 rfl (lv_at hl 0 rfl) ?_
      refine lv_iload_n hx hb dX11_laysLeast_114 rfl (lv_at hl 2 rfl) ?_
      obtain ⟨u_12, qu_12, h⟩ := zbn_some h
      refine zciR (zrunV E hZ (by decide) (re_0 _) rfl rfl v_X11_isDrowned kw_1797 (c_X11_isDrowned l g M  x2 qu_12 _) rfl hl.1 rfl (Nat.le_of_ble_eq_true rfl) ⟨by decide, by decide⟩ ⟨by decide, by decide⟩ dX11_laysLeast_115) hZ (fun H locs hZ => ?_)
      refine zif_eq (tgt := 132) h E dX11_laysLeast_118 (by decide) (fun c_14 h => ?_) (fun c_14 h => ?_)
      · refine lv_ldcw (v := 1000000) hx hb E.1.2.2.2.1 (E.w kw_1933) dX11_laysLeast_132 ?_
        exact lb_X11_laysLeast_135 g  E hret M x1 x2 x3 1000000 (fun M x3 => b_X11_laysLeast_107 K101 x1 x2 n M x3) ih H locs ls h hZ (lv_sub hl [0, 1, 2, 3] rfl)
      · refine lv_aload_n hx hb dX11_laysLeast_121 rfl (lv_at hl 0 rfl) ?_
        refine lv_iload_n hx hb dX11_laysLeast_122 rfl (lv_at hl 2 rfl) ?_
        refine lv_iconst (v := 1) hx hb dX11_laysLeast_123 (by decide) ?_
        refine lv_iadd hx hb dX11_laysLeast_124 ?_
        refine lv_iload_n hx hb dX11_laysLeast_125 rfl (lv_at hl 3 rfl) ?_
        obtain ⟨u_13, qu_13, h⟩ := zbn_some h
        refine zciR (zrunV E hZ (by decide) (re_0 _) rfl rfl v_X11_leastOf kw_1958 (c_X11_leastOf l g M  (x2 + 1) x3 qu_13 _) rfl hl.1 rfl (Nat.le_of_ble_eq_true rfl) ⟨by decide, by decide⟩ ⟨by decide, by decide⟩ dX11_laysLeast_126) hZ (fun H locs hZ => ?_)
        refine lv_goto (tgt := 135) hx hb dX11_laysLeast_129 (by decide) ?_
        exact lb_X11_laysLeast_135 g  E hret M x1 x2 x3 u_13 (fun M x3 => b_X11_laysLeast_107 K101 x1 x2 n M x3) ih H locs ls h hZ (lv_sub hl [0, 1, 2, 3] rfl)
def b_X11_laysLeast_101  (x1 : Int32) : Nat → zM → Int32 → Option (zM)
  | 0, _, _ => none
  | n + 1, M, x2 =>
    if x2 < 0 then (some M) else (b_X11_laysLeast_107 (fun M x2 => b_X11_laysLeast_101  x1 n M x2) x1 x2 6000 M 0)
set_option maxRecDepth 100000 in
set_option maxHeartbeats 4000000 in
theorem lb_X11_laysLeast_101 (g : zG)  {r : zM} (E : zX g p m c cX11_laysLeast 6 s args (zWs yX11_laysLeast cX11_laysLeast 6 none) RX11) (hret : zRv g rE 15 p l e (zrm 11 0 0) s m args below meth c 0 0 Q cX11_laysLeast (fun M1 => M1 = r)) (x1 : Int32)  : ∀ (n : Nat) (M : zM) (x2 : Int32) (H : Heap) (locs : List Loc) (ls : Array Slot), b_X11_laysLeast_101  x1 n M x2 = some r → zS g rE 15 s H locs M → lv_has ls 6 [(0, .ref (g.2.2 0)), (1, .int x1), (2, .int x2)] → W p l e (zrm 11 0 0) s m args below meth c H locs 0 0 Q (F0 m 101 ls []) := by
  have hx := E.1.1
  have hb := E.1.2.1
  intro n
  induction n with
  | zero => intro M x2 H locs ls h hZ hl; cases h
  | succ n ih =>
    intro M x2 H locs ls h hZ hl
    rw [b_X11_laysLeast_101] at h
    refine lv_iload_n hx hb dX11_laysLeast_101 rfl (lv_at hl 2 rfl) ?_
    refine zif_lt (tgt := 209) h E dX11_laysLeast_102 (by decide) (fun c_16 h => ?_) (fun c_16 h => ?_)
    · exact hret _ _ _ _ _ (Option.some.inj h) hZ dX11_laysLeast_209
    · refine lv_iconst (v := 0) hx hb dX11_laysLeast_105 (by decide) ?_
      refine lv_istore_n (lv' := [(3, .int 0), (0, .ref (g.2.2 0)), (1, .int x1), (2, .int x2)]) hx hb dX11_laysLeast_106 rfl hl (by decide) rfl (fun ls hl => ?_)
      exact lb_X11_laysLeast_107 g  E hret x1 x2 (fun M x2 => b_X11_laysLeast_101  x1 n M x2) ih 6000 M 0 H locs ls h hZ (lv_sub hl [1, 2, 3, 0] rfl)
def b_X11_laysLeast_94  (M : zM) (x1 : Int32) : Option (zM) :=
  zbn (f_X11_monks M ) (fun u_17 => znm (u_17 - 1) (fun x2_18 => b_X11_laysLeast_101  x1 6000 M x2_18))
set_option maxRecDepth 100000 in
set_option maxHeartbeats 4000000 in
theorem lb_X11_laysLeast_94 (g : zG)  {r : zM} (E : zX g p m c cX11_laysLeast 6 s args (zWs yX11_laysLeast cX11_laysLeast 6 none) RX11) (hret : zRv g rE 15 p l e (zrm 11 0 0) s m args below meth c 0 0 Q cX11_laysLeast (fun M1 => M1 = r)) (M : zM) (x1 : Int32)  (H : Heap) (locs : List Loc) (ls : Array Slot) (h : b_X11_laysLeast_94  M x1 = some r) (hZ : zS g rE 15 s H locs M) (hl : lv_has ls 6 [(0, .ref (g.2.2 0)), (1, .int x1)]) : W p l e (zrm 11 0 0) s m args below meth c H locs 0 0 Q (F0 m 94 ls []) := by
  have hx := E.1.1
  have hb := E.1.2.1
  unfold b_X11_laysLeast_94 at h
  refine lv_aload_n hx hb dX11_laysLeast_94 rfl (lv_at hl 0 rfl) ?_
  obtain ⟨u_17, qu_17, h⟩ := zbn_some h
  refine zciR (zrunV E hZ (by decide) (re_0 _) rfl rfl v_X11_monks kw_1562 (c_X11_monks l g M   qu_17 _) rfl hl.1 rfl (Nat.le_of_ble_eq_true rfl) ⟨by decide, by decide⟩ ⟨by decide, by decide⟩ dX11_laysLeast_95) hZ (fun H locs hZ => ?_)
  refine lv_iconst (v := 1) hx hb dX11_laysLeast_98 (by decide) ?_
  refine lv_isub hx hb dX11_laysLeast_99 ?_
  refine zni h (fun x2_18 ex2_18 h => ?_)
  refine lv_istore_n (lv' := [(2, .int x2_18), (0, .ref (g.2.2 0)), (1, .int x1)]) hx hb dX11_laysLeast_100 rfl hl (by decide) rfl (fun ls hl => ?_)
  exact lb_X11_laysLeast_101 g  E hret x1  6000 M x2_18 H locs ls h hZ (lv_sub hl [1, 2, 0] rfl)
def b_X11_laysLeast_67  (x1 : Int32) : Nat → zM → Int32 → Option (zM)
  | 0, _, _ => none
  | n + 1, M, x2 =>
    if 64 ≤ x2 then (b_X11_laysLeast_94  M x1) else (zbn (f_X11_monks M ) (fun u_19 => zck (zin ((u_19 <<< ((6 : Int32) &&& 31)) + x2) 448) (znm (zu M 10 ((u_19 <<< ((6 : Int32) &&& 31)) + x2 : Int32).toNatClampNeg 0) (fun M_20 => znm (x2 + 1) (fun x2_21 => b_X11_laysLeast_67  x1 n M_20 x2_21)))))
set_option maxRecDepth 100000 in
set_option maxHeartbeats 4000000 in
theorem lb_X11_laysLeast_67 (g : zG)  {r : zM} (E : zX g p m c cX11_laysLeast 6 s args (zWs yX11_laysLeast cX11_laysLeast 6 none) RX11) (hret : zRv g rE 15 p l e (zrm 11 0 0) s m args below meth c 0 0 Q cX11_laysLeast (fun M1 => M1 = r)) (x1 : Int32)  : ∀ (n : Nat) (M : zM) (x2 : Int32) (H : Heap) (locs : List Loc) (ls : Array Slot), b_X11_laysLeast_67  x1 n M x2 = some r → zS g rE 15 s H locs M → lv_has ls 6 [(0, .ref (g.2.2 0)), (1, .int x1), (2, .int x2)] → W p l e (zrm 11 0 0) s m args below meth c H locs 0 0 Q (F0 m 67 ls []) := by
  have hx := E.1.1
  have hb := E.1.2.1
  intro n
  induction n with
  | zero => intro M x2 H locs ls h hZ hl; cases h
  | succ n ih =>
    intro M x2 H locs ls h hZ hl
    rw [b_X11_laysLeast_67] at h
    refine lv_iload_n hx hb dX11_laysLeast_67 rfl (lv_at hl 2 rfl) ?_
    refine lv_bipush (v := 64) hx hb dX11_laysLeast_68 (by decide) ?_
    refine zic_ge (tgt := 94) h E dX11_laysLeast_70 (by decide) (fun c_22 h => ?_) (fun c_22 h => ?_)
    · exact lb_X11_laysLeast_94 g  E hret M x1  H locs ls h hZ (lv_sub hl [0, 1] rfl)
    · refine lv_aload_n hx hb dX11_laysLeast_73 rfl (lv_at hl 0 rfl) ?_
      refine zg (v := .ref (g.2.2 10)) E hZ (by decide) (re_0 _) kc_X11 19 (by decide) kw_1387 rfl rfl dX11_laysLeast_74 ?_
      refine lv_aload_n hx hb dX11_laysLeast_77 rfl (lv_at hl 0 rfl) ?_
      obtain ⟨u_19, qu_19, h⟩ := zbn_some h
      refine zciR (zrunV E hZ (by decide) (re_0 _) rfl rfl v_X11_monks kw_1562 (c_X11_monks l g M   qu_19 _) rfl hl.1 rfl (Nat.le_of_ble_eq_true rfl) ⟨by decide, by decide⟩ ⟨by decide, by decide⟩ dX11_laysLeast_78) hZ (fun H locs hZ => ?_)
      refine lv_bipush (v := 6) hx hb dX11_laysLeast_81 (by decide) ?_
      refine lv_ishl hx hb dX11_laysLeast_83 ?_
      refine lv_iload_n hx hb dX11_laysLeast_84 rfl (lv_at hl 2 rfl) ?_
      refine lv_iadd hx hb dX11_laysLeast_85 ?_
      refine lv_iconst (v := 0) hx hb dX11_laysLeast_86 (by decide) ?_
      refine zis h E hZ (by decide) re_10 dX11_laysLeast_87 (fun M_20 H locs eM_20 h hZ => ?_)
      obtain ⟨x2_21, ex2_21, h⟩ := znm_ex h
      refine lv_iinc (v := x2_21) (lv' := [(2, .int x2_21), (0, .ref (g.2.2 0)), (1, .int x1)]) hx hb dX11_laysLeast_88 hl (k := 2) rfl (by rw [ex2_21]; rfl) (by decide) rfl (fun ls hl => ?_)
      refine lv_goto (tgt := 67) hx hb dX11_laysLeast_91 (by decide) ?_
      exact ih M_20 x2_21 H locs ls h hZ (lv_sub hl [1, 2, 0] rfl)
def b_X11_laysLeast_65  (M : zM) (x1 : Int32) : Option (zM) :=
  b_X11_laysLeast_67  x1 6000 M 0
set_option maxRecDepth 100000 in
set_option maxHeartbeats 4000000 in
theorem lb_X11_laysLeast_65 (g : zG)  {r : zM} (E : zX g p m c cX11_laysLeast 6 s args (zWs yX11_laysLeast cX11_laysLeast 6 none) RX11) (hret : zRv g rE 15 p l e (zrm 11 0 0) s m args below meth c 0 0 Q cX11_laysLeast (fun M1 => M1 = r)) (M : zM) (x1 : Int32)  (H : Heap) (locs : List Loc) (ls : Array Slot) (h : b_X11_laysLeast_65  M x1 = some r) (hZ : zS g rE 15 s H locs M) (hl : lv_has ls 6 [(0, .ref (g.2.2 0)), (1, .int x1)]) : W p l e (zrm 11 0 0) s m args below meth c H locs 0 0 Q (F0 m 65 ls []) := by
  have hx := E.1.1
  have hb := E.1.2.1
  unfold b_X11_laysLeast_65 at h
  refine lv_iconst (v := 0) hx hb dX11_laysLeast_65 (by decide) ?_
  refine lv_istore_n (lv' := [(2, .int 0), (0, .ref (g.2.2 0)), (1, .int x1)]) hx hb dX11_laysLeast_66 rfl hl (by decide) rfl (fun ls hl => ?_)
  exact lb_X11_laysLeast_67 g  E hret x1  6000 M 0 H locs ls h hZ (lv_sub hl [1, 2, 0] rfl)
def b_X11_laysLeast_59 (K2 : zM → Int32 → Option (zM)) (M : zM) (x1 : Int32) (x2 : Int32) : Option (zM) :=
  znm (x2 + 1) (fun x2_23 => K2 M x2_23)
set_option maxRecDepth 100000 in
set_option maxHeartbeats 4000000 in
theorem lb_X11_laysLeast_59 (g : zG)  {r : zM} (E : zX g p m c cX11_laysLeast 6 s args (zWs yX11_laysLeast cX11_laysLeast 6 none) RX11) (hret : zRv g rE 15 p l e (zrm 11 0 0) s m args below meth c 0 0 Q cX11_laysLeast (fun M1 => M1 = r)) (M : zM) (x1 : Int32) (x2 : Int32) (K2 : zM → Int32 → Option (zM)) (hK2 : ∀ (M : zM) (x2 : Int32) (H : Heap) (locs : List Loc) (ls : Array Slot), K2 M x2 = some r → zS g rE 15 s H locs M → lv_has ls 6 [(0, .ref (g.2.2 0)), (1, .int x1), (2, .int x2)] → W p l e (zrm 11 0 0) s m args below meth c H locs 0 0 Q (F0 m 2 ls [])) (H : Heap) (locs : List Loc) (ls : Array Slot) (h : b_X11_laysLeast_59 K2 M x1 x2 = some r) (hZ : zS g rE 15 s H locs M) (hl : lv_has ls 6 [(0, .ref (g.2.2 0)), (1, .int x1), (2, .int x2)]) : W p l e (zrm 11 0 0) s m args below meth c H locs 0 0 Q (F0 m 59 ls []) := by
  have hx := E.1.1
  have hb := E.1.2.1
  unfold b_X11_laysLeast_59 at h
  obtain ⟨x2_23, ex2_23, h⟩ := znm_ex h
  refine lv_iinc (v := x2_23) (lv' := [(2, .int x2_23), (0, .ref (g.2.2 0)), (1, .int x1)]) hx hb dX11_laysLeast_59 hl (k := 2) rfl (by rw [ex2_23]; rfl) (by decide) rfl (fun ls hl => ?_)
  refine lv_goto (tgt := 2) hx hb dX11_laysLeast_62 (by decide) ?_
  exact hK2 M x2_23 H locs ls h hZ (lv_sub hl [1, 2, 0] rfl)
def b_X11_laysLeast_52 (K12 : zM → Int32 → Option (zM)) (M : zM) (x1 : Int32) (x2 : Int32) (x3 : Int32) (t0 : Int32) (t1 : Int32) : Option (zM) :=
  zck (zin t1 36) (znm (zu M 9 (t1 : Int32).toNatClampNeg t0) (fun M_24 => znm (x3 + 1) (fun x3_25 => K12 M_24 x3_25)))
set_option maxRecDepth 100000 in
set_option maxHeartbeats 4000000 in
theorem lb_X11_laysLeast_52 (g : zG)  {r : zM} (E : zX g p m c cX11_laysLeast 6 s args (zWs yX11_laysLeast cX11_laysLeast 6 none) RX11) (hret : zRv g rE 15 p l e (zrm 11 0 0) s m args below meth c 0 0 Q cX11_laysLeast (fun M1 => M1 = r)) (M : zM) (x1 : Int32) (x2 : Int32) (x3 : Int32) (t0 : Int32) (t1 : Int32) (K12 : zM → Int32 → Option (zM)) (hK12 : ∀ (M : zM) (x3 : Int32) (H : Heap) (locs : List Loc) (ls : Array Slot), K12 M x3 = some r → zS g rE 15 s H locs M → lv_has ls 6 [(0, .ref (g.2.2 0)), (1, .int x1), (2, .int x2), (3, .int x3)] → W p l e (zrm 11 0 0) s m args below meth c H locs 0 0 Q (F0 m 12 ls [])) (H : Heap) (locs : List Loc) (ls : Array Slot) (h : b_X11_laysLeast_52 K12 M x1 x2 x3 t0 t1 = some r) (hZ : zS g rE 15 s H locs M) (hl : lv_has ls 6 [(0, .ref (g.2.2 0)), (1, .int x1), (2, .int x2), (3, .int x3)]) : W p l e (zrm 11 0 0) s m args below meth c H locs 0 0 Q (F0 m 52 ls [.int t0, .int t1, .ref (g.2.2 9)]) := by
  have hx := E.1.1
  have hb := E.1.2.1
  unfold b_X11_laysLeast_52 at h
  refine zis h E hZ (by decide) re_9 dX11_laysLeast_52 (fun M_24 H locs eM_24 h hZ => ?_)
  obtain ⟨x3_25, ex3_25, h⟩ := znm_ex h
  refine lv_iinc (v := x3_25) (lv' := [(3, .int x3_25), (0, .ref (g.2.2 0)), (1, .int x1), (2, .int x2)]) hx hb dX11_laysLeast_53 hl (k := 3) rfl (by rw [ex3_25]; rfl) (by decide) rfl (fun ls hl => ?_)
  refine lv_goto (tgt := 12) hx hb dX11_laysLeast_56 (by decide) ?_
  exact hK12 M_24 x3_25 H locs ls h hZ (lv_sub hl [1, 2, 3, 0] rfl)
def b_X11_laysLeast_12 (K2 : zM → Int32 → Option (zM)) (x1 : Int32) (x2 : Int32) : Nat → zM → Int32 → Option (zM)
  | 0, _, _ => none
  | n + 1, M, x3 =>
    if x1 ≤ x3 then (b_X11_laysLeast_59 K2 M x1 x2) else (zbn (f_X11_isDrowned M x2) (fun u_26 => if u_26 = 0 then (zck (zin x3 400) (zbn (f_X11_comesTo M x2 (M 6 (x3 : Int32).toNatClampNeg)) (fun u_27 => b_X11_laysLeast_52 (fun M x3 => b_X11_laysLeast_12 K2 x1 x2 n M x3) M x1 x2 x3 u_27 ((6 * x2) + x3)))) else (b_X11_laysLeast_52 (fun M x3 => b_X11_laysLeast_12 K2 x1 x2 n M x3) M x1 x2 x3 1000000 ((6 * x2) + x3))))
set_option maxRecDepth 100000 in
set_option maxHeartbeats 4000000 in
theorem lb_X11_laysLeast_12 (g : zG)  {r : zM} (E : zX g p m c cX11_laysLeast 6 s args (zWs yX11_laysLeast cX11_laysLeast 6 none) RX11) (hret : zRv g rE 15 p l e (zrm 11 0 0) s m args below meth c 0 0 Q cX11_laysLeast (fun M1 => M1 = r)) (x1 : Int32) (x2 : Int32) (K2 : zM → Int32 → Option (zM)) (hK2 : ∀ (M : zM) (x2 : Int32) (H : Heap) (locs : List Loc) (ls : Array Slot), K2 M x2 = some r → zS g rE 15 s H locs M → lv_has ls 6 [(0, .ref (g.2.2 0)), (1, .int x1), (2, .int x2)] → W p l e (zrm 11 0 0) s m args below meth c H locs 0 0 Q (F0 m 2 ls [])) : ∀ (n : Nat) (M : zM) (x3 : Int32) (H : Heap) (locs : List Loc) (ls : Array Slot), b_X11_laysLeast_12 K2 x1 x2 n M x3 = some r → zS g rE 15 s H locs M → lv_has ls 6 [(0, .ref (g.2.2 0)), (1, .int x1), (2, .int x2), (3, .int x3)] → W p l e (zrm 11 0 0) s m args below meth c H locs 0 0 Q (F0 m 12 ls []) := by
  have hx := E.1.1
  have hb := E.1.2.1
  intro n
  induction n with
  | zero => intro M x3 H locs ls h hZ hl; cases h
  | succ n ih =>
    intro M x3 H locs ls h hZ hl
    rw [b_X11_laysLeast_12] at h
    refine lv_iload_n hx hb dX11_laysLeast_12 rfl (lv_at hl 3 rfl) ?_
    refine lv_iload_n hx hb dX11_laysLeast_13 rfl (lv_at hl 1 rfl) ?_
    refine zic_ge (tgt := 59) h E dX11_laysLeast_14 (by decide) (fun c_29 h => ?_) (fun c_29 h => ?_)
    · exact lb_X11_laysLeast_59 g  E hret M x1 x2 K2 hK2 H locs ls h hZ (lv_sub hl [0, 1, 2] rfl)
    · refine lv_aload_n hx hb dX11_laysLeast_17 rfl (lv_at hl 0 rfl) ?_
      refine zg (v := .ref (g.2.2 9)) E hZ (by decide) (re_0 _) kc_X11 18 (by decide) kw_1386 rfl rfl dX11_laysLeast_18 ?_
      refine lv_bipush (v := 6) hx hb dX11_laysLeast_21 (by decide) ?_
      refine lv_iload_n hx hb dX11_laysLeast_23 rfl (lv_at hl 2 rfl) ?_
      refine lv_imul hx hb dX11_laysLeast_24 ?_
      refine lv_iload_n hx hb dX11_laysLeast_25 rfl (lv_at hl 3 rfl) ?_
      refine lv_iadd hx hb dX11_laysLeast_26 ?_
      refine lv_aload_n hx hb dX11_laysLeast_27 rfl (lv_at hl 0 rfl) ?_
      refine lv_iload_n hx hb dX11_laysLeast_28 rfl (lv_at hl 2 rfl) ?_
      obtain ⟨u_26, qu_26, h⟩ := zbn_some h
      refine zciR (zrunV E hZ (by decide) (re_0 _) rfl rfl v_X11_isDrowned kw_1797 (c_X11_isDrowned l g M  x2 qu_26 _) rfl hl.1 rfl (Nat.le_of_ble_eq_true rfl) ⟨by decide, by decide⟩ ⟨by decide, by decide⟩ dX11_laysLeast_29) hZ (fun H locs hZ => ?_)
      refine zif_eq (tgt := 41) h E dX11_laysLeast_32 (by decide) (fun c_28 h => ?_) (fun c_28 h => ?_)
      · refine lv_aload_n hx hb dX11_laysLeast_41 rfl (lv_at hl 0 rfl) ?_
        refine lv_iload_n hx hb dX11_laysLeast_42 rfl (lv_at hl 2 rfl) ?_
        refine lv_aload_n hx hb dX11_laysLeast_43 rfl (lv_at hl 0 rfl) ?_
        refine zg (v := .ref (g.2.2 6)) E hZ (by decide) (re_0 _) kc_X11 8 (by decide) kw_1376 rfl rfl dX11_laysLeast_44 ?_
        refine lv_iload_n hx hb dX11_laysLeast_47 rfl (lv_at hl 3 rfl) ?_
        refine zba h E hZ (by decide) re_6 dX11_laysLeast_48 (fun h => ?_)
        obtain ⟨u_27, qu_27, h⟩ := zbn_some h
        refine zciR (zrunV E hZ (by decide) (re_0 _) rfl rfl v_X11_comesTo kw_1946 (c_X11_comesTo l g M  x2 (M 6 (x3 : Int32).toNatClampNeg) qu_27 _) rfl hl.1 rfl (Nat.le_of_ble_eq_true rfl) ⟨by decide, by decide⟩ ⟨by decide, by decide⟩ dX11_laysLeast_49) hZ (fun H locs hZ => ?_)
        exact lb_X11_laysLeast_52 g  E hret M x1 x2 x3 u_27 ((6 * x2) + x3) (fun M x3 => b_X11_laysLeast_12 K2 x1 x2 n M x3) ih H locs ls h hZ (lv_sub hl [0, 1, 2, 3] rfl)
      · refine lv_ldcw (v := 1000000) hx hb E.1.2.2.2.1 (E.w kw_1933) dX11_laysLeast_35 ?_
        refine lv_goto (tgt := 52) hx hb dX11_laysLeast_38 (by decide) ?_
        exact lb_X11_laysLeast_52 g  E hret M x1 x2 x3 1000000 ((6 * x2) + x3) (fun M x3 => b_X11_laysLeast_12 K2 x1 x2 n M x3) ih H locs ls h hZ (lv_sub hl [0, 1, 2, 3] rfl)
def b_X11_laysLeast_2  (x1 : Int32) : Nat → zM → Int32 → Option (zM)
  | 0, _, _ => none
  | n + 1, M, x2 =>
    zbn (f_X11_monks M ) (fun u_30 => if u_30 ≤ x2 then (b_X11_laysLeast_65  M x1) else (b_X11_laysLeast_12 (fun M x2 => b_X11_laysLeast_2  x1 n M x2) x1 x2 6000 M 0))
set_option maxRecDepth 100000 in
set_option maxHeartbeats 4000000 in
theorem lb_X11_laysLeast_2 (g : zG)  {r : zM} (E : zX g p m c cX11_laysLeast 6 s args (zWs yX11_laysLeast cX11_laysLeast 6 none) RX11) (hret : zRv g rE 15 p l e (zrm 11 0 0) s m args below meth c 0 0 Q cX11_laysLeast (fun M1 => M1 = r)) (x1 : Int32)  : ∀ (n : Nat) (M : zM) (x2 : Int32) (H : Heap) (locs : List Loc) (ls : Array Slot), b_X11_laysLeast_2  x1 n M x2 = some r → zS g rE 15 s H locs M → lv_has ls 6 [(0, .ref (g.2.2 0)), (1, .int x1), (2, .int x2)] → W p l e (zrm 11 0 0) s m args below meth c H locs 0 0 Q (F0 m 2 ls []) := by
  have hx := E.1.1
  have hb := E.1.2.1
  intro n
  induction n with
  | zero => intro M x2 H locs ls h hZ hl; cases h
  | succ n ih =>
    intro M x2 H locs ls h hZ hl
    rw [b_X11_laysLeast_2] at h
    refine lv_iload_n hx hb dX11_laysLeast_2 rfl (lv_at hl 2 rfl) ?_
    refine lv_aload_n hx hb dX11_laysLeast_3 rfl (lv_at hl 0 rfl) ?_
    obtain ⟨u_30, qu_30, h⟩ := zbn_some h
    refine zciR (zrunV E hZ (by decide) (re_0 _) rfl rfl v_X11_monks kw_1562 (c_X11_monks l g M   qu_30 _) rfl hl.1 rfl (Nat.le_of_ble_eq_true rfl) ⟨by decide, by decide⟩ ⟨by decide, by decide⟩ dX11_laysLeast_4) hZ (fun H locs hZ => ?_)
    refine zic_ge (tgt := 65) h E dX11_laysLeast_7 (by decide) (fun c_31 h => ?_) (fun c_31 h => ?_)
    · exact lb_X11_laysLeast_65 g  E hret M x1  H locs ls h hZ (lv_sub hl [0, 1] rfl)
    · refine lv_iconst (v := 0) hx hb dX11_laysLeast_10 (by decide) ?_
      refine lv_istore_n (lv' := [(3, .int 0), (0, .ref (g.2.2 0)), (1, .int x1), (2, .int x2)]) hx hb dX11_laysLeast_11 rfl hl (by decide) rfl (fun ls hl => ?_)
      exact lb_X11_laysLeast_12 g  E hret x1 x2 (fun M x2 => b_X11_laysLeast_2  x1 n M x2) ih 6000 M 0 H locs ls h hZ (lv_sub hl [1, 2, 3, 0] rfl)
def f_X11_laysLeast (M : zM) (x1 : Int32) : Option (zM) :=
  b_X11_laysLeast_2  x1 6000 M 0
set_option maxRecDepth 100000 in
set_option maxHeartbeats 4000000 in
theorem w_X11_laysLeast (g : zG)  {r : zM} (E : zX g p m c cX11_laysLeast 6 s args (zWs yX11_laysLeast cX11_laysLeast 6 none) RX11) (hret : zRv g rE 15 p l e (zrm 11 0 0) s m args below meth c 0 0 Q cX11_laysLeast (fun M1 => M1 = r)) (M : zM) (x1 : Int32) (H : Heap) (locs : List Loc) (ls : Array Slot) (h : f_X11_laysLeast M x1 = some r) (hZ : zS g rE 15 s H locs M) (hl : lv_has ls 6 [(0, .ref (g.2.2 0)), (1, .int x1)]) : W p l e (zrm 11 0 0) s m args below meth c H locs 0 0 Q (F0 m 0 ls []) := by
  have hx := E.1.1
  have hb := E.1.2.1
  unfold f_X11_laysLeast at h
  refine lv_iconst (v := 0) hx hb dX11_laysLeast_0 (by decide) ?_
  refine lv_istore_n (lv' := [(2, .int 0), (0, .ref (g.2.2 0)), (1, .int x1)]) hx hb dX11_laysLeast_1 rfl hl (by decide) rfl (fun ls hl => ?_)
  exact lb_X11_laysLeast_2 g  E hret x1  6000 M 0 H locs ls h hZ (lv_sub hl [1, 2, 0] rfl)
theorem c_X11_laysLeast (l : Launch) (g : zG) (M : zM)  (x1 : Int32) {r : zM} (h : f_X11_laysLeast M x1 = some r) : zMv l g rE 15 yX11_laysLeast (zWs yX11_laysLeast cX11_laysLeast 6 none) 11 [.ref (g.2.2 0), .int x1] M (fun M1 => M1 = r) :=
  zMv_of (by decide +kernel) (Nat.le_of_ble_eq_true rfl) (fun p e s m args below meth c Q ls E hret hZ hl => w_X11_laysLeast g  E hret M x1 _ _ ls h hZ hl)
theorem v_X11_laysLeast : zYV yX11_laysLeast cX11_laysLeast 6 none 1 := ⟨kw_1957, kw_15, kw_1956, kp_107, by decide +kernel⟩

def b_X11_send_224 (K193 : Int32 → Option (Int32 × zM)) (M : zM) (x1 : Int32) (x4 : Int32) (x5 : Int32) (x6 : Int32) : Option (Int32 × zM) :=
  znm (x5 + 1) (fun x5_1 => K193 x5_1)
set_option maxRecDepth 100000 in
set_option maxHeartbeats 4000000 in
theorem lb_X11_send_224 (g : zG)  {r : Int32 × zM} (E : zX g p m c cX11_send 7 s args (zWs yX11_send cX11_send 7 (some .int)) RX11) (hret : zRi g rE 15 p l e (zrm 12 0 0) s m args below meth c 0 0 Q cX11_send .int (fun v M1 => r = (v, M1))) (M : zM) (x1 : Int32) (x4 : Int32) (x5 : Int32) (x6 : Int32) (K193 : Int32 → Option (Int32 × zM)) (hK193 : ∀ (x5 : Int32) (H : Heap) (locs : List Loc) (ls : Array Slot), K193 x5 = some r → zS g rE 15 s H locs M → lv_has ls 7 [(0, .ref (g.2.2 0)), (1, .int x1), (4, .int x4), (5, .int x5), (6, .int x6)] → W p l e (zrm 12 0 0) s m args below meth c H locs 0 0 Q (F0 m 193 ls [])) (H : Heap) (locs : List Loc) (ls : Array Slot) (h : b_X11_send_224 K193 M x1 x4 x5 x6 = some r) (hZ : zS g rE 15 s H locs M) (hl : lv_has ls 7 [(0, .ref (g.2.2 0)), (1, .int x1), (4, .int x4), (5, .int x5), (6, .int x6)]) : W p l e (zrm 12 0 0) s m args below meth c H locs 0 0 Q (F0 m 224 ls []) := by
  have hx := E.1.1
  have hb := E.1.2.1
  unfold b_X11_send_224 at h
  obtain ⟨x5_1, ex5_1, h⟩ := znm_ex h
  refine lv_iinc (v := x5_1) (lv' := [(5, .int x5_1), (0, .ref (g.2.2 0)), (1, .int x1), (4, .int x4), (6, .int x6)]) hx hb dX11_send_224 hl (k := 3) rfl (by rw [ex5_1]; rfl) (by decide) rfl (fun ls hl => ?_)
  refine lv_goto (tgt := 193) hx hb dX11_send_227 (by decide) ?_
  exact hK193 x5_1 H locs ls h hZ (lv_sub hl [1, 2, 3, 0, 4] rfl)
def b_X11_send_239 (K172 : Int32 → Int32 → Int32 → Option (Int32 × zM)) (M : zM) (x1 : Int32) (x4 : Int32) (x5 : Int32) (x6 : Int32) : Option (Int32 × zM) :=
  znm (x6 + 1) (fun x6_2 => K172 x4 x5 x6_2)
set_option maxRecDepth 100000 in
set_option maxHeartbeats 4000000 in
theorem lb_X11_send_239 (g : zG)  {r : Int32 × zM} (E : zX g p m c cX11_send 7 s args (zWs yX11_send cX11_send 7 (some .int)) RX11) (hret : zRi g rE 15 p l e (zrm 12 0 0) s m args below meth c 0 0 Q cX11_send .int (fun v M1 => r = (v, M1))) (M : zM) (x1 : Int32) (x4 : Int32) (x5 : Int32) (x6 : Int32) (K172 : Int32 → Int32 → Int32 → Option (Int32 × zM)) (hK172 : ∀ (x4 : Int32) (x5 : Int32) (x6 : Int32) (H : Heap) (locs : List Loc) (ls : Array Slot), K172 x4 x5 x6 = some r → zS g rE 15 s H locs M → lv_has ls 7 [(0, .ref (g.2.2 0)), (1, .int x1), (4, .int x4), (5, .int x5), (6, .int x6)] → W p l e (zrm 12 0 0) s m args below meth c H locs 0 0 Q (F0 m 172 ls [])) (H : Heap) (locs : List Loc) (ls : Array Slot) (h : b_X11_send_239 K172 M x1 x4 x5 x6 = some r) (hZ : zS g rE 15 s H locs M) (hl : lv_has ls 7 [(0, .ref (g.2.2 0)), (1, .int x1), (4, .int x4), (5, .int x5), (6, .int x6)]) : W p l e (zrm 12 0 0) s m args below meth c H locs 0 0 Q (F0 m 239 ls []) := by
  have hx := E.1.1
  have hb := E.1.2.1
  unfold b_X11_send_239 at h
  obtain ⟨x6_2, ex6_2, h⟩ := znm_ex h
  refine lv_iinc (v := x6_2) (lv' := [(6, .int x6_2), (0, .ref (g.2.2 0)), (1, .int x1), (4, .int x4), (5, .int x5)]) hx hb dX11_send_239 hl (k := 4) rfl (by rw [ex6_2]; rfl) (by decide) rfl (fun ls hl => ?_)
  refine lv_goto (tgt := 172) hx hb dX11_send_242 (by decide) ?_
  exact hK172 x4 x5 x6_2 H locs ls h hZ (lv_sub hl [1, 2, 3, 4, 0] rfl)
def b_X11_send_230 (K172 : Int32 → Int32 → Int32 → Option (Int32 × zM)) (M : zM) (x1 : Int32) (x4 : Int32) (x5 : Int32) (x6 : Int32) : Option (Int32 × zM) :=
  znm (x4 ||| ((1 : Int32) <<< (x5 &&& 31))) (fun x4_3 => b_X11_send_239 K172 M x1 x4_3 x5 x6)
set_option maxRecDepth 100000 in
set_option maxHeartbeats 4000000 in
theorem lb_X11_send_230 (g : zG)  {r : Int32 × zM} (E : zX g p m c cX11_send 7 s args (zWs yX11_send cX11_send 7 (some .int)) RX11) (hret : zRi g rE 15 p l e (zrm 12 0 0) s m args below meth c 0 0 Q cX11_send .int (fun v M1 => r = (v, M1))) (M : zM) (x1 : Int32) (x4 : Int32) (x5 : Int32) (x6 : Int32) (K172 : Int32 → Int32 → Int32 → Option (Int32 × zM)) (hK172 : ∀ (x4 : Int32) (x5 : Int32) (x6 : Int32) (H : Heap) (locs : List Loc) (ls : Array Slot), K172 x4 x5 x6 = some r → zS g rE 15 s H locs M → lv_has ls 7 [(0, .ref (g.2.2 0)), (1, .int x1), (4, .int x4), (5, .int x5), (6, .int x6)] → W p l e (zrm 12 0 0) s m args below meth c H locs 0 0 Q (F0 m 172 ls [])) (H : Heap) (locs : List Loc) (ls : Array Slot) (h : b_X11_send_230 K172 M x1 x4 x5 x6 = some r) (hZ : zS g rE 15 s H locs M) (hl : lv_has ls 7 [(0, .ref (g.2.2 0)), (1, .int x1), (4, .int x4), (5, .int x5), (6, .int x6)]) : W p l e (zrm 12 0 0) s m args below meth c H locs 0 0 Q (F0 m 230 ls []) := by
  have hx := E.1.1
  have hb := E.1.2.1
  unfold b_X11_send_230 at h
  refine lv_iload hx hb dX11_send_230 (lv_at hl 2 rfl) ?_
  refine lv_iconst (v := 1) hx hb dX11_send_232 (by decide) ?_
  refine lv_iload hx hb dX11_send_233 (lv_at hl 3 rfl) ?_
  refine lv_ishl hx hb dX11_send_235 ?_
  refine lv_ior hx hb dX11_send_236 ?_
  refine zni h (fun x4_3 ex4_3 h => ?_)
  refine lv_istore (lv' := [(4, .int x4_3), (0, .ref (g.2.2 0)), (1, .int x1), (5, .int x5), (6, .int x6)]) hx hb dX11_send_237 hl (by decide) rfl (fun ls hl => ?_)
  exact lb_X11_send_239 g  E hret M x1 x4_3 x5 x6 K172 hK172 H locs ls h hZ (lv_sub hl [1, 2, 0, 3, 4] rfl)
def b_X11_send_193 (K172 : Int32 → Int32 → Int32 → Option (Int32 × zM)) (M : zM) (x1 : Int32) (x4 : Int32) (x6 : Int32) : Nat → Int32 → Option (Int32 × zM)
  | 0, _ => none
  | n + 1, x5 =>
    zbn (f_X11_has M x4 x5) (fun u_4 => if u_4 = 0 then (zbn (f_X11_leastBy M x6 x4 x5) (fun u_5 => zbn (f_X11_leastOf M x6 x4) (fun u_6 => if u_5 = u_6 then (b_X11_send_230 K172 M x1 x4 x5 x6) else (b_X11_send_224 (fun x5 => b_X11_send_193 K172 M x1 x4 x6 n x5) M x1 x4 x5 x6)))) else (b_X11_send_224 (fun x5 => b_X11_send_193 K172 M x1 x4 x6 n x5) M x1 x4 x5 x6))
set_option maxRecDepth 100000 in
set_option maxHeartbeats 4000000 in
theorem lb_X11_send_193 (g : zG)  {r : Int32 × zM} (E : zX g p m c cX11_send 7 s args (zWs yX11_send cX11_send 7 (some .int)) RX11) (hret : zRi g rE 15 p l e (zrm 12 0 0) s m args below meth c 0 0 Q cX11_send .int (fun v M1 => r = (v, M1))) (M : zM) (x1 : Int32) (x4 : Int32) (x6 : Int32) (K172 : Int32 → Int32 → Int32 → Option (Int32 × zM)) (hK172 : ∀ (x4 : Int32) (x5 : Int32) (x6 : Int32) (H : Heap) (locs : List Loc) (ls : Array Slot), K172 x4 x5 x6 = some r → zS g rE 15 s H locs M → lv_has ls 7 [(0, .ref (g.2.2 0)), (1, .int x1), (4, .int x4), (5, .int x5), (6, .int x6)] → W p l e (zrm 12 0 0) s m args below meth c H locs 0 0 Q (F0 m 172 ls [])) : ∀ (n : Nat) (x5 : Int32) (H : Heap) (locs : List Loc) (ls : Array Slot), b_X11_send_193 K172 M x1 x4 x6 n x5 = some r → zS g rE 15 s H locs M → lv_has ls 7 [(0, .ref (g.2.2 0)), (1, .int x1), (4, .int x4), (5, .int x5), (6, .int x6)] → W p l e (zrm 12 0 0) s m args below meth c H locs 0 0 Q (F0 m 193 ls []) := by
  have hx := E.1.1
  have hb := E.1.2.1
  intro n
  induction n with
  | zero => intro x5 H locs ls h hZ hl; cases h
  | succ n ih =>
    intro x5 H locs ls h hZ hl
    rw [b_X11_send_193] at h
    refine lv_iload hx hb dX11_send_193 (lv_at hl 2 rfl) ?_
    refine lv_iload hx hb dX11_send_195 (lv_at hl 3 rfl) ?_
    obtain ⟨u_4, qu_4, h⟩ := zbn_some h
    refine zciR (zrunS E hZ v_X11_has kw_1922 (c_X11_has l g M  x4 x5 qu_4 _) rfl hl.1 rfl (Nat.le_of_ble_eq_true rfl) ⟨by decide, by decide⟩ ⟨by decide, by decide⟩ dX11_send_197) hZ (fun H locs hZ => ?_)
    refine zif_ne (tgt := 224) h E dX11_send_200 (by decide) (fun c_8 h => ?_) (fun c_8 h => ?_)
    · exact lb_X11_send_224 g  E hret M x1 x4 x5 x6 (fun x5 => b_X11_send_193 K172 M x1 x4 x6 n x5) ih H locs ls h hZ (lv_sub hl [0, 1, 2, 3, 4] rfl)
    · refine lv_aload_n hx hb dX11_send_203 rfl (lv_at hl 0 rfl) ?_
      refine lv_iload hx hb dX11_send_204 (lv_at hl 4 rfl) ?_
      refine lv_iload hx hb dX11_send_206 (lv_at hl 2 rfl) ?_
      refine lv_iload hx hb dX11_send_208 (lv_at hl 3 rfl) ?_
      obtain ⟨u_5, qu_5, h⟩ := zbn_some h
      refine zciR (zrunV E hZ (by decide) (re_0 _) rfl rfl v_X11_leastBy kw_1962 (c_X11_leastBy l g M  x6 x4 x5 qu_5 _) rfl hl.1 rfl (Nat.le_of_ble_eq_true rfl) ⟨by decide, by decide⟩ ⟨by decide, by decide⟩ dX11_send_210) hZ (fun H locs hZ => ?_)
      refine lv_aload_n hx hb dX11_send_213 rfl (lv_at hl 0 rfl) ?_
      refine lv_iload hx hb dX11_send_214 (lv_at hl 4 rfl) ?_
      refine lv_iload hx hb dX11_send_216 (lv_at hl 2 rfl) ?_
      obtain ⟨u_6, qu_6, h⟩ := zbn_some h
      refine zciR (zrunV E hZ (by decide) (re_0 _) rfl rfl v_X11_leastOf kw_1958 (c_X11_leastOf l g M  x6 x4 qu_6 _) rfl hl.1 rfl (Nat.le_of_ble_eq_true rfl) ⟨by decide, by decide⟩ ⟨by decide, by decide⟩ dX11_send_218) hZ (fun H locs hZ => ?_)
      refine zic_eq (tgt := 230) h E dX11_send_221 (by decide) (fun c_7 h => ?_) (fun c_7 h => ?_)
      · exact lb_X11_send_230 g  E hret M x1 x4 x5 x6 K172 hK172 H locs ls h hZ (lv_sub hl [0, 1, 2, 3, 4] rfl)
      · exact lb_X11_send_224 g  E hret M x1 x4 x5 x6 (fun x5 => b_X11_send_193 K172 M x1 x4 x6 n x5) ih H locs ls h hZ (lv_sub hl [0, 1, 2, 3, 4] rfl)
def b_X11_send_172  (M : zM) (x1 : Int32) : Nat → Int32 → Int32 → Int32 → Option (Int32 × zM)
  | 0, _, _, _ => none
  | n + 1, x4, x5, x6 =>
    if x1 < x6 then (some (x5, M)) else (zbn (f_X11_isDrowned M x6) (fun u_9 => if u_9 = 0 then (b_X11_send_193 (fun x4 x5 x6 => b_X11_send_172  M x1 n x4 x5 x6) M x1 x4 x6 6000 0) else (b_X11_send_239 (fun x4 x5 x6 => b_X11_send_172  M x1 n x4 x5 x6) M x1 x4 x5 x6)))
set_option maxRecDepth 100000 in
set_option maxHeartbeats 4000000 in
theorem lb_X11_send_172 (g : zG)  {r : Int32 × zM} (E : zX g p m c cX11_send 7 s args (zWs yX11_send cX11_send 7 (some .int)) RX11) (hret : zRi g rE 15 p l e (zrm 12 0 0) s m args below meth c 0 0 Q cX11_send .int (fun v M1 => r = (v, M1))) (M : zM) (x1 : Int32)  : ∀ (n : Nat) (x4 : Int32) (x5 : Int32) (x6 : Int32) (H : Heap) (locs : List Loc) (ls : Array Slot), b_X11_send_172  M x1 n x4 x5 x6 = some r → zS g rE 15 s H locs M → lv_has ls 7 [(0, .ref (g.2.2 0)), (1, .int x1), (4, .int x4), (5, .int x5), (6, .int x6)] → W p l e (zrm 12 0 0) s m args below meth c H locs 0 0 Q (F0 m 172 ls []) := by
  have hx := E.1.1
  have hb := E.1.2.1
  intro n
  induction n with
  | zero => intro x4 x5 x6 H locs ls h hZ hl; cases h
  | succ n ih =>
    intro x4 x5 x6 H locs ls h hZ hl
    rw [b_X11_send_172] at h
    refine lv_iload hx hb dX11_send_172 (lv_at hl 4 rfl) ?_
    refine lv_iload_n hx hb dX11_send_174 rfl (lv_at hl 1 rfl) ?_
    refine zic_gt (tgt := 245) h E dX11_send_175 (by decide) (fun c_11 h => ?_) (fun c_11 h => ?_)
    · refine lv_iload hx hb dX11_send_245 (lv_at hl 3 rfl) ?_
      exact hret _ _ _ _ _ _ (Option.some.inj h).symm rfl hZ dX11_send_247
    · refine lv_aload_n hx hb dX11_send_178 rfl (lv_at hl 0 rfl) ?_
      refine lv_iload hx hb dX11_send_179 (lv_at hl 4 rfl) ?_
      obtain ⟨u_9, qu_9, h⟩ := zbn_some h
      refine zciR (zrunV E hZ (by decide) (re_0 _) rfl rfl v_X11_isDrowned kw_1797 (c_X11_isDrowned l g M  x6 qu_9 _) rfl hl.1 rfl (Nat.le_of_ble_eq_true rfl) ⟨by decide, by decide⟩ ⟨by decide, by decide⟩ dX11_send_181) hZ (fun H locs hZ => ?_)
      refine zif_eq (tgt := 190) h E dX11_send_184 (by decide) (fun c_10 h => ?_) (fun c_10 h => ?_)
      · refine lv_iconst (v := 0) hx hb dX11_send_190 (by decide) ?_
        refine lv_istore (lv' := [(5, .int 0), (0, .ref (g.2.2 0)), (1, .int x1), (4, .int x4), (6, .int x6)]) hx hb dX11_send_191 hl (by decide) rfl (fun ls hl => ?_)
        exact lb_X11_send_193 g  E hret M x1 x4 x6 (fun x4 x5 x6 => b_X11_send_172  M x1 n x4 x5 x6) ih 6000 0 H locs ls h hZ (lv_sub hl [1, 2, 3, 0, 4] rfl)
      · refine lv_goto (tgt := 239) hx hb dX11_send_187 (by decide) ?_
        exact lb_X11_send_239 g  E hret M x1 x4 x5 x6 (fun x4 x5 x6 => b_X11_send_172  M x1 n x4 x5 x6) ih H locs ls h hZ (lv_sub hl [0, 1, 2, 3, 4] rfl)
def b_X11_send_151  (M : zM) (x1 : Int32) : Option (Int32 × zM) :=
  if x1 = ((-1)) then (zbn (f_X11_leastOf M 0 0) (fun u_12 => some (u_12, M))) else (b_X11_send_172  M x1 6000 0 0 0)
set_option maxRecDepth 100000 in
set_option maxHeartbeats 4000000 in
theorem lb_X11_send_151 (g : zG)  {r : Int32 × zM} (E : zX g p m c cX11_send 7 s args (zWs yX11_send cX11_send 7 (some .int)) RX11) (hret : zRi g rE 15 p l e (zrm 12 0 0) s m args below meth c 0 0 Q cX11_send .int (fun v M1 => r = (v, M1))) (M : zM) (x1 : Int32)  (H : Heap) (locs : List Loc) (ls : Array Slot) (h : b_X11_send_151  M x1 = some r) (hZ : zS g rE 15 s H locs M) (hl : lv_has ls 7 [(0, .ref (g.2.2 0)), (1, .int x1)]) : W p l e (zrm 12 0 0) s m args below meth c H locs 0 0 Q (F0 m 151 ls []) := by
  have hx := E.1.1
  have hb := E.1.2.1
  unfold b_X11_send_151 at h
  refine lv_iload_n hx hb dX11_send_151 rfl (lv_at hl 1 rfl) ?_
  refine lv_iconst (v := (-1)) hx hb dX11_send_152 (by decide) ?_
  refine zic_ne (tgt := 163) h E dX11_send_153 (by decide) (fun c_13 h => ?_) (fun c_13 h => ?_)
  · refine lv_iconst (v := 0) hx hb dX11_send_163 (by decide) ?_
    refine lv_istore (lv' := [(4, .int 0), (0, .ref (g.2.2 0)), (1, .int x1)]) hx hb dX11_send_164 hl (by decide) rfl (fun ls hl => ?_)
    refine lv_iconst (v := 0) hx hb dX11_send_166 (by decide) ?_
    refine lv_istore (lv' := [(5, .int 0), (4, .int 0), (0, .ref (g.2.2 0)), (1, .int x1)]) hx hb dX11_send_167 hl (by decide) rfl (fun ls hl => ?_)
    refine lv_iconst (v := 0) hx hb dX11_send_169 (by decide) ?_
    refine lv_istore (lv' := [(6, .int 0), (5, .int 0), (4, .int 0), (0, .ref (g.2.2 0)), (1, .int x1)]) hx hb dX11_send_170 hl (by decide) rfl (fun ls hl => ?_)
    exact lb_X11_send_172 g  E hret M x1  6000 0 0 0 H locs ls h hZ (lv_sub hl [3, 4, 2, 1, 0] rfl)
  · refine lv_aload_n hx hb dX11_send_156 rfl (lv_at hl 0 rfl) ?_
    refine lv_iconst (v := 0) hx hb dX11_send_157 (by decide) ?_
    refine lv_iconst (v := 0) hx hb dX11_send_158 (by decide) ?_
    obtain ⟨u_12, qu_12, h⟩ := zbn_some h
    refine zciR (zrunV E hZ (by decide) (re_0 _) rfl rfl v_X11_leastOf kw_1958 (c_X11_leastOf l g M  0 0 qu_12 _) rfl hl.1 rfl (Nat.le_of_ble_eq_true rfl) ⟨by decide, by decide⟩ ⟨by decide, by decide⟩ dX11_send_159) hZ (fun H locs hZ => ?_)
    exact hret _ _ _ _ _ _ (Option.some.inj h).symm rfl hZ dX11_send_162
def b_X11_send_110  (M : zM) (x1 : Int32) (x2 : Int32) (t0 : Int32) : Option (Int32 × zM) :=
  zbn (f_X11_throwsIf M t0 2) (fun u_14 => if u_14.1 = 0 then (zbn (f_X11_laysLeast u_14.2 x2) (fun u_15 => zbn (f_X11_leastOf u_15 0 0) (fun u_16 => if 1000000 ≤ u_16 then (some ((-1), u_15)) else (if x1 = ((-1)) then (b_X11_send_151  u_15 x1) else (zbn (f_X11_isDrowned u_15 x1) (fun u_17 => if u_17 = 0 then (b_X11_send_151  u_15 x1) else (some ((-1), u_15)))))))) else (some (0, u_14.2)))
set_option maxRecDepth 100000 in
set_option maxHeartbeats 4000000 in
theorem lb_X11_send_110 (g : zG)  {r : Int32 × zM} (E : zX g p m c cX11_send 7 s args (zWs yX11_send cX11_send 7 (some .int)) RX11) (hret : zRi g rE 15 p l e (zrm 12 0 0) s m args below meth c 0 0 Q cX11_send .int (fun v M1 => r = (v, M1))) (M : zM) (x1 : Int32) (x2 : Int32) (t0 : Int32)  (H : Heap) (locs : List Loc) (ls : Array Slot) (h : b_X11_send_110  M x1 x2 t0 = some r) (hZ : zS g rE 15 s H locs M) (hl : lv_has ls 7 [(0, .ref (g.2.2 0)), (1, .int x1), (2, .int x2)]) : W p l e (zrm 12 0 0) s m args below meth c H locs 0 0 Q (F0 m 110 ls [.int t0, .ref (g.2.2 0)]) := by
  have hx := E.1.1
  have hb := E.1.2.1
  unfold b_X11_send_110 at h
  refine lv_iconst (v := 2) hx hb dX11_send_110 (by decide) ?_
  obtain ⟨u_14, qu_14, h⟩ := zbn_some h
  refine zciS (zrunV E hZ (by decide) (re_0 _) rfl rfl v_X11_throwsIf kw_1651 (c_X11_throwsIf l g M  t0 2 qu_14 _) rfl hl.1 rfl (Nat.le_of_ble_eq_true rfl) ⟨by decide, by decide⟩ ⟨by decide, by decide⟩ dX11_send_111) hZ (fun H locs hZ => ?_)
  refine zif_eq (tgt := 119) h E dX11_send_114 (by decide) (fun c_21 h => ?_) (fun c_21 h => ?_)
  · refine lv_aload_n hx hb dX11_send_119 rfl (lv_at hl 0 rfl) ?_
    refine lv_iload_n hx hb dX11_send_120 rfl (lv_at hl 2 rfl) ?_
    obtain ⟨u_15, qu_15, h⟩ := zbn_some h
    refine zcvS (zrunV E hZ (by decide) (re_0 _) rfl rfl v_X11_laysLeast kw_1954 (c_X11_laysLeast l g u_14.2  x2 qu_15 _) rfl hl.1 rfl (Nat.le_of_ble_eq_true rfl) ⟨by decide, by decide⟩ ⟨by decide, by decide⟩ dX11_send_121) hZ (fun H locs hZ => ?_)
    refine lv_aload_n hx hb dX11_send_124 rfl (lv_at hl 0 rfl) ?_
    refine lv_iconst (v := 0) hx hb dX11_send_125 (by decide) ?_
    refine lv_iconst (v := 0) hx hb dX11_send_126 (by decide) ?_
    obtain ⟨u_16, qu_16, h⟩ := zbn_some h
    refine zciR (zrunV E hZ (by decide) (re_0 _) rfl rfl v_X11_leastOf kw_1958 (c_X11_leastOf l g u_15  0 0 qu_16 _) rfl hl.1 rfl (Nat.le_of_ble_eq_true rfl) ⟨by decide, by decide⟩ ⟨by decide, by decide⟩ dX11_send_127) hZ (fun H locs hZ => ?_)
    refine lv_ldcw (v := 1000000) hx hb E.1.2.2.2.1 (E.w kw_1933) dX11_send_130 ?_
    refine zic_ge (tgt := 149) h E dX11_send_133 (by decide) (fun c_20 h => ?_) (fun c_20 h => ?_)
    · refine lv_iconst (v := (-1)) hx hb dX11_send_149 (by decide) ?_
      exact hret _ _ _ _ _ _ (Option.some.inj h).symm rfl hZ dX11_send_150
    · refine lv_iload_n hx hb dX11_send_136 rfl (lv_at hl 1 rfl) ?_
      refine lv_iconst (v := (-1)) hx hb dX11_send_137 (by decide) ?_
      refine zic_eq (tgt := 151) h E dX11_send_138 (by decide) (fun c_19 h => ?_) (fun c_19 h => ?_)
      · exact lb_X11_send_151 g  E hret u_15 x1  H locs ls h hZ (lv_sub hl [0, 1] rfl)
      · refine lv_aload_n hx hb dX11_send_141 rfl (lv_at hl 0 rfl) ?_
        refine lv_iload_n hx hb dX11_send_142 rfl (lv_at hl 1 rfl) ?_
        obtain ⟨u_17, qu_17, h⟩ := zbn_some h
        refine zciR (zrunV E hZ (by decide) (re_0 _) rfl rfl v_X11_isDrowned kw_1797 (c_X11_isDrowned l g u_15  x1 qu_17 _) rfl hl.1 rfl (Nat.le_of_ble_eq_true rfl) ⟨by decide, by decide⟩ ⟨by decide, by decide⟩ dX11_send_143) hZ (fun H locs hZ => ?_)
        refine zif_eq (tgt := 151) h E dX11_send_146 (by decide) (fun c_18 h => ?_) (fun c_18 h => ?_)
        · exact lb_X11_send_151 g  E hret u_15 x1  H locs ls h hZ (lv_sub hl [0, 1] rfl)
        · refine lv_iconst (v := (-1)) hx hb dX11_send_149 (by decide) ?_
          exact hret _ _ _ _ _ _ (Option.some.inj h).symm rfl hZ dX11_send_150
  · refine lv_iconst (v := 0) hx hb dX11_send_117 (by decide) ?_
    exact hret _ _ _ _ _ _ (Option.some.inj h).symm rfl hZ dX11_send_118
def b_X11_send_100  (M : zM) (x1 : Int32) (x2 : Int32) (x3 : Int32) : Option (Int32 × zM) :=
  if x3 = 0 then (b_X11_send_110  M x1 x2 1) else (b_X11_send_110  M x1 x2 0)
set_option maxRecDepth 100000 in
set_option maxHeartbeats 4000000 in
theorem lb_X11_send_100 (g : zG)  {r : Int32 × zM} (E : zX g p m c cX11_send 7 s args (zWs yX11_send cX11_send 7 (some .int)) RX11) (hret : zRi g rE 15 p l e (zrm 12 0 0) s m args below meth c 0 0 Q cX11_send .int (fun v M1 => r = (v, M1))) (M : zM) (x1 : Int32) (x2 : Int32) (x3 : Int32)  (H : Heap) (locs : List Loc) (ls : Array Slot) (h : b_X11_send_100  M x1 x2 x3 = some r) (hZ : zS g rE 15 s H locs M) (hl : lv_has ls 7 [(0, .ref (g.2.2 0)), (1, .int x1), (2, .int x2), (3, .int x3)]) : W p l e (zrm 12 0 0) s m args below meth c H locs 0 0 Q (F0 m 100 ls []) := by
  have hx := E.1.1
  have hb := E.1.2.1
  unfold b_X11_send_100 at h
  refine lv_aload_n hx hb dX11_send_100 rfl (lv_at hl 0 rfl) ?_
  refine lv_iload_n hx hb dX11_send_101 rfl (lv_at hl 3 rfl) ?_
  refine zif_ne (tgt := 109) h E dX11_send_102 (by decide) (fun c_22 h => ?_) (fun c_22 h => ?_)
  · refine lv_iconst (v := 0) hx hb dX11_send_109 (by decide) ?_
    exact lb_X11_send_110 g  E hret M x1 x2 0  H locs ls h hZ (lv_sub hl [0, 1, 2] rfl)
  · refine lv_iconst (v := 1) hx hb dX11_send_105 (by decide) ?_
    refine lv_goto (tgt := 110) hx hb dX11_send_106 (by decide) ?_
    exact lb_X11_send_110 g  E hret M x1 x2 1  H locs ls h hZ (lv_sub hl [0, 1, 2] rfl)
def b_X11_send_93 (K62 : Int32 → Int32 → Option (Int32 × zM)) (M : zM) (x1 : Int32) (x2 : Int32) (x4 : Int32) (t0 : Int32) : Option (Int32 × zM) :=
  znm (x4 + 1) (fun x4_23 => K62 t0 x4_23)
set_option maxRecDepth 100000 in
set_option maxHeartbeats 4000000 in
theorem lb_X11_send_93 (g : zG)  {r : Int32 × zM} (E : zX g p m c cX11_send 7 s args (zWs yX11_send cX11_send 7 (some .int)) RX11) (hret : zRi g rE 15 p l e (zrm 12 0 0) s m args below meth c 0 0 Q cX11_send .int (fun v M1 => r = (v, M1))) (M : zM) (x1 : Int32) (x2 : Int32) (x4 : Int32) (t0 : Int32) (K62 : Int32 → Int32 → Option (Int32 × zM)) (hK62 : ∀ (x3 : Int32) (x4 : Int32) (H : Heap) (locs : List Loc) (ls : Array Slot), K62 x3 x4 = some r → zS g rE 15 s H locs M → lv_has ls 7 [(0, .ref (g.2.2 0)), (1, .int x1), (2, .int x2), (3, .int x3), (4, .int x4)] → W p l e (zrm 12 0 0) s m args below meth c H locs 0 0 Q (F0 m 62 ls [])) (H : Heap) (locs : List Loc) (ls : Array Slot) (h : b_X11_send_93 K62 M x1 x2 x4 t0 = some r) (hZ : zS g rE 15 s H locs M) (hl : lv_has ls 7 [(0, .ref (g.2.2 0)), (1, .int x1), (2, .int x2), (4, .int x4)]) : W p l e (zrm 12 0 0) s m args below meth c H locs 0 0 Q (F0 m 93 ls [.int t0]) := by
  have hx := E.1.1
  have hb := E.1.2.1
  unfold b_X11_send_93 at h
  refine lv_istore_n (lv' := [(3, .int t0), (0, .ref (g.2.2 0)), (1, .int x1), (2, .int x2), (4, .int x4)]) hx hb dX11_send_93 rfl hl (by decide) rfl (fun ls hl => ?_)
  obtain ⟨x4_23, ex4_23, h⟩ := znm_ex h
  refine lv_iinc (v := x4_23) (lv' := [(4, .int x4_23), (3, .int t0), (0, .ref (g.2.2 0)), (1, .int x1), (2, .int x2)]) hx hb dX11_send_94 hl (k := 4) rfl (by rw [ex4_23]; rfl) (by decide) rfl (fun ls hl => ?_)
  refine lv_goto (tgt := 62) hx hb dX11_send_97 (by decide) ?_
  exact hK62 t0 x4_23 H locs ls h hZ (lv_sub hl [2, 3, 4, 1, 0] rfl)
def b_X11_send_62  (M : zM) (x1 : Int32) (x2 : Int32) : Nat → Int32 → Int32 → Option (Int32 × zM)
  | 0, _, _ => none
  | n + 1, x3, x4 =>
    if (M 0 11) ≤ x4 then (b_X11_send_100  M x1 x2 x3) else (if x3 = 0 then (b_X11_send_100  M x1 x2 x3) else (zck (zin x4 400) (zbn (f_X11_noPlace M (M 6 (x4 : Int32).toNatClampNeg)) (fun u_24 => if u_24 = 0 then (b_X11_send_93 (fun x3 x4 => b_X11_send_62  M x1 x2 n x3 x4) M x1 x2 x4 1) else (b_X11_send_93 (fun x3 x4 => b_X11_send_62  M x1 x2 n x3 x4) M x1 x2 x4 0)))))
set_option maxRecDepth 100000 in
set_option maxHeartbeats 4000000 in
theorem lb_X11_send_62 (g : zG)  {r : Int32 × zM} (E : zX g p m c cX11_send 7 s args (zWs yX11_send cX11_send 7 (some .int)) RX11) (hret : zRi g rE 15 p l e (zrm 12 0 0) s m args below meth c 0 0 Q cX11_send .int (fun v M1 => r = (v, M1))) (M : zM) (x1 : Int32) (x2 : Int32)  : ∀ (n : Nat) (x3 : Int32) (x4 : Int32) (H : Heap) (locs : List Loc) (ls : Array Slot), b_X11_send_62  M x1 x2 n x3 x4 = some r → zS g rE 15 s H locs M → lv_has ls 7 [(0, .ref (g.2.2 0)), (1, .int x1), (2, .int x2), (3, .int x3), (4, .int x4)] → W p l e (zrm 12 0 0) s m args below meth c H locs 0 0 Q (F0 m 62 ls []) := by
  have hx := E.1.1
  have hb := E.1.2.1
  intro n
  induction n with
  | zero => intro x3 x4 H locs ls h hZ hl; cases h
  | succ n ih =>
    intro x3 x4 H locs ls h hZ hl
    rw [b_X11_send_62] at h
    refine lv_iload hx hb dX11_send_62 (lv_at hl 4 rfl) ?_
    refine lv_aload_n hx hb dX11_send_64 rfl (lv_at hl 0 rfl) ?_
    refine zg (v := .int (M 0 11)) E hZ (by decide) (re_0 _) kc_X11 11 (by decide) kw_1379 rfl rfl dX11_send_65 ?_
    refine zic_ge (tgt := 100) h E dX11_send_68 (by decide) (fun c_27 h => ?_) (fun c_27 h => ?_)
    · exact lb_X11_send_100 g  E hret M x1 x2 x3  H locs ls h hZ (lv_sub hl [0, 1, 2, 3] rfl)
    · refine lv_iload_n hx hb dX11_send_71 rfl (lv_at hl 3 rfl) ?_
      refine zif_eq (tgt := 100) h E dX11_send_72 (by decide) (fun c_26 h => ?_) (fun c_26 h => ?_)
      · exact lb_X11_send_100 g  E hret M x1 x2 x3  H locs ls h hZ (lv_sub hl [0, 1, 2, 3] rfl)
      · refine lv_aload_n hx hb dX11_send_75 rfl (lv_at hl 0 rfl) ?_
        refine zg (v := .ref (g.2.2 6)) E hZ (by decide) (re_0 _) kc_X11 8 (by decide) kw_1376 rfl rfl dX11_send_76 ?_
        refine lv_iload hx hb dX11_send_79 (lv_at hl 4 rfl) ?_
        refine zba h E hZ (by decide) re_6 dX11_send_81 (fun h => ?_)
        obtain ⟨u_24, qu_24, h⟩ := zbn_some h
        refine zciR (zrunS E hZ v_X11_noPlace kw_1663 (c_X11_noPlace l g M  (M 6 (x4 : Int32).toNatClampNeg) qu_24 _) rfl hl.1 rfl (Nat.le_of_ble_eq_true rfl) ⟨by decide, by decide⟩ ⟨by decide, by decide⟩ dX11_send_82) hZ (fun H locs hZ => ?_)
        refine zif_ne (tgt := 92) h E dX11_send_85 (by decide) (fun c_25 h => ?_) (fun c_25 h => ?_)
        · refine lv_iconst (v := 0) hx hb dX11_send_92 (by decide) ?_
          exact lb_X11_send_93 g  E hret M x1 x2 x4 0 (fun x3 x4 => b_X11_send_62  M x1 x2 n x3 x4) ih H locs ls h hZ (lv_sub hl [0, 1, 2, 4] rfl)
        · refine lv_iconst (v := 1) hx hb dX11_send_88 (by decide) ?_
          refine lv_goto (tgt := 93) hx hb dX11_send_89 (by decide) ?_
          exact lb_X11_send_93 g  E hret M x1 x2 x4 1 (fun x3 x4 => b_X11_send_62  M x1 x2 n x3 x4) ih H locs ls h hZ (lv_sub hl [0, 1, 2, 4] rfl)
def b_X11_send_58  (M : zM) (x1 : Int32) (x2 : Int32) (t0 : Int32) : Option (Int32 × zM) :=
  b_X11_send_62  M x1 x2 6000 t0 0
set_option maxRecDepth 100000 in
set_option maxHeartbeats 4000000 in
theorem lb_X11_send_58 (g : zG)  {r : Int32 × zM} (E : zX g p m c cX11_send 7 s args (zWs yX11_send cX11_send 7 (some .int)) RX11) (hret : zRi g rE 15 p l e (zrm 12 0 0) s m args below meth c 0 0 Q cX11_send .int (fun v M1 => r = (v, M1))) (M : zM) (x1 : Int32) (x2 : Int32) (t0 : Int32)  (H : Heap) (locs : List Loc) (ls : Array Slot) (h : b_X11_send_58  M x1 x2 t0 = some r) (hZ : zS g rE 15 s H locs M) (hl : lv_has ls 7 [(0, .ref (g.2.2 0)), (1, .int x1), (2, .int x2)]) : W p l e (zrm 12 0 0) s m args below meth c H locs 0 0 Q (F0 m 58 ls [.int t0]) := by
  have hx := E.1.1
  have hb := E.1.2.1
  unfold b_X11_send_58 at h
  refine lv_istore_n (lv' := [(3, .int t0), (0, .ref (g.2.2 0)), (1, .int x1), (2, .int x2)]) hx hb dX11_send_58 rfl hl (by decide) rfl (fun ls hl => ?_)
  refine lv_iconst (v := 0) hx hb dX11_send_59 (by decide) ?_
  refine lv_istore (lv' := [(4, .int 0), (3, .int t0), (0, .ref (g.2.2 0)), (1, .int x1), (2, .int x2)]) hx hb dX11_send_60 hl (by decide) rfl (fun ls hl => ?_)
  exact lb_X11_send_62 g  E hret M x1 x2  6000 t0 0 H locs ls h hZ (lv_sub hl [2, 3, 4, 1, 0] rfl)
def b_X11_send_23  (M : zM) (x1 : Int32) (t0 : Int32) : Option (Int32 × zM) :=
  zbn (f_X11_throwsIf M t0 1) (fun u_28 => if u_28.1 = 0 then (zbn (f_X11_monks u_28.2 ) (fun u_29 => zbn (f_X11_drownedOnes u_28.2 ) (fun u_30 => zbn (f_J6_bitCount_0f7a4 u_30) (fun u_31 => znm (u_29 - u_31) (fun x2_32 => if (u_28.2 0 11) = x2_32 then (b_X11_send_58  u_28.2 x1 x2_32 1) else (b_X11_send_58  u_28.2 x1 x2_32 0)))))) else (some (0, u_28.2)))
set_option maxRecDepth 100000 in
set_option maxHeartbeats 4000000 in
theorem lb_X11_send_23 (g : zG)  {r : Int32 × zM} (E : zX g p m c cX11_send 7 s args (zWs yX11_send cX11_send 7 (some .int)) RX11) (hret : zRi g rE 15 p l e (zrm 12 0 0) s m args below meth c 0 0 Q cX11_send .int (fun v M1 => r = (v, M1))) (M : zM) (x1 : Int32) (t0 : Int32)  (H : Heap) (locs : List Loc) (ls : Array Slot) (h : b_X11_send_23  M x1 t0 = some r) (hZ : zS g rE 15 s H locs M) (hl : lv_has ls 7 [(0, .ref (g.2.2 0)), (1, .int x1)]) : W p l e (zrm 12 0 0) s m args below meth c H locs 0 0 Q (F0 m 23 ls [.int t0, .ref (g.2.2 0)]) := by
  have hx := E.1.1
  have hb := E.1.2.1
  unfold b_X11_send_23 at h
  refine lv_iconst (v := 1) hx hb dX11_send_23 (by decide) ?_
  obtain ⟨u_28, qu_28, h⟩ := zbn_some h
  refine zciS (zrunV E hZ (by decide) (re_0 _) rfl rfl v_X11_throwsIf kw_1651 (c_X11_throwsIf l g M  t0 1 qu_28 _) rfl hl.1 rfl (Nat.le_of_ble_eq_true rfl) ⟨by decide, by decide⟩ ⟨by decide, by decide⟩ dX11_send_24) hZ (fun H locs hZ => ?_)
  refine zif_eq (tgt := 32) h E dX11_send_27 (by decide) (fun c_34 h => ?_) (fun c_34 h => ?_)
  · refine lv_aload_n hx hb dX11_send_32 rfl (lv_at hl 0 rfl) ?_
    obtain ⟨u_29, qu_29, h⟩ := zbn_some h
    refine zciR (zrunV E hZ (by decide) (re_0 _) rfl rfl v_X11_monks kw_1562 (c_X11_monks l g u_28.2   qu_29 _) rfl hl.1 rfl (Nat.le_of_ble_eq_true rfl) ⟨by decide, by decide⟩ ⟨by decide, by decide⟩ dX11_send_33) hZ (fun H locs hZ => ?_)
    refine lv_aload_n hx hb dX11_send_36 rfl (lv_at hl 0 rfl) ?_
    obtain ⟨u_30, qu_30, h⟩ := zbn_some h
    refine zciR (zrunV E hZ (by decide) (re_0 _) rfl rfl v_X11_drownedOnes kw_1891 (c_X11_drownedOnes l g u_28.2   qu_30 _) rfl hl.1 rfl (Nat.le_of_ble_eq_true rfl) ⟨by decide, by decide⟩ ⟨by decide, by decide⟩ dX11_send_37) hZ (fun H locs hZ => ?_)
    obtain ⟨u_31, qu_31, h⟩ := zbn_some h
    refine zciR (zrunS E hZ v_J6_bitCount_0f7a4 kw_1844 (c_J6_bitCount_0f7a4 l g rE 15 u_28.2  u_30 qu_31 _) rfl hl.1 rfl (Nat.le_of_ble_eq_true rfl) ⟨by decide, by decide⟩ ⟨by decide, by decide⟩ dX11_send_40) hZ (fun H locs hZ => ?_)
    refine lv_isub hx hb dX11_send_43 ?_
    refine zni h (fun x2_32 ex2_32 h => ?_)
    refine lv_istore_n (lv' := [(2, .int x2_32), (0, .ref (g.2.2 0)), (1, .int x1)]) hx hb dX11_send_44 rfl hl (by decide) rfl (fun ls hl => ?_)
    refine lv_aload_n hx hb dX11_send_45 rfl (lv_at hl 1 rfl) ?_
    refine zg (v := .int (u_28.2 0 11)) E hZ (by decide) (re_0 _) kc_X11 11 (by decide) kw_1379 rfl rfl dX11_send_46 ?_
    refine lv_iload_n hx hb dX11_send_49 rfl (lv_at hl 0 rfl) ?_
    refine zic_ne (tgt := 57) h E dX11_send_50 (by decide) (fun c_33 h => ?_) (fun c_33 h => ?_)
    · refine lv_iconst (v := 0) hx hb dX11_send_57 (by decide) ?_
      exact lb_X11_send_58 g  E hret u_28.2 x1 x2_32 0  H locs ls h hZ (lv_sub hl [1, 2, 0] rfl)
    · refine lv_iconst (v := 1) hx hb dX11_send_53 (by decide) ?_
      refine lv_goto (tgt := 58) hx hb dX11_send_54 (by decide) ?_
      exact lb_X11_send_58 g  E hret u_28.2 x1 x2_32 1  H locs ls h hZ (lv_sub hl [1, 2, 0] rfl)
  · refine lv_iconst (v := 0) hx hb dX11_send_30 (by decide) ?_
    exact hret _ _ _ _ _ _ (Option.some.inj h).symm rfl hZ dX11_send_31
def b_X11_send_22  (M : zM) (x1 : Int32) : Option (Int32 × zM) :=
  b_X11_send_23  M x1 0
set_option maxRecDepth 100000 in
set_option maxHeartbeats 4000000 in
theorem lb_X11_send_22 (g : zG)  {r : Int32 × zM} (E : zX g p m c cX11_send 7 s args (zWs yX11_send cX11_send 7 (some .int)) RX11) (hret : zRi g rE 15 p l e (zrm 12 0 0) s m args below meth c 0 0 Q cX11_send .int (fun v M1 => r = (v, M1))) (M : zM) (x1 : Int32)  (H : Heap) (locs : List Loc) (ls : Array Slot) (h : b_X11_send_22  M x1 = some r) (hZ : zS g rE 15 s H locs M) (hl : lv_has ls 7 [(0, .ref (g.2.2 0)), (1, .int x1)]) : W p l e (zrm 12 0 0) s m args below meth c H locs 0 0 Q (F0 m 22 ls [.ref (g.2.2 0)]) := by
  have hx := E.1.1
  have hb := E.1.2.1
  unfold b_X11_send_22 at h
  refine lv_iconst (v := 0) hx hb dX11_send_22 (by decide) ?_
  exact lb_X11_send_23 g  E hret M x1 0  H locs ls h hZ (lv_sub hl [0, 1] rfl)
def f_X11_send (M : zM) (x1 : Int32) : Option (Int32 × zM) :=
  zbn (f_X11_uses M ) (fun u_35 => if x1 = ((-1)) then (b_X11_send_22  u_35 x1) else (zbn (f_X11_noMonk u_35 x1) (fun u_36 => if u_36 = 0 then (b_X11_send_22  u_35 x1) else (b_X11_send_23  u_35 x1 1))))
set_option maxRecDepth 100000 in
set_option maxHeartbeats 4000000 in
theorem w_X11_send (g : zG)  {r : Int32 × zM} (E : zX g p m c cX11_send 7 s args (zWs yX11_send cX11_send 7 (some .int)) RX11) (hret : zRi g rE 15 p l e (zrm 12 0 0) s m args below meth c 0 0 Q cX11_send .int (fun v M1 => r = (v, M1))) (M : zM) (x1 : Int32) (H : Heap) (locs : List Loc) (ls : Array Slot) (h : f_X11_send M x1 = some r) (hZ : zS g rE 15 s H locs M) (hl : lv_has ls 7 [(0, .ref (g.2.2 0)), (1, .int x1)]) : W p l e (zrm 12 0 0) s m args below meth c H locs 0 0 Q (F0 m 0 ls []) := by
  have hx := E.1.1
  have hb := E.1.2.1
  unfold f_X11_send at h
  refine lv_aload_n hx hb dX11_send_0 rfl (lv_at hl 0 rfl) ?_
  obtain ⟨u_35, qu_35, h⟩ := zbn_some h
  refine zcvS (zrunV E hZ (by decide) (re_0 _) rfl rfl v_X11_uses kw_1476 (c_X11_uses l g M   qu_35 _) rfl hl.1 rfl (Nat.le_of_ble_eq_true rfl) ⟨by decide, by decide⟩ ⟨by decide, by decide⟩ dX11_send_1) hZ (fun H locs hZ => ?_)
  refine lv_aload_n hx hb dX11_send_4 rfl (lv_at hl 0 rfl) ?_
  refine lv_iload_n hx hb dX11_send_5 rfl (lv_at hl 1 rfl) ?_
  refine lv_iconst (v := (-1)) hx hb dX11_send_6 (by decide) ?_
  refine zic_eq (tgt := 22) h E dX11_send_7 (by decide) (fun c_38 h => ?_) (fun c_38 h => ?_)
  · exact lb_X11_send_22 g  E hret u_35 x1  H locs ls h hZ (lv_sub hl [0, 1] rfl)
  · refine lv_aload_n hx hb dX11_send_10 rfl (lv_at hl 0 rfl) ?_
    refine lv_iload_n hx hb dX11_send_11 rfl (lv_at hl 1 rfl) ?_
    obtain ⟨u_36, qu_36, h⟩ := zbn_some h
    refine zciR (zrunV E hZ (by decide) (re_0 _) rfl rfl v_X11_noMonk kw_1745 (c_X11_noMonk l g u_35  x1 qu_36 _) rfl hl.1 rfl (Nat.le_of_ble_eq_true rfl) ⟨by decide, by decide⟩ ⟨by decide, by decide⟩ dX11_send_12) hZ (fun H locs hZ => ?_)
    refine zif_eq (tgt := 22) h E dX11_send_15 (by decide) (fun c_37 h => ?_) (fun c_37 h => ?_)
    · exact lb_X11_send_22 g  E hret u_35 x1  H locs ls h hZ (lv_sub hl [0, 1] rfl)
    · refine lv_iconst (v := 1) hx hb dX11_send_18 (by decide) ?_
      refine lv_goto (tgt := 23) hx hb dX11_send_19 (by decide) ?_
      exact lb_X11_send_23 g  E hret u_35 x1 1  H locs ls h hZ (lv_sub hl [0, 1] rfl)
theorem c_X11_send (l : Launch) (g : zG) (M : zM)  (x1 : Int32) {r : Int32 × zM} (h : f_X11_send M x1 = some r) : zMi l g rE 15 yX11_send (zWs yX11_send cX11_send 7 (some .int)) 12 [.ref (g.2.2 0), .int x1] M (fun v M1 => r = (v, M1)) :=
  zMi_of (by decide +kernel) (Nat.le_of_ble_eq_true rfl) (fun p e s m args below meth c Q ls E hret hZ hl => w_X11_send g  E hret M x1 _ _ ls h hZ hl)
theorem v_X11_send : zYV yX11_send cX11_send 7 (some .int) 1 := ⟨kw_1953, kw_15, kw_1951, kw_1952, by decide +kernel⟩

def f_X11_canBe (M : zM) (x1 : Int32) (x2 : Int32) (x3 : Int32) (x4 : Int32) : Option (Int32 × zM) :=
  zbn (f_X11_has M x4 x3) (fun u_1 => if u_1 = 0 then (zbn (f_X11_isKept M x3) (fun u_2 => if u_2 = 0 then (zck (zin x2 7) (zbn (f_X11_ofDuty M x3 0) (fun u_3 => zbn (f_X11_of M x1 2) (fun u_4 => zck (zin x2 7) (zbn (f_X11_hoursOf M (M 12 (x2 : Int32).toNatClampNeg) u_3 u_4 1 (M 13 (x2 : Int32).toNatClampNeg)) (fun u_5 => zck (zin x2 7) (zbn (f_X11_ofDuty M x3 1) (fun u_6 => znm (if ((M 13 (x2 : Int32).toNatClampNeg) + u_5) < u_6 then u_6 else ((M 13 (x2 : Int32).toNatClampNeg) + u_5)) (fun v_7 => if 1000000 ≤ u_5 then (some (0, M)) else (zbn (f_X11_ofDuty M x3 2) (fun u_8 => if v_7 ≤ u_8 then (zbn (f_X11_ofDuty M x3 0) (fun u_9 => zck (zin (x2 + 1) 7) (znm (zu M 12 (x2 + 1 : Int32).toNatClampNeg u_9) (fun M_10 => zck (zin (x2 + 1) 7) (znm (zu M_10 13 (x2 + 1 : Int32).toNatClampNeg v_7) (fun M_11 => some (1, M_11))))))) else (some (0, M))))))))))))) else (some (0, M)))) else (some (0, M)))
set_option maxRecDepth 100000 in
set_option maxHeartbeats 4000000 in
theorem w_X11_canBe (g : zG)  {r : Int32 × zM} (E : zX g p m c cX11_canBe 7 s args (zWs yX11_canBe cX11_canBe 7 (some .boolean)) RX11) (hret : zRi g rE 15 p l e (zrm 10 0 0) s m args below meth c 0 0 Q cX11_canBe .boolean (fun v M1 => r = (v, M1))) (M : zM) (x1 : Int32) (x2 : Int32) (x3 : Int32) (x4 : Int32) (H : Heap) (locs : List Loc) (ls : Array Slot) (h : f_X11_canBe M x1 x2 x3 x4 = some r) (hZ : zS g rE 15 s H locs M) (hl : lv_has ls 7 [(0, .ref (g.2.2 0)), (1, .int x1), (2, .int x2), (3, .int x3), (4, .int x4)]) : W p l e (zrm 10 0 0) s m args below meth c H locs 0 0 Q (F0 m 0 ls []) := by
  have hx := E.1.1
  have hb := E.1.2.1
  unfold f_X11_canBe at h
  refine lv_iload hx hb dX11_canBe_0 (lv_at hl 4 rfl) ?_
  refine lv_iload_n hx hb dX11_canBe_2 rfl (lv_at hl 3 rfl) ?_
  obtain ⟨u_1, qu_1, h⟩ := zbn_some h
  refine zciR (zrunS E hZ v_X11_has kw_1922 (c_X11_has l g M  x4 x3 qu_1 _) rfl hl.1 rfl (Nat.le_of_ble_eq_true rfl) ⟨by decide, by decide⟩ ⟨by decide, by decide⟩ dX11_canBe_3) hZ (fun H locs hZ => ?_)
  refine zif_ne (tgt := 17) h E dX11_canBe_6 (by decide) (fun c_15 h => ?_) (fun c_15 h => ?_)
  · refine lv_iconst (v := 0) hx hb dX11_canBe_17 (by decide) ?_
    exact hret _ _ _ _ _ _ (Option.some.inj h).symm rfl hZ dX11_canBe_18
  · refine lv_aload_n hx hb dX11_canBe_9 rfl (lv_at hl 0 rfl) ?_
    refine lv_iload_n hx hb dX11_canBe_10 rfl (lv_at hl 3 rfl) ?_
    obtain ⟨u_2, qu_2, h⟩ := zbn_some h
    refine zciR (zrunV E hZ (by decide) (re_0 _) rfl rfl v_X11_isKept kw_1828 (c_X11_isKept l g M  x3 qu_2 _) rfl hl.1 rfl (Nat.le_of_ble_eq_true rfl) ⟨by decide, by decide⟩ ⟨by decide, by decide⟩ dX11_canBe_11) hZ (fun H locs hZ => ?_)
    refine zif_eq (tgt := 19) h E dX11_canBe_14 (by decide) (fun c_14 h => ?_) (fun c_14 h => ?_)
    · refine lv_aload_n hx hb dX11_canBe_19 rfl (lv_at hl 0 rfl) ?_
      refine lv_aload_n hx hb dX11_canBe_20 rfl (lv_at hl 0 rfl) ?_
      refine zg (v := .ref (g.2.2 12)) E hZ (by decide) (re_0 _) kc_X11 21 (by decide) kw_1389 rfl rfl dX11_canBe_21 ?_
      refine lv_iload_n hx hb dX11_canBe_24 rfl (lv_at hl 2 rfl) ?_
      refine zia h E hZ (by decide) re_12 dX11_canBe_25 (fun h => ?_)
      refine lv_aload_n hx hb dX11_canBe_26 rfl (lv_at hl 0 rfl) ?_
      refine lv_iload_n hx hb dX11_canBe_27 rfl (lv_at hl 3 rfl) ?_
      refine lv_iconst (v := 0) hx hb dX11_canBe_28 (by decide) ?_
      obtain ⟨u_3, qu_3, h⟩ := zbn_some h
      refine zciR (zrunV E hZ (by decide) (re_0 _) rfl rfl v_X11_ofDuty kw_1789 (c_X11_ofDuty l g M  x3 0 qu_3 _) rfl hl.1 rfl (Nat.le_of_ble_eq_true rfl) ⟨by decide, by decide⟩ ⟨by decide, by decide⟩ dX11_canBe_29) hZ (fun H locs hZ => ?_)
      refine lv_aload_n hx hb dX11_canBe_32 rfl (lv_at hl 0 rfl) ?_
      refine lv_iload_n hx hb dX11_canBe_33 rfl (lv_at hl 1 rfl) ?_
      refine lv_iconst (v := 2) hx hb dX11_canBe_34 (by decide) ?_
      obtain ⟨u_4, qu_4, h⟩ := zbn_some h
      refine zciR (zrunV E hZ (by decide) (re_0 _) rfl rfl v_X11_of kw_1765 (c_X11_of l g M  x1 2 qu_4 _) rfl hl.1 rfl (Nat.le_of_ble_eq_true rfl) ⟨by decide, by decide⟩ ⟨by decide, by decide⟩ dX11_canBe_35) hZ (fun H locs hZ => ?_)
      refine lv_iconst (v := 1) hx hb dX11_canBe_38 (by decide) ?_
      refine lv_aload_n hx hb dX11_canBe_39 rfl (lv_at hl 0 rfl) ?_
      refine zg (v := .ref (g.2.2 13)) E hZ (by decide) (re_0 _) kc_X11 22 (by decide) kw_1390 rfl rfl dX11_canBe_40 ?_
      refine lv_iload_n hx hb dX11_canBe_43 rfl (lv_at hl 2 rfl) ?_
      refine zia h E hZ (by decide) re_13 dX11_canBe_44 (fun h => ?_)
      obtain ⟨u_5, qu_5, h⟩ := zbn_some h
      refine zciR (zrunV E hZ (by decide) (re_0 _) rfl rfl v_X11_hoursOf kw_1918 (c_X11_hoursOf l g M  (M 12 (x2 : Int32).toNatClampNeg) u_3 u_4 1 (M 13 (x2 : Int32).toNatClampNeg) qu_5 _) rfl hl.1 rfl (Nat.le_of_ble_eq_true rfl) ⟨by decide, by decide⟩ ⟨by decide, by decide⟩ dX11_canBe_45) hZ (fun H locs hZ => ?_)
      refine lv_istore (lv' := [(5, .int u_5), (0, .ref (g.2.2 0)), (1, .int x1), (2, .int x2), (3, .int x3), (4, .int x4)]) hx hb dX11_canBe_48 hl (by decide) rfl (fun ls hl => ?_)
      refine lv_aload_n hx hb dX11_canBe_50 rfl (lv_at hl 1 rfl) ?_
      refine zg (v := .ref (g.2.2 13)) E hZ (by decide) (re_0 _) kc_X11 22 (by decide) kw_1390 rfl rfl dX11_canBe_51 ?_
      refine lv_iload_n hx hb dX11_canBe_54 rfl (lv_at hl 3 rfl) ?_
      refine zia h E hZ (by decide) re_13 dX11_canBe_55 (fun h => ?_)
      refine lv_iload hx hb dX11_canBe_56 (lv_at hl 0 rfl) ?_
      refine lv_iadd hx hb dX11_canBe_58 ?_
      refine lv_aload_n hx hb dX11_canBe_59 rfl (lv_at hl 1 rfl) ?_
      refine lv_iload_n hx hb dX11_canBe_60 rfl (lv_at hl 4 rfl) ?_
      refine lv_iconst (v := 1) hx hb dX11_canBe_61 (by decide) ?_
      obtain ⟨u_6, qu_6, h⟩ := zbn_some h
      refine zciR (zrunV E hZ (by decide) (re_0 _) rfl rfl v_X11_ofDuty kw_1789 (c_X11_ofDuty l g M  x3 1 qu_6 _) rfl hl.1 rfl (Nat.le_of_ble_eq_true rfl) ⟨by decide, by decide⟩ ⟨by decide, by decide⟩ dX11_canBe_62) hZ (fun H locs hZ => ?_)
      refine va_mmax hx hb (E.1.2.2.1.trans hl.1.symm) E.1.2.2.2.1 (E.w kw_1697) (E.w kw_453) (E.w kw_16) (E.w kw_454) (Nat.le_of_ble_eq_true rfl) (Nat.le_of_ble_eq_true rfl) (Nat.le_of_ble_eq_true rfl) (Nat.le_of_ble_eq_true rfl) dX11_canBe_65 ?_
      refine zni h (fun v_7 ev_7 h => ?_)
      refine lv_istore (lv' := [(6, .int v_7), (5, .int u_5), (0, .ref (g.2.2 0)), (1, .int x1), (2, .int x2), (3, .int x3), (4, .int x4)]) hx hb dX11_canBe_68 hl (by decide) rfl (fun ls hl => ?_)
      refine lv_iload hx hb dX11_canBe_70 (lv_at hl 1 rfl) ?_
      refine lv_ldcw (v := 1000000) hx hb E.1.2.2.2.1 (E.w kw_1933) dX11_canBe_72 ?_
      refine zic_ge (tgt := 89) h E dX11_canBe_75 (by decide) (fun c_13 h => ?_) (fun c_13 h => ?_)
      · refine lv_iconst (v := 0) hx hb dX11_canBe_89 (by decide) ?_
        exact hret _ _ _ _ _ _ (Option.some.inj h).symm rfl hZ dX11_canBe_90
      · refine lv_iload hx hb dX11_canBe_78 (lv_at hl 0 rfl) ?_
        refine lv_aload_n hx hb dX11_canBe_80 rfl (lv_at hl 2 rfl) ?_
        refine lv_iload_n hx hb dX11_canBe_81 rfl (lv_at hl 5 rfl) ?_
        refine lv_iconst (v := 2) hx hb dX11_canBe_82 (by decide) ?_
        obtain ⟨u_8, qu_8, h⟩ := zbn_some h
        refine zciR (zrunV E hZ (by decide) (re_0 _) rfl rfl v_X11_ofDuty kw_1789 (c_X11_ofDuty l g M  x3 2 qu_8 _) rfl hl.1 rfl (Nat.le_of_ble_eq_true rfl) ⟨by decide, by decide⟩ ⟨by decide, by decide⟩ dX11_canBe_83) hZ (fun H locs hZ => ?_)
        refine zic_le (tgt := 91) h E dX11_canBe_86 (by decide) (fun c_12 h => ?_) (fun c_12 h => ?_)
        · refine lv_aload_n hx hb dX11_canBe_91 rfl (lv_at hl 2 rfl) ?_
          refine zg (v := .ref (g.2.2 12)) E hZ (by decide) (re_0 _) kc_X11 21 (by decide) kw_1389 rfl rfl dX11_canBe_92 ?_
          refine lv_iload_n hx hb dX11_canBe_95 rfl (lv_at hl 4 rfl) ?_
          refine lv_iconst (v := 1) hx hb dX11_canBe_96 (by decide) ?_
          refine lv_iadd hx hb dX11_canBe_97 ?_
          refine lv_aload_n hx hb dX11_canBe_98 rfl (lv_at hl 2 rfl) ?_
          refine lv_iload_n hx hb dX11_canBe_99 rfl (lv_at hl 5 rfl) ?_
          refine lv_iconst (v := 0) hx hb dX11_canBe_100 (by decide) ?_
          obtain ⟨u_9, qu_9, h⟩ := zbn_some h
          refine zciR (zrunV E hZ (by decide) (re_0 _) rfl rfl v_X11_ofDuty kw_1789 (c_X11_ofDuty l g M  x3 0 qu_9 _) rfl hl.1 rfl (Nat.le_of_ble_eq_true rfl) ⟨by decide, by decide⟩ ⟨by decide, by decide⟩ dX11_canBe_101) hZ (fun H locs hZ => ?_)
          refine zis h E hZ (by decide) re_12 dX11_canBe_104 (fun M_10 H locs eM_10 h hZ => ?_)
          refine lv_aload_n hx hb dX11_canBe_105 rfl (lv_at hl 2 rfl) ?_
          refine zg (v := .ref (g.2.2 13)) E hZ (by decide) (re_0 _) kc_X11 22 (by decide) kw_1390 rfl rfl dX11_canBe_106 ?_
          refine lv_iload_n hx hb dX11_canBe_109 rfl (lv_at hl 4 rfl) ?_
          refine lv_iconst (v := 1) hx hb dX11_canBe_110 (by decide) ?_
          refine lv_iadd hx hb dX11_canBe_111 ?_
          refine lv_iload hx hb dX11_canBe_112 (lv_at hl 0 rfl) ?_
          refine zis h E hZ (by decide) re_13 dX11_canBe_114 (fun M_11 H locs eM_11 h hZ => ?_)
          refine lv_iconst (v := 1) hx hb dX11_canBe_115 (by decide) ?_
          exact hret _ _ _ _ _ _ (Option.some.inj h).symm rfl hZ dX11_canBe_116
        · refine lv_iconst (v := 0) hx hb dX11_canBe_89 (by decide) ?_
          exact hret _ _ _ _ _ _ (Option.some.inj h).symm rfl hZ dX11_canBe_90
    · refine lv_iconst (v := 0) hx hb dX11_canBe_17 (by decide) ?_
      exact hret _ _ _ _ _ _ (Option.some.inj h).symm rfl hZ dX11_canBe_18
theorem c_X11_canBe (l : Launch) (g : zG) (M : zM)  (x1 : Int32) (x2 : Int32) (x3 : Int32) (x4 : Int32) {r : Int32 × zM} (h : f_X11_canBe M x1 x2 x3 x4 = some r) : zMi l g rE 15 yX11_canBe (zWs yX11_canBe cX11_canBe 7 (some .boolean)) 10 [.ref (g.2.2 0), .int x1, .int x2, .int x3, .int x4] M (fun v M1 => r = (v, M1)) :=
  zMi_of (by decide +kernel) (Nat.le_of_ble_eq_true rfl) (fun p e s m args below meth c Q ls E hret hZ hl => w_X11_canBe g  E hret M x1 x2 x3 x4 _ _ ls h hZ hl)
theorem v_X11_canBe : zYV yX11_canBe cX11_canBe 7 (some .boolean) 4 := ⟨kw_1977, kw_15, kw_1976, kp_111, by decide +kernel⟩

def b_X11_laysMost_193 (K40 : zM → Int32 → Int32 → Option (zM)) (M : zM) (x1 : Int32) (x2 : Int32) (x3 : Int32) : Option (zM) :=
  K40 M x2 x3
set_option maxRecDepth 100000 in
set_option maxHeartbeats 4000000 in
theorem lb_X11_laysMost_193 (g : zG)  {r : zM} (E : zX g p m c cX11_laysMost 6 s args (zWs yX11_laysMost cX11_laysMost 6 none) RX11) (hret : zRv g rE 15 p l e (zrm 11 0 0) s m args below meth c 0 0 Q cX11_laysMost (fun M1 => M1 = r)) (M : zM) (x1 : Int32) (x2 : Int32) (x3 : Int32) (K40 : zM → Int32 → Int32 → Option (zM)) (hK40 : ∀ (M : zM) (x2 : Int32) (x3 : Int32) (H : Heap) (locs : List Loc) (ls : Array Slot), K40 M x2 x3 = some r → zS g rE 15 s H locs M → lv_has ls 6 [(0, .ref (g.2.2 0)), (1, .int x1), (2, .int x2), (3, .int x3)] → W p l e (zrm 11 0 0) s m args below meth c H locs 0 0 Q (F0 m 40 ls [])) (H : Heap) (locs : List Loc) (ls : Array Slot) (h : b_X11_laysMost_193 K40 M x1 x2 x3 = some r) (hZ : zS g rE 15 s H locs M) (hl : lv_has ls 6 [(0, .ref (g.2.2 0)), (1, .int x1), (2, .int x2), (3, .int x3)]) : W p l e (zrm 11 0 0) s m args below meth c H locs 0 0 Q (F0 m 193 ls []) := by
  have hx := E.1.1
  have hb := E.1.2.1
  unfold b_X11_laysMost_193 at h
  refine lv_goto (tgt := 40) hx hb dX11_laysMost_193 (by decide) ?_
  exact hK40 M x2 x3 H locs ls h hZ (lv_sub hl [0, 1, 2, 3] rfl)
def b_X11_laysMost_69 (K40 : zM → Int32 → Int32 → Option (zM)) (M : zM) (x1 : Int32) (x2 : Int32) (x3 : Int32) : Option (zM) :=
  znm (x2 + (-1)) (fun x2_1 => if x2_1 < 0 then (b_X11_laysMost_193 K40 M x1 x2_1 x3) else (zck (zin x2_1 7) (znm (x3 &&& (((1 : Int32) <<< ((M 11 (x2_1 : Int32).toNatClampNeg) &&& 31)) ^^^ ((-1)))) (fun x3_2 => zck (zin x2_1 7) (zck (zin x2_1 7) (znm (zu M 11 (x2_1 : Int32).toNatClampNeg ((M 11 (x2_1 : Int32).toNatClampNeg) + 1)) (fun M_3 => b_X11_laysMost_193 K40 M_3 x1 x2_1 x3_2)))))))
set_option maxRecDepth 100000 in
set_option maxHeartbeats 4000000 in
theorem lb_X11_laysMost_69 (g : zG)  {r : zM} (E : zX g p m c cX11_laysMost 6 s args (zWs yX11_laysMost cX11_laysMost 6 none) RX11) (hret : zRv g rE 15 p l e (zrm 11 0 0) s m args below meth c 0 0 Q cX11_laysMost (fun M1 => M1 = r)) (M : zM) (x1 : Int32) (x2 : Int32) (x3 : Int32) (K40 : zM → Int32 → Int32 → Option (zM)) (hK40 : ∀ (M : zM) (x2 : Int32) (x3 : Int32) (H : Heap) (locs : List Loc) (ls : Array Slot), K40 M x2 x3 = some r → zS g rE 15 s H locs M → lv_has ls 6 [(0, .ref (g.2.2 0)), (1, .int x1), (2, .int x2), (3, .int x3)] → W p l e (zrm 11 0 0) s m args below meth c H locs 0 0 Q (F0 m 40 ls [])) (H : Heap) (locs : List Loc) (ls : Array Slot) (h : b_X11_laysMost_69 K40 M x1 x2 x3 = some r) (hZ : zS g rE 15 s H locs M) (hl : lv_has ls 6 [(0, .ref (g.2.2 0)), (1, .int x1), (2, .int x2), (3, .int x3)]) : W p l e (zrm 11 0 0) s m args below meth c H locs 0 0 Q (F0 m 69 ls []) := by
  have hx := E.1.1
  have hb := E.1.2.1
  unfold b_X11_laysMost_69 at h
  obtain ⟨x2_1, ex2_1, h⟩ := znm_ex h
  refine lv_iinc (v := x2_1) (lv' := [(2, .int x2_1), (0, .ref (g.2.2 0)), (1, .int x1), (3, .int x3)]) hx hb dX11_laysMost_69 hl (k := 2) rfl (by rw [ex2_1]; rfl) (by decide) rfl (fun ls hl => ?_)
  refine lv_iload_n hx hb dX11_laysMost_72 rfl (lv_at hl 0 rfl) ?_
  refine zif_lt (tgt := 193) h E dX11_laysMost_73 (by decide) (fun c_4 h => ?_) (fun c_4 h => ?_)
  · exact lb_X11_laysMost_193 g  E hret M x1 x2_1 x3 K40 hK40 H locs ls h hZ (lv_sub hl [1, 2, 0, 3] rfl)
  · refine lv_iload_n hx hb dX11_laysMost_76 rfl (lv_at hl 3 rfl) ?_
    refine lv_iconst (v := 1) hx hb dX11_laysMost_77 (by decide) ?_
    refine lv_aload_n hx hb dX11_laysMost_78 rfl (lv_at hl 1 rfl) ?_
    refine zg (v := .ref (g.2.2 11)) E hZ (by decide) (re_0 _) kc_X11 20 (by decide) kw_1388 rfl rfl dX11_laysMost_79 ?_
    refine lv_iload_n hx hb dX11_laysMost_82 rfl (lv_at hl 0 rfl) ?_
    refine zia h E hZ (by decide) re_11 dX11_laysMost_83 (fun h => ?_)
    refine lv_ishl hx hb dX11_laysMost_84 ?_
    refine lv_iconst (v := (-1)) hx hb dX11_laysMost_85 (by decide) ?_
    refine lv_ixor hx hb dX11_laysMost_86 ?_
    refine lv_iand hx hb dX11_laysMost_87 ?_
    refine zni h (fun x3_2 ex3_2 h => ?_)
    refine lv_istore_n (lv' := [(3, .int x3_2), (2, .int x2_1), (0, .ref (g.2.2 0)), (1, .int x1)]) hx hb dX11_laysMost_88 rfl hl (by decide) rfl (fun ls hl => ?_)
    refine lv_aload_n hx hb dX11_laysMost_89 rfl (lv_at hl 2 rfl) ?_
    refine zg (v := .ref (g.2.2 11)) E hZ (by decide) (re_0 _) kc_X11 20 (by decide) kw_1388 rfl rfl dX11_laysMost_90 ?_
    refine lv_iload_n hx hb dX11_laysMost_93 rfl (lv_at hl 1 rfl) ?_
    refine lv_dup2_11 hx hb dX11_laysMost_94 rfl rfl ?_
    refine zia h E hZ (by decide) re_11 dX11_laysMost_95 (fun h => ?_)
    refine lv_iconst (v := 1) hx hb dX11_laysMost_96 (by decide) ?_
    refine lv_iadd hx hb dX11_laysMost_97 ?_
    refine zis h E hZ (by decide) re_11 dX11_laysMost_98 (fun M_3 H locs eM_3 h hZ => ?_)
    refine lv_goto (tgt := 193) hx hb dX11_laysMost_99 (by decide) ?_
    exact lb_X11_laysMost_193 g  E hret M_3 x1 x2_1 x3_2 K40 hK40 H locs ls h hZ (lv_sub hl [2, 3, 1, 0] rfl)
def b_X11_laysMost_168 (K40 : zM → Int32 → Int32 → Option (zM)) (M : zM) (x1 : Int32) (x2 : Int32) (x3 : Int32) : Option (zM) :=
  znm (if (M 0 24) < x2 then x2 else (M 0 24)) (fun v_5 => znm (zu M 0 24 v_5) (fun M_6 => b_X11_laysMost_193 K40 M_6 x1 x2 x3))
set_option maxRecDepth 100000 in
set_option maxHeartbeats 4000000 in
theorem lb_X11_laysMost_168 (g : zG)  {r : zM} (E : zX g p m c cX11_laysMost 6 s args (zWs yX11_laysMost cX11_laysMost 6 none) RX11) (hret : zRv g rE 15 p l e (zrm 11 0 0) s m args below meth c 0 0 Q cX11_laysMost (fun M1 => M1 = r)) (M : zM) (x1 : Int32) (x2 : Int32) (x3 : Int32) (K40 : zM → Int32 → Int32 → Option (zM)) (hK40 : ∀ (M : zM) (x2 : Int32) (x3 : Int32) (H : Heap) (locs : List Loc) (ls : Array Slot), K40 M x2 x3 = some r → zS g rE 15 s H locs M → lv_has ls 6 [(0, .ref (g.2.2 0)), (1, .int x1), (2, .int x2), (3, .int x3)] → W p l e (zrm 11 0 0) s m args below meth c H locs 0 0 Q (F0 m 40 ls [])) (H : Heap) (locs : List Loc) (ls : Array Slot) (h : b_X11_laysMost_168 K40 M x1 x2 x3 = some r) (hZ : zS g rE 15 s H locs M) (hl : lv_has ls 6 [(0, .ref (g.2.2 0)), (1, .int x1), (2, .int x2), (3, .int x3)]) : W p l e (zrm 11 0 0) s m args below meth c H locs 0 0 Q (F0 m 168 ls []) := by
  have hx := E.1.1
  have hb := E.1.2.1
  unfold b_X11_laysMost_168 at h
  refine lv_aload_n hx hb dX11_laysMost_168 rfl (lv_at hl 0 rfl) ?_
  refine lv_aload_n hx hb dX11_laysMost_169 rfl (lv_at hl 0 rfl) ?_
  refine zg (v := .int (M 0 24)) E hZ (by decide) (re_0 _) kc_X11 24 (by decide) kw_1392 rfl rfl dX11_laysMost_170 ?_
  refine lv_iload_n hx hb dX11_laysMost_173 rfl (lv_at hl 2 rfl) ?_
  refine va_mmax hx hb (E.1.2.2.1.trans hl.1.symm) E.1.2.2.2.1 (E.w kw_1697) (E.w kw_453) (E.w kw_16) (E.w kw_454) (Nat.le_of_ble_eq_true rfl) (Nat.le_of_ble_eq_true rfl) (Nat.le_of_ble_eq_true rfl) (Nat.le_of_ble_eq_true rfl) dX11_laysMost_174 ?_
  refine zni h (fun v_5 ev_5 h => ?_)
  refine zp h E hZ (by decide) (re_0 _) ((re_0 _).trans (congrArg (fun z => Sum.inr (10, z)) (fs_X11_24 g _ _ _))) kc_X11 (by decide) kw_1392 rfl rfl rfl (Nat.le_of_ble_eq_true rfl) dX11_laysMost_177 (fun M_6 H locs eM_6 h hZ => ?_)
  refine lv_goto (tgt := 193) hx hb dX11_laysMost_180 (by decide) ?_
  exact lb_X11_laysMost_193 g  E hret M_6 x1 x2 x3 K40 hK40 H locs ls h hZ (lv_sub hl [0, 1, 2, 3] rfl)
def b_X11_laysMost_134 (K40 : zM → Int32 → Int32 → Option (zM)) (x1 : Int32) (x2 : Int32) (x3 : Int32) : Nat → zM → Int32 → Option (zM)
  | 0, _, _ => none
  | n + 1, M, x5 =>
    if x2 ≤ x5 then (b_X11_laysMost_168 K40 M x1 x2 x3) else (if x2 ≤ (M 0 24) then (b_X11_laysMost_168 K40 M x1 x2 x3) else (zck (zin x5 7) (zck (zin x5 6) (znm (zu M 14 (x5 : Int32).toNatClampNeg (M 11 (x5 : Int32).toNatClampNeg)) (fun M_7 => znm (x5 + 1) (fun x5_8 => b_X11_laysMost_134 K40 x1 x2 x3 n M_7 x5_8))))))
set_option maxRecDepth 100000 in
set_option maxHeartbeats 4000000 in
theorem lb_X11_laysMost_134 (g : zG)  {r : zM} (E : zX g p m c cX11_laysMost 6 s args (zWs yX11_laysMost cX11_laysMost 6 none) RX11) (hret : zRv g rE 15 p l e (zrm 11 0 0) s m args below meth c 0 0 Q cX11_laysMost (fun M1 => M1 = r)) (x1 : Int32) (x2 : Int32) (x3 : Int32) (K40 : zM → Int32 → Int32 → Option (zM)) (hK40 : ∀ (M : zM) (x2 : Int32) (x3 : Int32) (H : Heap) (locs : List Loc) (ls : Array Slot), K40 M x2 x3 = some r → zS g rE 15 s H locs M → lv_has ls 6 [(0, .ref (g.2.2 0)), (1, .int x1), (2, .int x2), (3, .int x3)] → W p l e (zrm 11 0 0) s m args below meth c H locs 0 0 Q (F0 m 40 ls [])) : ∀ (n : Nat) (M : zM) (x5 : Int32) (H : Heap) (locs : List Loc) (ls : Array Slot), b_X11_laysMost_134 K40 x1 x2 x3 n M x5 = some r → zS g rE 15 s H locs M → lv_has ls 6 [(0, .ref (g.2.2 0)), (1, .int x1), (2, .int x2), (3, .int x3), (5, .int x5)] → W p l e (zrm 11 0 0) s m args below meth c H locs 0 0 Q (F0 m 134 ls []) := by
  have hx := E.1.1
  have hb := E.1.2.1
  intro n
  induction n with
  | zero => intro M x5 H locs ls h hZ hl; cases h
  | succ n ih =>
    intro M x5 H locs ls h hZ hl
    rw [b_X11_laysMost_134] at h
    refine lv_iload hx hb dX11_laysMost_134 (lv_at hl 4 rfl) ?_
    refine lv_iload_n hx hb dX11_laysMost_136 rfl (lv_at hl 2 rfl) ?_
    refine zic_ge (tgt := 168) h E dX11_laysMost_137 (by decide) (fun c_10 h => ?_) (fun c_10 h => ?_)
    · exact lb_X11_laysMost_168 g  E hret M x1 x2 x3 K40 hK40 H locs ls h hZ (lv_sub hl [0, 1, 2, 3] rfl)
    · refine lv_iload_n hx hb dX11_laysMost_140 rfl (lv_at hl 2 rfl) ?_
      refine lv_aload_n hx hb dX11_laysMost_141 rfl (lv_at hl 0 rfl) ?_
      refine zg (v := .int (M 0 24)) E hZ (by decide) (re_0 _) kc_X11 24 (by decide) kw_1392 rfl rfl dX11_laysMost_142 ?_
      refine zic_le (tgt := 168) h E dX11_laysMost_145 (by decide) (fun c_9 h => ?_) (fun c_9 h => ?_)
      · exact lb_X11_laysMost_168 g  E hret M x1 x2 x3 K40 hK40 H locs ls h hZ (lv_sub hl [0, 1, 2, 3] rfl)
      · refine lv_aload_n hx hb dX11_laysMost_148 rfl (lv_at hl 0 rfl) ?_
        refine zg (v := .ref (g.2.2 14)) E hZ (by decide) (re_0 _) kc_X11 23 (by decide) kw_1391 rfl rfl dX11_laysMost_149 ?_
        refine lv_iload hx hb dX11_laysMost_152 (lv_at hl 4 rfl) ?_
        refine lv_aload_n hx hb dX11_laysMost_154 rfl (lv_at hl 0 rfl) ?_
        refine zg (v := .ref (g.2.2 11)) E hZ (by decide) (re_0 _) kc_X11 20 (by decide) kw_1388 rfl rfl dX11_laysMost_155 ?_
        refine lv_iload hx hb dX11_laysMost_158 (lv_at hl 4 rfl) ?_
        refine zia h E hZ (by decide) re_11 dX11_laysMost_160 (fun h => ?_)
        refine zis h E hZ (by decide) re_14 dX11_laysMost_161 (fun M_7 H locs eM_7 h hZ => ?_)
        obtain ⟨x5_8, ex5_8, h⟩ := znm_ex h
        refine lv_iinc (v := x5_8) (lv' := [(5, .int x5_8), (0, .ref (g.2.2 0)), (1, .int x1), (2, .int x2), (3, .int x3)]) hx hb dX11_laysMost_162 hl (k := 4) rfl (by rw [ex5_8]; rfl) (by decide) rfl (fun ls hl => ?_)
        refine lv_goto (tgt := 134) hx hb dX11_laysMost_165 (by decide) ?_
        exact ih M_7 x5_8 H locs ls h hZ (lv_sub hl [1, 2, 3, 4, 0] rfl)
def b_X11_laysMost_40  (x1 : Int32) : Nat → zM → Int32 → Int32 → Option (zM)
  | 0, _, _, _ => none
  | n + 1, M, x2, x3 =>
    if x2 < 0 then (some M) else (zck (zin x2 7) (znm (M 11 (x2 : Int32).toNatClampNeg) (fun x4_11 => zbn (f_X11_duties M ) (fun u_12 => if x2 = u_12 then (b_X11_laysMost_69 (fun M x2 x3 => b_X11_laysMost_40  x1 n M x2 x3) M x1 x2 x3) else (zbn (f_X11_duties M ) (fun u_13 => if x4_11 = u_13 then (b_X11_laysMost_69 (fun M x2 x3 => b_X11_laysMost_40  x1 n M x2 x3) M x1 x2 x3) else (zbn (f_X11_canBe M x1 x2 x4_11 x3) (fun u_14 => if u_14.1 = 0 then (zck (zin x2 7) (zck (zin x2 7) (znm (zu u_14.2 11 (x2 : Int32).toNatClampNeg ((u_14.2 11 (x2 : Int32).toNatClampNeg) + 1)) (fun M_15 => b_X11_laysMost_193 (fun M x2 x3 => b_X11_laysMost_40  x1 n M x2 x3) M_15 x1 x2 x3)))) else (znm (x3 ||| ((1 : Int32) <<< (x4_11 &&& 31))) (fun x3_16 => znm (x2 + 1) (fun x2_17 => zck (zin x2_17 7) (znm (zu u_14.2 11 (x2_17 : Int32).toNatClampNeg 0) (fun M_18 => b_X11_laysMost_134 (fun M x2 x3 => b_X11_laysMost_40  x1 n M x2 x3) x1 x2_17 x3_16 20000 M_18 0)))))))))))))
set_option maxRecDepth 100000 in
set_option maxHeartbeats 4000000 in
theorem lb_X11_laysMost_40 (g : zG)  {r : zM} (E : zX g p m c cX11_laysMost 6 s args (zWs yX11_laysMost cX11_laysMost 6 none) RX11) (hret : zRv g rE 15 p l e (zrm 11 0 0) s m args below meth c 0 0 Q cX11_laysMost (fun M1 => M1 = r)) (x1 : Int32)  : ∀ (n : Nat) (M : zM) (x2 : Int32) (x3 : Int32) (H : Heap) (locs : List Loc) (ls : Array Slot), b_X11_laysMost_40  x1 n M x2 x3 = some r → zS g rE 15 s H locs M → lv_has ls 6 [(0, .ref (g.2.2 0)), (1, .int x1), (2, .int x2), (3, .int x3)] → W p l e (zrm 11 0 0) s m args below meth c H locs 0 0 Q (F0 m 40 ls []) := by
  have hx := E.1.1
  have hb := E.1.2.1
  intro n
  induction n with
  | zero => intro M x2 x3 H locs ls h hZ hl; cases h
  | succ n ih =>
    intro M x2 x3 H locs ls h hZ hl
    rw [b_X11_laysMost_40] at h
    refine lv_iload_n hx hb dX11_laysMost_40 rfl (lv_at hl 2 rfl) ?_
    refine zif_lt (tgt := 196) h E dX11_laysMost_41 (by decide) (fun c_22 h => ?_) (fun c_22 h => ?_)
    · exact hret _ _ _ _ _ (Option.some.inj h) hZ dX11_laysMost_196
    · refine lv_aload_n hx hb dX11_laysMost_44 rfl (lv_at hl 0 rfl) ?_
      refine zg (v := .ref (g.2.2 11)) E hZ (by decide) (re_0 _) kc_X11 20 (by decide) kw_1388 rfl rfl dX11_laysMost_45 ?_
      refine lv_iload_n hx hb dX11_laysMost_48 rfl (lv_at hl 2 rfl) ?_
      refine zia h E hZ (by decide) re_11 dX11_laysMost_49 (fun h => ?_)
      refine zni h (fun x4_11 ex4_11 h => ?_)
      refine lv_istore (lv' := [(4, .int x4_11), (0, .ref (g.2.2 0)), (1, .int x1), (2, .int x2), (3, .int x3)]) hx hb dX11_laysMost_50 hl (by decide) rfl (fun ls hl => ?_)
      refine lv_iload_n hx hb dX11_laysMost_52 rfl (lv_at hl 3 rfl) ?_
      refine lv_aload_n hx hb dX11_laysMost_53 rfl (lv_at hl 1 rfl) ?_
      obtain ⟨u_12, qu_12, h⟩ := zbn_some h
      refine zciR (zrunV E hZ (by decide) (re_0 _) rfl rfl v_X11_duties kw_1580 (c_X11_duties l g M   qu_12 _) rfl hl.1 rfl (Nat.le_of_ble_eq_true rfl) ⟨by decide, by decide⟩ ⟨by decide, by decide⟩ dX11_laysMost_54) hZ (fun H locs hZ => ?_)
      refine zic_eq (tgt := 69) h E dX11_laysMost_57 (by decide) (fun c_21 h => ?_) (fun c_21 h => ?_)
      · exact lb_X11_laysMost_69 g  E hret M x1 x2 x3 (fun M x2 x3 => b_X11_laysMost_40  x1 n M x2 x3) ih H locs ls h hZ (lv_sub hl [1, 2, 3, 4] rfl)
      · refine lv_iload hx hb dX11_laysMost_60 (lv_at hl 0 rfl) ?_
        refine lv_aload_n hx hb dX11_laysMost_62 rfl (lv_at hl 1 rfl) ?_
        obtain ⟨u_13, qu_13, h⟩ := zbn_some h
        refine zciR (zrunV E hZ (by decide) (re_0 _) rfl rfl v_X11_duties kw_1580 (c_X11_duties l g M   qu_13 _) rfl hl.1 rfl (Nat.le_of_ble_eq_true rfl) ⟨by decide, by decide⟩ ⟨by decide, by decide⟩ dX11_laysMost_63) hZ (fun H locs hZ => ?_)
        refine zic_ne (tgt := 102) h E dX11_laysMost_66 (by decide) (fun c_20 h => ?_) (fun c_20 h => ?_)
        · refine lv_aload_n hx hb dX11_laysMost_102 rfl (lv_at hl 1 rfl) ?_
          refine lv_iload_n hx hb dX11_laysMost_103 rfl (lv_at hl 2 rfl) ?_
          refine lv_iload_n hx hb dX11_laysMost_104 rfl (lv_at hl 3 rfl) ?_
          refine lv_iload hx hb dX11_laysMost_105 (lv_at hl 0 rfl) ?_
          refine lv_iload_n hx hb dX11_laysMost_107 rfl (lv_at hl 4 rfl) ?_
          obtain ⟨u_14, qu_14, h⟩ := zbn_some h
          refine zciS (zrunV E hZ (by decide) (re_0 _) rfl rfl v_X11_canBe kw_1974 (c_X11_canBe l g M  x1 x2 x4_11 x3 qu_14 _) rfl hl.1 rfl (Nat.le_of_ble_eq_true rfl) ⟨by decide, by decide⟩ ⟨by decide, by decide⟩ dX11_laysMost_108) hZ (fun H locs hZ => ?_)
          refine zif_eq (tgt := 183) h E dX11_laysMost_111 (by decide) (fun c_19 h => ?_) (fun c_19 h => ?_)
          · refine lv_aload_n hx hb dX11_laysMost_183 rfl (lv_at hl 1 rfl) ?_
            refine zg (v := .ref (g.2.2 11)) E hZ (by decide) (re_0 _) kc_X11 20 (by decide) kw_1388 rfl rfl dX11_laysMost_184 ?_
            refine lv_iload_n hx hb dX11_laysMost_187 rfl (lv_at hl 3 rfl) ?_
            refine lv_dup2_11 hx hb dX11_laysMost_188 rfl rfl ?_
            refine zia h E hZ (by decide) re_11 dX11_laysMost_189 (fun h => ?_)
            refine lv_iconst (v := 1) hx hb dX11_laysMost_190 (by decide) ?_
            refine lv_iadd hx hb dX11_laysMost_191 ?_
            refine zis h E hZ (by decide) re_11 dX11_laysMost_192 (fun M_15 H locs eM_15 h hZ => ?_)
            exact lb_X11_laysMost_193 g  E hret M_15 x1 x2 x3 (fun M x2 x3 => b_X11_laysMost_40  x1 n M x2 x3) ih H locs ls h hZ (lv_sub hl [1, 2, 3, 4] rfl)
          · refine lv_iload_n hx hb dX11_laysMost_114 rfl (lv_at hl 4 rfl) ?_
            refine lv_iconst (v := 1) hx hb dX11_laysMost_115 (by decide) ?_
            refine lv_iload hx hb dX11_laysMost_116 (lv_at hl 0 rfl) ?_
            refine lv_ishl hx hb dX11_laysMost_118 ?_
            refine lv_ior hx hb dX11_laysMost_119 ?_
            refine zni h (fun x3_16 ex3_16 h => ?_)
            refine lv_istore_n (lv' := [(3, .int x3_16), (4, .int x4_11), (0, .ref (g.2.2 0)), (1, .int x1), (2, .int x2)]) hx hb dX11_laysMost_120 rfl hl (by decide) rfl (fun ls hl => ?_)
            obtain ⟨x2_17, ex2_17, h⟩ := znm_ex h
            refine lv_iinc (v := x2_17) (lv' := [(2, .int x2_17), (3, .int x3_16), (4, .int x4_11), (0, .ref (g.2.2 0)), (1, .int x1)]) hx hb dX11_laysMost_121 hl (k := 4) rfl (by rw [ex2_17]; rfl) (by decide) rfl (fun ls hl => ?_)
            refine lv_aload_n hx hb dX11_laysMost_124 rfl (lv_at hl 3 rfl) ?_
            refine zg (v := .ref (g.2.2 11)) E hZ (by decide) (re_0 _) kc_X11 20 (by decide) kw_1388 rfl rfl dX11_laysMost_125 ?_
            refine lv_iload_n hx hb dX11_laysMost_128 rfl (lv_at hl 0 rfl) ?_
            refine lv_iconst (v := 0) hx hb dX11_laysMost_129 (by decide) ?_
            refine zis h E hZ (by decide) re_11 dX11_laysMost_130 (fun M_18 H locs eM_18 h hZ => ?_)
            refine lv_iconst (v := 0) hx hb dX11_laysMost_131 (by decide) ?_
            refine lv_istore (lv' := [(5, .int 0), (2, .int x2_17), (3, .int x3_16), (4, .int x4_11), (0, .ref (g.2.2 0)), (1, .int x1)]) hx hb dX11_laysMost_132 hl (by decide) rfl (fun ls hl => ?_)
            exact lb_X11_laysMost_134 g  E hret x1 x2_17 x3_16 (fun M x2 x3 => b_X11_laysMost_40  x1 n M x2 x3) ih 20000 M_18 0 H locs ls h hZ (lv_sub hl [4, 5, 1, 2, 0] rfl)
        · exact lb_X11_laysMost_69 g  E hret M x1 x2 x3 (fun M x2 x3 => b_X11_laysMost_40  x1 n M x2 x3) ih H locs ls h hZ (lv_sub hl [1, 2, 3, 4] rfl)
def f_X11_laysMost (M : zM) (x1 : Int32) : Option (zM) :=
  znm (zu M 0 24 0) (fun M_23 => zbn (f_X11_of M_23 x1 0) (fun u_24 => zck (zin 0 7) (znm (zu M_23 12 (0 : Int32).toNatClampNeg u_24) (fun M_25 => zck (zin 4 2030) (zck (zin 0 7) (znm (zu M_25 13 (0 : Int32).toNatClampNeg (M_25 1 (4 : Int32).toNatClampNeg)) (fun M_26 => zck (zin 0 7) (znm (zu M_26 11 (0 : Int32).toNatClampNeg 0) (fun M_27 => b_X11_laysMost_40  x1 20000 M_27 0 0)))))))))
set_option maxRecDepth 100000 in
set_option maxHeartbeats 4000000 in
theorem w_X11_laysMost (g : zG)  {r : zM} (E : zX g p m c cX11_laysMost 6 s args (zWs yX11_laysMost cX11_laysMost 6 none) RX11) (hret : zRv g rE 15 p l e (zrm 11 0 0) s m args below meth c 0 0 Q cX11_laysMost (fun M1 => M1 = r)) (M : zM) (x1 : Int32) (H : Heap) (locs : List Loc) (ls : Array Slot) (h : f_X11_laysMost M x1 = some r) (hZ : zS g rE 15 s H locs M) (hl : lv_has ls 6 [(0, .ref (g.2.2 0)), (1, .int x1)]) : W p l e (zrm 11 0 0) s m args below meth c H locs 0 0 Q (F0 m 0 ls []) := by
  have hx := E.1.1
  have hb := E.1.2.1
  unfold f_X11_laysMost at h
  refine lv_aload_n hx hb dX11_laysMost_0 rfl (lv_at hl 0 rfl) ?_
  refine lv_iconst (v := 0) hx hb dX11_laysMost_1 (by decide) ?_
  refine zp h E hZ (by decide) (re_0 _) ((re_0 _).trans (congrArg (fun z => Sum.inr (10, z)) (fs_X11_24 g _ _ _))) kc_X11 (by decide) kw_1392 rfl rfl rfl (Nat.le_of_ble_eq_true rfl) dX11_laysMost_2 (fun M_23 H locs eM_23 h hZ => ?_)
  refine lv_iconst (v := 0) hx hb dX11_laysMost_5 (by decide) ?_
  refine lv_istore_n (lv' := [(2, .int 0), (0, .ref (g.2.2 0)), (1, .int x1)]) hx hb dX11_laysMost_6 rfl hl (by decide) rfl (fun ls hl => ?_)
  refine lv_iconst (v := 0) hx hb dX11_laysMost_7 (by decide) ?_
  refine lv_istore_n (lv' := [(3, .int 0), (2, .int 0), (0, .ref (g.2.2 0)), (1, .int x1)]) hx hb dX11_laysMost_8 rfl hl (by decide) rfl (fun ls hl => ?_)
  refine lv_aload_n hx hb dX11_laysMost_9 rfl (lv_at hl 2 rfl) ?_
  refine zg (v := .ref (g.2.2 12)) E hZ (by decide) (re_0 _) kc_X11 21 (by decide) kw_1389 rfl rfl dX11_laysMost_10 ?_
  refine lv_iconst (v := 0) hx hb dX11_laysMost_13 (by decide) ?_
  refine lv_aload_n hx hb dX11_laysMost_14 rfl (lv_at hl 2 rfl) ?_
  refine lv_iload_n hx hb dX11_laysMost_15 rfl (lv_at hl 3 rfl) ?_
  refine lv_iconst (v := 0) hx hb dX11_laysMost_16 (by decide) ?_
  obtain ⟨u_24, qu_24, h⟩ := zbn_some h
  refine zciR (zrunV E hZ (by decide) (re_0 _) rfl rfl v_X11_of kw_1765 (c_X11_of l g M_23  x1 0 qu_24 _) rfl hl.1 rfl (Nat.le_of_ble_eq_true rfl) ⟨by decide, by decide⟩ ⟨by decide, by decide⟩ dX11_laysMost_17) hZ (fun H locs hZ => ?_)
  refine zis h E hZ (by decide) re_12 dX11_laysMost_20 (fun M_25 H locs eM_25 h hZ => ?_)
  refine lv_aload_n hx hb dX11_laysMost_21 rfl (lv_at hl 2 rfl) ?_
  refine zg (v := .ref (g.2.2 13)) E hZ (by decide) (re_0 _) kc_X11 22 (by decide) kw_1390 rfl rfl dX11_laysMost_22 ?_
  refine lv_iconst (v := 0) hx hb dX11_laysMost_25 (by decide) ?_
  refine lv_aload_n hx hb dX11_laysMost_26 rfl (lv_at hl 2 rfl) ?_
  refine zg (v := .ref (g.2.2 1)) E hZ (by decide) (re_0 _) kc_X11 1 (by decide) kw_1369 rfl rfl dX11_laysMost_27 ?_
  refine lv_iconst (v := 4) hx hb dX11_laysMost_30 (by decide) ?_
  refine zia h E hZ (by decide) re_1 dX11_laysMost_31 (fun h => ?_)
  refine zis h E hZ (by decide) re_13 dX11_laysMost_32 (fun M_26 H locs eM_26 h hZ => ?_)
  refine lv_aload_n hx hb dX11_laysMost_33 rfl (lv_at hl 2 rfl) ?_
  refine zg (v := .ref (g.2.2 11)) E hZ (by decide) (re_0 _) kc_X11 20 (by decide) kw_1388 rfl rfl dX11_laysMost_34 ?_
  refine lv_iconst (v := 0) hx hb dX11_laysMost_37 (by decide) ?_
  refine lv_iconst (v := 0) hx hb dX11_laysMost_38 (by decide) ?_
  refine zis h E hZ (by decide) re_11 dX11_laysMost_39 (fun M_27 H locs eM_27 h hZ => ?_)
  exact lb_X11_laysMost_40 g  E hret x1  20000 M_27 0 0 H locs ls h hZ (lv_sub hl [2, 3, 1, 0] rfl)
theorem c_X11_laysMost (l : Launch) (g : zG) (M : zM)  (x1 : Int32) {r : zM} (h : f_X11_laysMost M x1 = some r) : zMv l g rE 15 yX11_laysMost (zWs yX11_laysMost cX11_laysMost 6 none) 11 [.ref (g.2.2 0), .int x1] M (fun M1 => M1 = r) :=
  zMv_of (by decide +kernel) (Nat.le_of_ble_eq_true rfl) (fun p e s m args below meth c Q ls E hret hZ hl => w_X11_laysMost g  E hret M x1 _ _ ls h hZ hl)
theorem v_X11_laysMost : zYV yX11_laysMost cX11_laysMost 6 none 1 := ⟨kw_1973, kw_15, kw_1972, kp_110, by decide +kernel⟩

def f_X11_most (M : zM) (x1 : Int32) (x2 : Int32) : Option (Int32 × zM) :=
  znm (zu M 0 0 0) (fun M_1 => zbn (f_X11_noMonk M_1 x1) (fun u_2 => zbn (f_X11_throwsIf M_1 u_2 1) (fun u_3 => if u_3.1 = 0 then (zbn (f_X11_isDrowned u_3.2 x1) (fun u_4 => if u_4 = 0 then (zbn (f_X11_laysMost u_3.2 x1) (fun u_5 => if x2 = ((-1)) then (some (u_5 0 24, u_5)) else (zbn (f_X11_in u_5 x2 0 ((u_5 0 24) - 1)) (fun u_6 => if u_6 = 0 then (some ((-1), u_5)) else (zck (zin x2 6) (some (u_5 14 (x2 : Int32).toNatClampNeg, u_5))))))) else (if x2 = ((-1)) then (some (0, u_3.2)) else (some ((-1), u_3.2))))) else (some (0, u_3.2)))))
set_option maxRecDepth 100000 in
set_option maxHeartbeats 4000000 in
theorem w_X11_most (g : zG)  {r : Int32 × zM} (E : zX g p m c cX11_most 3 s args (zWs yX11_most cX11_most 3 (some .int)) RX11) (hret : zRi g rE 15 p l e (zrm 12 0 0) s m args below meth c 0 0 Q cX11_most .int (fun v M1 => r = (v, M1))) (M : zM) (x1 : Int32) (x2 : Int32) (H : Heap) (locs : List Loc) (ls : Array Slot) (h : f_X11_most M x1 x2 = some r) (hZ : zS g rE 15 s H locs M) (hl : lv_has ls 3 [(0, .ref (g.2.2 0)), (1, .int x1), (2, .int x2)]) : W p l e (zrm 12 0 0) s m args below meth c H locs 0 0 Q (F0 m 0 ls []) := by
  have hx := E.1.1
  have hb := E.1.2.1
  unfold f_X11_most at h
  refine lv_aload_n hx hb dX11_most_0 rfl (lv_at hl 0 rfl) ?_
  refine lv_iconst (v := 0) hx hb dX11_most_1 (by decide) ?_
  refine zp h E hZ (by decide) (re_0 _) ((re_0 _).trans (congrArg (fun z => Sum.inr (10, z)) (fs_X11_0 g _ _ _))) kc_X11 (by decide) kw_1368 rfl rfl rfl (Nat.le_of_ble_eq_true rfl) dX11_most_2 (fun M_1 H locs eM_1 h hZ => ?_)
  refine lv_aload_n hx hb dX11_most_5 rfl (lv_at hl 0 rfl) ?_
  refine lv_aload_n hx hb dX11_most_6 rfl (lv_at hl 0 rfl) ?_
  refine lv_iload_n hx hb dX11_most_7 rfl (lv_at hl 1 rfl) ?_
  obtain ⟨u_2, qu_2, h⟩ := zbn_some h
  refine zciR (zrunV E hZ (by decide) (re_0 _) rfl rfl v_X11_noMonk kw_1745 (c_X11_noMonk l g M_1  x1 qu_2 _) rfl hl.1 rfl (Nat.le_of_ble_eq_true rfl) ⟨by decide, by decide⟩ ⟨by decide, by decide⟩ dX11_most_8) hZ (fun H locs hZ => ?_)
  refine lv_iconst (v := 1) hx hb dX11_most_11 (by decide) ?_
  obtain ⟨u_3, qu_3, h⟩ := zbn_some h
  refine zciS (zrunV E hZ (by decide) (re_0 _) rfl rfl v_X11_throwsIf kw_1651 (c_X11_throwsIf l g M_1  u_2 1 qu_3 _) rfl hl.1 rfl (Nat.le_of_ble_eq_true rfl) ⟨by decide, by decide⟩ ⟨by decide, by decide⟩ dX11_most_12) hZ (fun H locs hZ => ?_)
  refine zif_eq (tgt := 20) h E dX11_most_15 (by decide) (fun c_11 h => ?_) (fun c_11 h => ?_)
  · refine lv_aload_n hx hb dX11_most_20 rfl (lv_at hl 0 rfl) ?_
    refine lv_iload_n hx hb dX11_most_21 rfl (lv_at hl 1 rfl) ?_
    obtain ⟨u_4, qu_4, h⟩ := zbn_some h
    refine zciR (zrunV E hZ (by decide) (re_0 _) rfl rfl v_X11_isDrowned kw_1797 (c_X11_isDrowned l g u_3.2  x1 qu_4 _) rfl hl.1 rfl (Nat.le_of_ble_eq_true rfl) ⟨by decide, by decide⟩ ⟨by decide, by decide⟩ dX11_most_22) hZ (fun H locs hZ => ?_)
    refine zif_eq (tgt := 39) h E dX11_most_25 (by decide) (fun c_10 h => ?_) (fun c_10 h => ?_)
    · refine lv_aload_n hx hb dX11_most_39 rfl (lv_at hl 0 rfl) ?_
      refine lv_iload_n hx hb dX11_most_40 rfl (lv_at hl 1 rfl) ?_
      obtain ⟨u_5, qu_5, h⟩ := zbn_some h
      refine zcvS (zrunV E hZ (by decide) (re_0 _) rfl rfl v_X11_laysMost kw_1970 (c_X11_laysMost l g u_3.2  x1 qu_5 _) rfl hl.1 rfl (Nat.le_of_ble_eq_true rfl) ⟨by decide, by decide⟩ ⟨by decide, by decide⟩ dX11_most_41) hZ (fun H locs hZ => ?_)
      refine lv_iload_n hx hb dX11_most_44 rfl (lv_at hl 2 rfl) ?_
      refine lv_iconst (v := (-1)) hx hb dX11_most_45 (by decide) ?_
      refine zic_ne (tgt := 56) h E dX11_most_46 (by decide) (fun c_8 h => ?_) (fun c_8 h => ?_)
      · refine lv_iload_n hx hb dX11_most_56 rfl (lv_at hl 2 rfl) ?_
        refine lv_iconst (v := 0) hx hb dX11_most_57 (by decide) ?_
        refine lv_aload_n hx hb dX11_most_58 rfl (lv_at hl 0 rfl) ?_
        refine zg (v := .int (u_5 0 24)) E hZ (by decide) (re_0 _) kc_X11 24 (by decide) kw_1392 rfl rfl dX11_most_59 ?_
        refine lv_iconst (v := 1) hx hb dX11_most_62 (by decide) ?_
        refine lv_isub hx hb dX11_most_63 ?_
        obtain ⟨u_6, qu_6, h⟩ := zbn_some h
        refine zciR (zrunS E hZ v_X11_in kw_1666 (c_X11_in l g u_5  x2 0 ((u_5 0 24) - 1) qu_6 _) rfl hl.1 rfl (Nat.le_of_ble_eq_true rfl) ⟨by decide, by decide⟩ ⟨by decide, by decide⟩ dX11_most_64) hZ (fun H locs hZ => ?_)
        refine zif_eq (tgt := 79) h E dX11_most_67 (by decide) (fun c_7 h => ?_) (fun c_7 h => ?_)
        · refine lv_iconst (v := (-1)) hx hb dX11_most_79 (by decide) ?_
          exact hret _ _ _ _ _ _ (Option.some.inj h).symm rfl hZ dX11_most_80
        · refine lv_aload_n hx hb dX11_most_70 rfl (lv_at hl 0 rfl) ?_
          refine zg (v := .ref (g.2.2 14)) E hZ (by decide) (re_0 _) kc_X11 23 (by decide) kw_1391 rfl rfl dX11_most_71 ?_
          refine lv_iload_n hx hb dX11_most_74 rfl (lv_at hl 2 rfl) ?_
          refine zia h E hZ (by decide) re_14 dX11_most_75 (fun h => ?_)
          refine lv_goto (tgt := 80) hx hb dX11_most_76 (by decide) ?_
          exact hret _ _ _ _ _ _ (Option.some.inj h).symm rfl hZ dX11_most_80
      · refine lv_aload_n hx hb dX11_most_49 rfl (lv_at hl 0 rfl) ?_
        refine zg (v := .int (u_5 0 24)) E hZ (by decide) (re_0 _) kc_X11 24 (by decide) kw_1392 rfl rfl dX11_most_50 ?_
        refine lv_goto (tgt := 80) hx hb dX11_most_53 (by decide) ?_
        exact hret _ _ _ _ _ _ (Option.some.inj h).symm rfl hZ dX11_most_80
    · refine lv_iload_n hx hb dX11_most_28 rfl (lv_at hl 2 rfl) ?_
      refine lv_iconst (v := (-1)) hx hb dX11_most_29 (by decide) ?_
      refine zic_ne (tgt := 37) h E dX11_most_30 (by decide) (fun c_9 h => ?_) (fun c_9 h => ?_)
      · refine lv_iconst (v := (-1)) hx hb dX11_most_37 (by decide) ?_
        exact hret _ _ _ _ _ _ (Option.some.inj h).symm rfl hZ dX11_most_38
      · refine lv_iconst (v := 0) hx hb dX11_most_33 (by decide) ?_
        refine lv_goto (tgt := 38) hx hb dX11_most_34 (by decide) ?_
        exact hret _ _ _ _ _ _ (Option.some.inj h).symm rfl hZ dX11_most_38
  · refine lv_iconst (v := 0) hx hb dX11_most_18 (by decide) ?_
    exact hret _ _ _ _ _ _ (Option.some.inj h).symm rfl hZ dX11_most_19
theorem c_X11_most (l : Launch) (g : zG) (M : zM)  (x1 : Int32) (x2 : Int32) {r : Int32 × zM} (h : f_X11_most M x1 x2 = some r) : zMi l g rE 15 yX11_most (zWs yX11_most cX11_most 3 (some .int)) 12 [.ref (g.2.2 0), .int x1, .int x2] M (fun v M1 => r = (v, M1)) :=
  zMi_of (by decide +kernel) (Nat.le_of_ble_eq_true rfl) (fun p e s m args below meth c Q ls E hret hZ hl => w_X11_most g  E hret M x1 x2 _ _ ls h hZ hl)
theorem v_X11_most : zYV yX11_most cX11_most 3 (some .int) 2 := ⟨kw_1969, kw_15, kw_1967, kw_1968, by decide +kernel⟩

def b_X11_isTold_75 (K26 : Int32 → Int32 → Option (Int32)) (M : zM) (x2 : Int32) (t0 : Int32) : Option (Int32) :=
  znm (x2 + 2) (fun x2_1 => K26 t0 x2_1)
set_option maxRecDepth 100000 in
set_option maxHeartbeats 4000000 in
theorem lb_X11_isTold_75 (g : zG)  {r : Int32} {M0 : zM} (E : zX g p m c cX11_isTold 3 s args (zWs yX11_isTold cX11_isTold 3 (some .boolean)) RX11) (hret : zRi g rE 15 p l e (zrm 3 0 0) s m args below meth c 0 0 Q cX11_isTold .boolean (fun v M1 => v = r ∧ M1 = M0)) (M : zM) (x2 : Int32) (t0 : Int32) (hM : M = M0) (K26 : Int32 → Int32 → Option (Int32)) (hK26 : ∀ (x1 : Int32) (x2 : Int32) (H : Heap) (locs : List Loc) (ls : Array Slot), K26 x1 x2 = some r → zS g rE 15 s H locs M → lv_has ls 3 [(0, .ref (g.2.2 0)), (1, .int x1), (2, .int x2)] → W p l e (zrm 3 0 0) s m args below meth c H locs 0 0 Q (F0 m 26 ls [])) (H : Heap) (locs : List Loc) (ls : Array Slot) (h : b_X11_isTold_75 K26 M x2 t0 = some r) (hZ : zS g rE 15 s H locs M) (hl : lv_has ls 3 [(0, .ref (g.2.2 0)), (2, .int x2)]) : W p l e (zrm 3 0 0) s m args below meth c H locs 0 0 Q (F0 m 75 ls [.int t0]) := by
  have hx := E.1.1
  have hb := E.1.2.1
  unfold b_X11_isTold_75 at h
  refine lv_istore_n (lv' := [(1, .int t0), (0, .ref (g.2.2 0)), (2, .int x2)]) hx hb dX11_isTold_75 rfl hl (by decide) rfl (fun ls hl => ?_)
  obtain ⟨x2_1, ex2_1, h⟩ := znm_ex h
  refine lv_iinc (v := x2_1) (lv' := [(2, .int x2_1), (1, .int t0), (0, .ref (g.2.2 0))]) hx hb dX11_isTold_76 hl (k := 2) rfl (by rw [ex2_1]; rfl) (by decide) rfl (fun ls hl => ?_)
  refine lv_goto (tgt := 26) hx hb dX11_isTold_79 (by decide) ?_
  exact hK26 t0 x2_1 H locs ls h hZ (lv_sub hl [2, 1, 0] rfl)
def b_X11_isTold_74 (K26 : Int32 → Int32 → Option (Int32)) (M : zM) (x2 : Int32) : Option (Int32) :=
  b_X11_isTold_75 K26 M x2 0
set_option maxRecDepth 100000 in
set_option maxHeartbeats 4000000 in
theorem lb_X11_isTold_74 (g : zG)  {r : Int32} {M0 : zM} (E : zX g p m c cX11_isTold 3 s args (zWs yX11_isTold cX11_isTold 3 (some .boolean)) RX11) (hret : zRi g rE 15 p l e (zrm 3 0 0) s m args below meth c 0 0 Q cX11_isTold .boolean (fun v M1 => v = r ∧ M1 = M0)) (M : zM) (x2 : Int32) (hM : M = M0) (K26 : Int32 → Int32 → Option (Int32)) (hK26 : ∀ (x1 : Int32) (x2 : Int32) (H : Heap) (locs : List Loc) (ls : Array Slot), K26 x1 x2 = some r → zS g rE 15 s H locs M → lv_has ls 3 [(0, .ref (g.2.2 0)), (1, .int x1), (2, .int x2)] → W p l e (zrm 3 0 0) s m args below meth c H locs 0 0 Q (F0 m 26 ls [])) (H : Heap) (locs : List Loc) (ls : Array Slot) (h : b_X11_isTold_74 K26 M x2 = some r) (hZ : zS g rE 15 s H locs M) (hl : lv_has ls 3 [(0, .ref (g.2.2 0)), (2, .int x2)]) : W p l e (zrm 3 0 0) s m args below meth c H locs 0 0 Q (F0 m 74 ls []) := by
  have hx := E.1.1
  have hb := E.1.2.1
  unfold b_X11_isTold_74 at h
  refine lv_iconst (v := 0) hx hb dX11_isTold_74 (by decide) ?_
  exact lb_X11_isTold_75 g  E hret M x2 0 hM K26 hK26 H locs ls h hZ (lv_sub hl [0, 1] rfl)
def b_X11_isTold_26  (M : zM) : Nat → Int32 → Int32 → Option (Int32)
  | 0, _, _ => none
  | n + 1, x1, x2 =>
    if (M 0 11) ≤ x2 then (zck (zbl x1) (some x1)) else (if x1 = 0 then (zck (zbl x1) (some x1)) else (zck (zin x2 400) (zbn (f_X11_in M (M 6 (x2 : Int32).toNatClampNeg) 0 11) (fun u_2 => if u_2 = 0 then (b_X11_isTold_74 (fun x1 x2 => b_X11_isTold_26  M n x1 x2) M x2) else (zck (zin (x2 + 1) 400) (zbn (f_X11_in M (M 6 (x2 + 1 : Int32).toNatClampNeg) 0 12) (fun u_3 => if u_3 = 0 then (b_X11_isTold_74 (fun x1 x2 => b_X11_isTold_26  M n x1 x2) M x2) else (b_X11_isTold_75 (fun x1 x2 => b_X11_isTold_26  M n x1 x2) M x2 1))))))))
set_option maxRecDepth 100000 in
set_option maxHeartbeats 4000000 in
theorem lb_X11_isTold_26 (g : zG)  {r : Int32} {M0 : zM} (E : zX g p m c cX11_isTold 3 s args (zWs yX11_isTold cX11_isTold 3 (some .boolean)) RX11) (hret : zRi g rE 15 p l e (zrm 3 0 0) s m args below meth c 0 0 Q cX11_isTold .boolean (fun v M1 => v = r ∧ M1 = M0)) (M : zM) (hM : M = M0)  : ∀ (n : Nat) (x1 : Int32) (x2 : Int32) (H : Heap) (locs : List Loc) (ls : Array Slot), b_X11_isTold_26  M n x1 x2 = some r → zS g rE 15 s H locs M → lv_has ls 3 [(0, .ref (g.2.2 0)), (1, .int x1), (2, .int x2)] → W p l e (zrm 3 0 0) s m args below meth c H locs 0 0 Q (F0 m 26 ls []) := by
  have hx := E.1.1
  have hb := E.1.2.1
  intro n
  induction n with
  | zero => intro x1 x2 H locs ls h hZ hl; cases h
  | succ n ih =>
    intro x1 x2 H locs ls h hZ hl
    rw [b_X11_isTold_26] at h
    refine lv_iload_n hx hb dX11_isTold_26 rfl (lv_at hl 2 rfl) ?_
    refine lv_aload_n hx hb dX11_isTold_27 rfl (lv_at hl 0 rfl) ?_
    refine zg (v := .int (M 0 11)) E hZ (by decide) (re_0 _) kc_X11 11 (by decide) kw_1379 rfl rfl dX11_isTold_28 ?_
    refine zic_ge (tgt := 82) h E dX11_isTold_31 (by decide) (fun c_7 h => ?_) (fun c_7 h => ?_)
    · refine lv_iload_n hx hb dX11_isTold_82 rfl (lv_at hl 1 rfl) ?_
      obtain ⟨hbl, h⟩ := zck_some h
      exact hret _ _ _ _ _ _ ⟨Option.some.inj h, hM⟩ (zbl_n hbl) hZ dX11_isTold_83
    · refine lv_iload_n hx hb dX11_isTold_34 rfl (lv_at hl 1 rfl) ?_
      refine zif_eq (tgt := 82) h E dX11_isTold_35 (by decide) (fun c_6 h => ?_) (fun c_6 h => ?_)
      · refine lv_iload_n hx hb dX11_isTold_82 rfl (lv_at hl 1 rfl) ?_
        obtain ⟨hbl, h⟩ := zck_some h
        exact hret _ _ _ _ _ _ ⟨Option.some.inj h, hM⟩ (zbl_n hbl) hZ dX11_isTold_83
      · refine lv_aload_n hx hb dX11_isTold_38 rfl (lv_at hl 0 rfl) ?_
        refine zg (v := .ref (g.2.2 6)) E hZ (by decide) (re_0 _) kc_X11 8 (by decide) kw_1376 rfl rfl dX11_isTold_39 ?_
        refine lv_iload_n hx hb dX11_isTold_42 rfl (lv_at hl 2 rfl) ?_
        refine zba h E hZ (by decide) re_6 dX11_isTold_43 (fun h => ?_)
        refine lv_iconst (v := 0) hx hb dX11_isTold_44 (by decide) ?_
        refine lv_bipush (v := 11) hx hb dX11_isTold_45 (by decide) ?_
        obtain ⟨u_2, qu_2, h⟩ := zbn_some h
        refine zciR (zrunS E hZ v_X11_in kw_1666 (c_X11_in l g M  (M 6 (x2 : Int32).toNatClampNeg) 0 11 qu_2 _) rfl hl.1 rfl (Nat.le_of_ble_eq_true rfl) ⟨by decide, by decide⟩ ⟨by decide, by decide⟩ dX11_isTold_47) hZ (fun H locs hZ => ?_)
        refine zif_eq (tgt := 74) h E dX11_isTold_50 (by decide) (fun c_5 h => ?_) (fun c_5 h => ?_)
        · exact lb_X11_isTold_74 g  E hret M x2 hM (fun x1 x2 => b_X11_isTold_26  M n x1 x2) ih H locs ls h hZ (lv_sub hl [0, 2] rfl)
        · refine lv_aload_n hx hb dX11_isTold_53 rfl (lv_at hl 0 rfl) ?_
          refine zg (v := .ref (g.2.2 6)) E hZ (by decide) (re_0 _) kc_X11 8 (by decide) kw_1376 rfl rfl dX11_isTold_54 ?_
          refine lv_iload_n hx hb dX11_isTold_57 rfl (lv_at hl 2 rfl) ?_
          refine lv_iconst (v := 1) hx hb dX11_isTold_58 (by decide) ?_
          refine lv_iadd hx hb dX11_isTold_59 ?_
          refine zba h E hZ (by decide) re_6 dX11_isTold_60 (fun h => ?_)
          refine lv_iconst (v := 0) hx hb dX11_isTold_61 (by decide) ?_
          refine lv_bipush (v := 12) hx hb dX11_isTold_62 (by decide) ?_
          obtain ⟨u_3, qu_3, h⟩ := zbn_some h
          refine zciR (zrunS E hZ v_X11_in kw_1666 (c_X11_in l g M  (M 6 (x2 + 1 : Int32).toNatClampNeg) 0 12 qu_3 _) rfl hl.1 rfl (Nat.le_of_ble_eq_true rfl) ⟨by decide, by decide⟩ ⟨by decide, by decide⟩ dX11_isTold_64) hZ (fun H locs hZ => ?_)
          refine zif_eq (tgt := 74) h E dX11_isTold_67 (by decide) (fun c_4 h => ?_) (fun c_4 h => ?_)
          · exact lb_X11_isTold_74 g  E hret M x2 hM (fun x1 x2 => b_X11_isTold_26  M n x1 x2) ih H locs ls h hZ (lv_sub hl [0, 2] rfl)
          · refine lv_iconst (v := 1) hx hb dX11_isTold_70 (by decide) ?_
            refine lv_goto (tgt := 75) hx hb dX11_isTold_71 (by decide) ?_
            exact lb_X11_isTold_75 g  E hret M x2 1 hM (fun x1 x2 => b_X11_isTold_26  M n x1 x2) ih H locs ls h hZ (lv_sub hl [0, 2] rfl)
def b_X11_isTold_23  (M : zM) (t0 : Int32) : Option (Int32) :=
  b_X11_isTold_26  M 6000 t0 0
set_option maxRecDepth 100000 in
set_option maxHeartbeats 4000000 in
theorem lb_X11_isTold_23 (g : zG)  {r : Int32} {M0 : zM} (E : zX g p m c cX11_isTold 3 s args (zWs yX11_isTold cX11_isTold 3 (some .boolean)) RX11) (hret : zRi g rE 15 p l e (zrm 3 0 0) s m args below meth c 0 0 Q cX11_isTold .boolean (fun v M1 => v = r ∧ M1 = M0)) (M : zM) (t0 : Int32) (hM : M = M0)  (H : Heap) (locs : List Loc) (ls : Array Slot) (h : b_X11_isTold_23  M t0 = some r) (hZ : zS g rE 15 s H locs M) (hl : lv_has ls 3 [(0, .ref (g.2.2 0))]) : W p l e (zrm 3 0 0) s m args below meth c H locs 0 0 Q (F0 m 23 ls [.int t0]) := by
  have hx := E.1.1
  have hb := E.1.2.1
  unfold b_X11_isTold_23 at h
  refine lv_istore_n (lv' := [(1, .int t0), (0, .ref (g.2.2 0))]) hx hb dX11_isTold_23 rfl hl (by decide) rfl (fun ls hl => ?_)
  refine lv_iconst (v := 0) hx hb dX11_isTold_24 (by decide) ?_
  refine lv_istore_n (lv' := [(2, .int 0), (1, .int t0), (0, .ref (g.2.2 0))]) hx hb dX11_isTold_25 rfl hl (by decide) rfl (fun ls hl => ?_)
  exact lb_X11_isTold_26 g  E hret M hM  6000 t0 0 H locs ls h hZ (lv_sub hl [2, 1, 0] rfl)
def b_X11_isTold_22  (M : zM) : Option (Int32) :=
  b_X11_isTold_23  M 0
set_option maxRecDepth 100000 in
set_option maxHeartbeats 4000000 in
theorem lb_X11_isTold_22 (g : zG)  {r : Int32} {M0 : zM} (E : zX g p m c cX11_isTold 3 s args (zWs yX11_isTold cX11_isTold 3 (some .boolean)) RX11) (hret : zRi g rE 15 p l e (zrm 3 0 0) s m args below meth c 0 0 Q cX11_isTold .boolean (fun v M1 => v = r ∧ M1 = M0)) (M : zM) (hM : M = M0)  (H : Heap) (locs : List Loc) (ls : Array Slot) (h : b_X11_isTold_22  M = some r) (hZ : zS g rE 15 s H locs M) (hl : lv_has ls 3 [(0, .ref (g.2.2 0))]) : W p l e (zrm 3 0 0) s m args below meth c H locs 0 0 Q (F0 m 22 ls []) := by
  have hx := E.1.1
  have hb := E.1.2.1
  unfold b_X11_isTold_22 at h
  refine lv_iconst (v := 0) hx hb dX11_isTold_22 (by decide) ?_
  exact lb_X11_isTold_23 g  E hret M 0 hM  H locs ls h hZ (lv_sub hl [0] rfl)
def f_X11_isTold (M : zM)  : Option (Int32) :=
  zck (decide (¬ (2 : Int32) = 0)) (if ((M 0 11) - (M 0 11) / 2 * 2) = 0 then (if 40 < (M 0 11) then (b_X11_isTold_22  M) else (b_X11_isTold_23  M 1)) else (b_X11_isTold_22  M))
set_option maxRecDepth 100000 in
set_option maxHeartbeats 4000000 in
theorem w_X11_isTold (g : zG)  {r : Int32} {M0 : zM} (E : zX g p m c cX11_isTold 3 s args (zWs yX11_isTold cX11_isTold 3 (some .boolean)) RX11) (hret : zRi g rE 15 p l e (zrm 3 0 0) s m args below meth c 0 0 Q cX11_isTold .boolean (fun v M1 => v = r ∧ M1 = M0)) (M : zM) (hM : M = M0)  (H : Heap) (locs : List Loc) (ls : Array Slot) (h : f_X11_isTold M  = some r) (hZ : zS g rE 15 s H locs M) (hl : lv_has ls 3 [(0, .ref (g.2.2 0))]) : W p l e (zrm 3 0 0) s m args below meth c H locs 0 0 Q (F0 m 0 ls []) := by
  have hx := E.1.1
  have hb := E.1.2.1
  unfold f_X11_isTold at h
  refine lv_aload_n hx hb dX11_isTold_0 rfl (lv_at hl 0 rfl) ?_
  refine zg (v := .int (M 0 11)) E hZ (by decide) (re_0 _) kc_X11 11 (by decide) kw_1379 rfl rfl dX11_isTold_1 ?_
  refine lv_iconst (v := 2) hx hb dX11_isTold_4 (by decide) ?_
  refine zrem h E dX11_isTold_5 (fun h => ?_)
  refine zif_ne (tgt := 22) h E dX11_isTold_6 (by decide) (fun c_9 h => ?_) (fun c_9 h => ?_)
  · exact lb_X11_isTold_22 g  E hret M hM  H locs ls h hZ (lv_sub hl [0] rfl)
  · refine lv_aload_n hx hb dX11_isTold_9 rfl (lv_at hl 0 rfl) ?_
    refine zg (v := .int (M 0 11)) E hZ (by decide) (re_0 _) kc_X11 11 (by decide) kw_1379 rfl rfl dX11_isTold_10 ?_
    refine lv_bipush (v := 40) hx hb dX11_isTold_13 (by decide) ?_
    refine zic_gt (tgt := 22) h E dX11_isTold_15 (by decide) (fun c_8 h => ?_) (fun c_8 h => ?_)
    · exact lb_X11_isTold_22 g  E hret M hM  H locs ls h hZ (lv_sub hl [0] rfl)
    · refine lv_iconst (v := 1) hx hb dX11_isTold_18 (by decide) ?_
      refine lv_goto (tgt := 23) hx hb dX11_isTold_19 (by decide) ?_
      exact lb_X11_isTold_23 g  E hret M 1 hM  H locs ls h hZ (lv_sub hl [0] rfl)
theorem c_X11_isTold (l : Launch) (g : zG) (M : zM)   {r : Int32} (h : f_X11_isTold M  = some r) : zMi l g rE 15 yX11_isTold (zWs yX11_isTold cX11_isTold 3 (some .boolean)) 3 [.ref (g.2.2 0)] M (fun v M1 => v = r ∧ M1 = M) :=
  zMi_of (by decide +kernel) (Nat.le_of_ble_eq_true rfl) (fun p e s m args below meth c Q ls E hret hZ hl => w_X11_isTold g  E hret M rfl  _ _ ls h hZ hl)
theorem v_X11_isTold : zYV yX11_isTold cX11_isTold 3 (some .boolean) 0 := ⟨kw_1985, kw_15, kw_1984, kp_112, by decide +kernel⟩

def b_X11_unlike_41 (K4 : Int32 → Int32 → Option (Int32)) (M : zM) (x1 : Int32) (x3 : Int32) (t0 : Int32) (t1 : Int32) : Option (Int32) :=
  znm (t1 + t0) (fun x2_1 => znm (x3 + 2) (fun x3_2 => K4 x2_1 x3_2))
set_option maxRecDepth 100000 in
set_option maxHeartbeats 4000000 in
theorem lb_X11_unlike_41 (g : zG)  {r : Int32} {M0 : zM} (E : zX g p m c cX11_unlike 4 s args (zWs yX11_unlike cX11_unlike 4 (some .int)) RX11) (hret : zRi g rE 15 p l e (zrm 2 0 0) s m args below meth c 0 0 Q cX11_unlike .int (fun v M1 => v = r ∧ M1 = M0)) (M : zM) (x1 : Int32) (x3 : Int32) (t0 : Int32) (t1 : Int32) (hM : M = M0) (K4 : Int32 → Int32 → Option (Int32)) (hK4 : ∀ (x2 : Int32) (x3 : Int32) (H : Heap) (locs : List Loc) (ls : Array Slot), K4 x2 x3 = some r → zS g rE 15 s H locs M → lv_has ls 4 [(0, .ref (g.2.2 0)), (1, .int x1), (2, .int x2), (3, .int x3)] → W p l e (zrm 2 0 0) s m args below meth c H locs 0 0 Q (F0 m 4 ls [])) (H : Heap) (locs : List Loc) (ls : Array Slot) (h : b_X11_unlike_41 K4 M x1 x3 t0 t1 = some r) (hZ : zS g rE 15 s H locs M) (hl : lv_has ls 4 [(0, .ref (g.2.2 0)), (1, .int x1), (3, .int x3)]) : W p l e (zrm 2 0 0) s m args below meth c H locs 0 0 Q (F0 m 41 ls [.int t0, .int t1]) := by
  have hx := E.1.1
  have hb := E.1.2.1
  unfold b_X11_unlike_41 at h
  refine lv_iadd hx hb dX11_unlike_41 ?_
  refine zni h (fun x2_1 ex2_1 h => ?_)
  refine lv_istore_n (lv' := [(2, .int x2_1), (0, .ref (g.2.2 0)), (1, .int x1), (3, .int x3)]) hx hb dX11_unlike_42 rfl hl (by decide) rfl (fun ls hl => ?_)
  obtain ⟨x3_2, ex3_2, h⟩ := znm_ex h
  refine lv_iinc (v := x3_2) (lv' := [(3, .int x3_2), (2, .int x2_1), (0, .ref (g.2.2 0)), (1, .int x1)]) hx hb dX11_unlike_43 hl (k := 3) rfl (by rw [ex3_2]; rfl) (by decide) rfl (fun ls hl => ?_)
  refine lv_goto (tgt := 4) hx hb dX11_unlike_46 (by decide) ?_
  exact hK4 x2_1 x3_2 H locs ls h hZ (lv_sub hl [2, 3, 1, 0] rfl)
def b_X11_unlike_4  (M : zM) (x1 : Int32) : Nat → Int32 → Int32 → Option (Int32)
  | 0, _, _ => none
  | n + 1, x2, x3 =>
    if (M 0 11) ≤ x3 then (some x2) else (zck (zin 10 2030) (zck (zin (x3 + 1) 400) (if (((M 1 (10 : Int32).toNatClampNeg) + (M 6 (x3 + 1 : Int32).toNatClampNeg)) - 6) = x1 then (b_X11_unlike_41 (fun x2 x3 => b_X11_unlike_4  M x1 n x2 x3) M x1 x3 0 x2) else (b_X11_unlike_41 (fun x2 x3 => b_X11_unlike_4  M x1 n x2 x3) M x1 x3 1 x2))))
set_option maxRecDepth 100000 in
set_option maxHeartbeats 4000000 in
theorem lb_X11_unlike_4 (g : zG)  {r : Int32} {M0 : zM} (E : zX g p m c cX11_unlike 4 s args (zWs yX11_unlike cX11_unlike 4 (some .int)) RX11) (hret : zRi g rE 15 p l e (zrm 2 0 0) s m args below meth c 0 0 Q cX11_unlike .int (fun v M1 => v = r ∧ M1 = M0)) (M : zM) (x1 : Int32) (hM : M = M0)  : ∀ (n : Nat) (x2 : Int32) (x3 : Int32) (H : Heap) (locs : List Loc) (ls : Array Slot), b_X11_unlike_4  M x1 n x2 x3 = some r → zS g rE 15 s H locs M → lv_has ls 4 [(0, .ref (g.2.2 0)), (1, .int x1), (2, .int x2), (3, .int x3)] → W p l e (zrm 2 0 0) s m args below meth c H locs 0 0 Q (F0 m 4 ls []) := by
  have hx := E.1.1
  have hb := E.1.2.1
  intro n
  induction n with
  | zero => intro x2 x3 H locs ls h hZ hl; cases h
  | succ n ih =>
    intro x2 x3 H locs ls h hZ hl
    rw [b_X11_unlike_4] at h
    refine lv_iload_n hx hb dX11_unlike_4 rfl (lv_at hl 3 rfl) ?_
    refine lv_aload_n hx hb dX11_unlike_5 rfl (lv_at hl 0 rfl) ?_
    refine zg (v := .int (M 0 11)) E hZ (by decide) (re_0 _) kc_X11 11 (by decide) kw_1379 rfl rfl dX11_unlike_6 ?_
    refine zic_ge (tgt := 49) h E dX11_unlike_9 (by decide) (fun c_4 h => ?_) (fun c_4 h => ?_)
    · refine lv_iload_n hx hb dX11_unlike_49 rfl (lv_at hl 2 rfl) ?_
      exact hret _ _ _ _ _ _ ⟨Option.some.inj h, hM⟩ rfl hZ dX11_unlike_50
    · refine lv_iload_n hx hb dX11_unlike_12 rfl (lv_at hl 2 rfl) ?_
      refine lv_aload_n hx hb dX11_unlike_13 rfl (lv_at hl 0 rfl) ?_
      refine zg (v := .ref (g.2.2 1)) E hZ (by decide) (re_0 _) kc_X11 1 (by decide) kw_1369 rfl rfl dX11_unlike_14 ?_
      refine lv_bipush (v := 10) hx hb dX11_unlike_17 (by decide) ?_
      refine zia h E hZ (by decide) re_1 dX11_unlike_19 (fun h => ?_)
      refine lv_aload_n hx hb dX11_unlike_20 rfl (lv_at hl 0 rfl) ?_
      refine zg (v := .ref (g.2.2 6)) E hZ (by decide) (re_0 _) kc_X11 8 (by decide) kw_1376 rfl rfl dX11_unlike_21 ?_
      refine lv_iload_n hx hb dX11_unlike_24 rfl (lv_at hl 3 rfl) ?_
      refine lv_iconst (v := 1) hx hb dX11_unlike_25 (by decide) ?_
      refine lv_iadd hx hb dX11_unlike_26 ?_
      refine zba h E hZ (by decide) re_6 dX11_unlike_27 (fun h => ?_)
      refine lv_iadd hx hb dX11_unlike_28 ?_
      refine lv_bipush (v := 6) hx hb dX11_unlike_29 (by decide) ?_
      refine lv_isub hx hb dX11_unlike_31 ?_
      refine lv_iload_n hx hb dX11_unlike_32 rfl (lv_at hl 1 rfl) ?_
      refine zic_ne (tgt := 40) h E dX11_unlike_33 (by decide) (fun c_3 h => ?_) (fun c_3 h => ?_)
      · refine lv_iconst (v := 1) hx hb dX11_unlike_40 (by decide) ?_
        exact lb_X11_unlike_41 g  E hret M x1 x3 1 x2 hM (fun x2 x3 => b_X11_unlike_4  M x1 n x2 x3) ih H locs ls h hZ (lv_sub hl [0, 1, 3] rfl)
      · refine lv_iconst (v := 0) hx hb dX11_unlike_36 (by decide) ?_
        refine lv_goto (tgt := 41) hx hb dX11_unlike_37 (by decide) ?_
        exact lb_X11_unlike_41 g  E hret M x1 x3 0 x2 hM (fun x2 x3 => b_X11_unlike_4  M x1 n x2 x3) ih H locs ls h hZ (lv_sub hl [0, 1, 3] rfl)
def f_X11_unlike (M : zM) (x1 : Int32) : Option (Int32) :=
  b_X11_unlike_4  M x1 6000 0 0
set_option maxRecDepth 100000 in
set_option maxHeartbeats 4000000 in
theorem w_X11_unlike (g : zG)  {r : Int32} {M0 : zM} (E : zX g p m c cX11_unlike 4 s args (zWs yX11_unlike cX11_unlike 4 (some .int)) RX11) (hret : zRi g rE 15 p l e (zrm 2 0 0) s m args below meth c 0 0 Q cX11_unlike .int (fun v M1 => v = r ∧ M1 = M0)) (M : zM) (hM : M = M0) (x1 : Int32) (H : Heap) (locs : List Loc) (ls : Array Slot) (h : f_X11_unlike M x1 = some r) (hZ : zS g rE 15 s H locs M) (hl : lv_has ls 4 [(0, .ref (g.2.2 0)), (1, .int x1)]) : W p l e (zrm 2 0 0) s m args below meth c H locs 0 0 Q (F0 m 0 ls []) := by
  have hx := E.1.1
  have hb := E.1.2.1
  unfold f_X11_unlike at h
  refine lv_iconst (v := 0) hx hb dX11_unlike_0 (by decide) ?_
  refine lv_istore_n (lv' := [(2, .int 0), (0, .ref (g.2.2 0)), (1, .int x1)]) hx hb dX11_unlike_1 rfl hl (by decide) rfl (fun ls hl => ?_)
  refine lv_iconst (v := 0) hx hb dX11_unlike_2 (by decide) ?_
  refine lv_istore_n (lv' := [(3, .int 0), (2, .int 0), (0, .ref (g.2.2 0)), (1, .int x1)]) hx hb dX11_unlike_3 rfl hl (by decide) rfl (fun ls hl => ?_)
  exact lb_X11_unlike_4 g  E hret M x1 hM  6000 0 0 H locs ls h hZ (lv_sub hl [2, 3, 1, 0] rfl)
theorem c_X11_unlike (l : Launch) (g : zG) (M : zM)  (x1 : Int32) {r : Int32} (h : f_X11_unlike M x1 = some r) : zMi l g rE 15 yX11_unlike (zWs yX11_unlike cX11_unlike 4 (some .int)) 2 [.ref (g.2.2 0), .int x1] M (fun v M1 => v = r ∧ M1 = M) :=
  zMi_of (by decide +kernel) (Nat.le_of_ble_eq_true rfl) (fun p e s m args below meth c Q ls E hret hZ hl => w_X11_unlike g  E hret M rfl x1 _ _ ls h hZ hl)
theorem v_X11_unlike : zYV yX11_unlike cX11_unlike 4 (some .int) 1 := ⟨kw_1989, kw_15, kw_1988, kp_113, by decide +kernel⟩

def b_X11_came_65  (M : zM) (x1 : Int32) (x2 : Int32) (x3 : Int32) : Option (Int32 × zM) :=
  if x1 = 0 then (some (x2, M)) else (some (x3, M))
set_option maxRecDepth 100000 in
set_option maxHeartbeats 4000000 in
theorem lb_X11_came_65 (g : zG)  {r : Int32 × zM} (E : zX g p m c cX11_came 5 s args (zWs yX11_came cX11_came 5 (some .int)) RX11) (hret : zRi g rE 15 p l e (zrm 4 0 0) s m args below meth c 0 0 Q cX11_came .int (fun v M1 => r = (v, M1))) (M : zM) (x1 : Int32) (x2 : Int32) (x3 : Int32)  (H : Heap) (locs : List Loc) (ls : Array Slot) (h : b_X11_came_65  M x1 x2 x3 = some r) (hZ : zS g rE 15 s H locs M) (hl : lv_has ls 5 [(1, .int x1), (2, .int x2), (3, .int x3)]) : W p l e (zrm 4 0 0) s m args below meth c H locs 0 0 Q (F0 m 65 ls []) := by
  have hx := E.1.1
  have hb := E.1.2.1
  unfold b_X11_came_65 at h
  refine lv_iload_n hx hb dX11_came_65 rfl (lv_at hl 0 rfl) ?_
  refine zif_eq (tgt := 73) h E dX11_came_66 (by decide) (fun c_1 h => ?_) (fun c_1 h => ?_)
  · refine lv_iload_n hx hb dX11_came_73 rfl (lv_at hl 1 rfl) ?_
    exact hret _ _ _ _ _ _ (Option.some.inj h).symm rfl hZ dX11_came_74
  · refine lv_iload_n hx hb dX11_came_69 rfl (lv_at hl 2 rfl) ?_
    refine lv_goto (tgt := 74) hx hb dX11_came_70 (by decide) ?_
    exact hret _ _ _ _ _ _ (Option.some.inj h).symm rfl hZ dX11_came_74
def b_X11_came_59 (K34 : Int32 → Int32 → Int32 → Option (Int32 × zM)) (M : zM) (x1 : Int32) (x2 : Int32) (x3 : Int32) (x4 : Int32) : Option (Int32 × zM) :=
  znm (x4 + (-1)) (fun x4_2 => K34 x2 x3 x4_2)
set_option maxRecDepth 100000 in
set_option maxHeartbeats 4000000 in
theorem lb_X11_came_59 (g : zG)  {r : Int32 × zM} (E : zX g p m c cX11_came 5 s args (zWs yX11_came cX11_came 5 (some .int)) RX11) (hret : zRi g rE 15 p l e (zrm 4 0 0) s m args below meth c 0 0 Q cX11_came .int (fun v M1 => r = (v, M1))) (M : zM) (x1 : Int32) (x2 : Int32) (x3 : Int32) (x4 : Int32) (K34 : Int32 → Int32 → Int32 → Option (Int32 × zM)) (hK34 : ∀ (x2 : Int32) (x3 : Int32) (x4 : Int32) (H : Heap) (locs : List Loc) (ls : Array Slot), K34 x2 x3 x4 = some r → zS g rE 15 s H locs M → lv_has ls 5 [(0, .ref (g.2.2 0)), (1, .int x1), (2, .int x2), (3, .int x3), (4, .int x4)] → W p l e (zrm 4 0 0) s m args below meth c H locs 0 0 Q (F0 m 34 ls [])) (H : Heap) (locs : List Loc) (ls : Array Slot) (h : b_X11_came_59 K34 M x1 x2 x3 x4 = some r) (hZ : zS g rE 15 s H locs M) (hl : lv_has ls 5 [(0, .ref (g.2.2 0)), (1, .int x1), (2, .int x2), (3, .int x3), (4, .int x4)]) : W p l e (zrm 4 0 0) s m args below meth c H locs 0 0 Q (F0 m 59 ls []) := by
  have hx := E.1.1
  have hb := E.1.2.1
  unfold b_X11_came_59 at h
  obtain ⟨x4_2, ex4_2, h⟩ := znm_ex h
  refine lv_iinc (v := x4_2) (lv' := [(4, .int x4_2), (0, .ref (g.2.2 0)), (1, .int x1), (2, .int x2), (3, .int x3)]) hx hb dX11_came_59 hl (k := 4) rfl (by rw [ex4_2]; rfl) (by decide) rfl (fun ls hl => ?_)
  refine lv_goto (tgt := 34) hx hb dX11_came_62 (by decide) ?_
  exact hK34 x2 x3 x4_2 H locs ls h hZ (lv_sub hl [1, 2, 3, 4, 0] rfl)
def b_X11_came_34  (M : zM) (x1 : Int32) : Nat → Int32 → Int32 → Int32 → Option (Int32 × zM)
  | 0, _, _, _ => none
  | n + 1, x2, x3, x4 =>
    if x4 < ((-3)) then (b_X11_came_65  M x1 x2 x3) else (zbn (f_X11_unlike M x4) (fun u_3 => if u_3 ≤ 0 then (znm (x2 + 1) (fun x2_4 => b_X11_came_59 (fun x2 x3 x4 => b_X11_came_34  M x1 n x2 x3 x4) M x1 x2_4 x4 x4)) else (b_X11_came_59 (fun x2 x3 x4 => b_X11_came_34  M x1 n x2 x3 x4) M x1 x2 x3 x4)))
set_option maxRecDepth 100000 in
set_option maxHeartbeats 4000000 in
theorem lb_X11_came_34 (g : zG)  {r : Int32 × zM} (E : zX g p m c cX11_came 5 s args (zWs yX11_came cX11_came 5 (some .int)) RX11) (hret : zRi g rE 15 p l e (zrm 4 0 0) s m args below meth c 0 0 Q cX11_came .int (fun v M1 => r = (v, M1))) (M : zM) (x1 : Int32)  : ∀ (n : Nat) (x2 : Int32) (x3 : Int32) (x4 : Int32) (H : Heap) (locs : List Loc) (ls : Array Slot), b_X11_came_34  M x1 n x2 x3 x4 = some r → zS g rE 15 s H locs M → lv_has ls 5 [(0, .ref (g.2.2 0)), (1, .int x1), (2, .int x2), (3, .int x3), (4, .int x4)] → W p l e (zrm 4 0 0) s m args below meth c H locs 0 0 Q (F0 m 34 ls []) := by
  have hx := E.1.1
  have hb := E.1.2.1
  intro n
  induction n with
  | zero => intro x2 x3 x4 H locs ls h hZ hl; cases h
  | succ n ih =>
    intro x2 x3 x4 H locs ls h hZ hl
    rw [b_X11_came_34] at h
    refine lv_iload hx hb dX11_came_34 (lv_at hl 4 rfl) ?_
    refine lv_bipush (v := (-3)) hx hb dX11_came_36 (by decide) ?_
    refine zic_lt (tgt := 65) h E dX11_came_38 (by decide) (fun c_6 h => ?_) (fun c_6 h => ?_)
    · exact lb_X11_came_65 g  E hret M x1 x2 x3  H locs ls h hZ (lv_sub hl [1, 2, 3] rfl)
    · refine lv_aload_n hx hb dX11_came_41 rfl (lv_at hl 0 rfl) ?_
      refine lv_iload hx hb dX11_came_42 (lv_at hl 4 rfl) ?_
      obtain ⟨u_3, qu_3, h⟩ := zbn_some h
      refine zciR (zrunV E hZ (by decide) (re_0 _) rfl rfl v_X11_unlike kw_1986 (c_X11_unlike l g M  x4 qu_3 _) rfl hl.1 rfl (Nat.le_of_ble_eq_true rfl) ⟨by decide, by decide⟩ ⟨by decide, by decide⟩ dX11_came_44) hZ (fun H locs hZ => ?_)
      refine zif_le (tgt := 53) h E dX11_came_47 (by decide) (fun c_5 h => ?_) (fun c_5 h => ?_)
      · obtain ⟨x2_4, ex2_4, h⟩ := znm_ex h
        refine lv_iinc (v := x2_4) (lv' := [(2, .int x2_4), (0, .ref (g.2.2 0)), (1, .int x1), (3, .int x3), (4, .int x4)]) hx hb dX11_came_53 hl (k := 2) rfl (by rw [ex2_4]; rfl) (by decide) rfl (fun ls hl => ?_)
        refine lv_iload hx hb dX11_came_56 (lv_at hl 4 rfl) ?_
        refine lv_istore_n (lv' := [(3, .int x4), (2, .int x2_4), (0, .ref (g.2.2 0)), (1, .int x1), (4, .int x4)]) hx hb dX11_came_58 rfl hl (by decide) rfl (fun ls hl => ?_)
        exact lb_X11_came_59 g  E hret M x1 x2_4 x4 x4 (fun x2 x3 x4 => b_X11_came_34  M x1 n x2 x3 x4) ih H locs ls h hZ (lv_sub hl [2, 3, 1, 0, 4] rfl)
      · refine lv_goto (tgt := 59) hx hb dX11_came_50 (by decide) ?_
        exact lb_X11_came_59 g  E hret M x1 x2 x3 x4 (fun x2 x3 x4 => b_X11_came_34  M x1 n x2 x3 x4) ih H locs ls h hZ (lv_sub hl [0, 1, 2, 3, 4] rfl)
def b_X11_came_17  (M : zM) (x1 : Int32) (t0 : Int32) : Option (Int32 × zM) :=
  zbn (f_X11_throwsIf M t0 1) (fun u_7 => if u_7.1 = 0 then (b_X11_came_34  u_7.2 x1 6000 0 ((-9)) 3) else (some (0, u_7.2)))
set_option maxRecDepth 100000 in
set_option maxHeartbeats 4000000 in
theorem lb_X11_came_17 (g : zG)  {r : Int32 × zM} (E : zX g p m c cX11_came 5 s args (zWs yX11_came cX11_came 5 (some .int)) RX11) (hret : zRi g rE 15 p l e (zrm 4 0 0) s m args below meth c 0 0 Q cX11_came .int (fun v M1 => r = (v, M1))) (M : zM) (x1 : Int32) (t0 : Int32)  (H : Heap) (locs : List Loc) (ls : Array Slot) (h : b_X11_came_17  M x1 t0 = some r) (hZ : zS g rE 15 s H locs M) (hl : lv_has ls 5 [(0, .ref (g.2.2 0)), (1, .int x1)]) : W p l e (zrm 4 0 0) s m args below meth c H locs 0 0 Q (F0 m 17 ls [.int t0, .ref (g.2.2 0)]) := by
  have hx := E.1.1
  have hb := E.1.2.1
  unfold b_X11_came_17 at h
  refine lv_iconst (v := 1) hx hb dX11_came_17 (by decide) ?_
  obtain ⟨u_7, qu_7, h⟩ := zbn_some h
  refine zciS (zrunV E hZ (by decide) (re_0 _) rfl rfl v_X11_throwsIf kw_1651 (c_X11_throwsIf l g M  t0 1 qu_7 _) rfl hl.1 rfl (Nat.le_of_ble_eq_true rfl) ⟨by decide, by decide⟩ ⟨by decide, by decide⟩ dX11_came_18) hZ (fun H locs hZ => ?_)
  refine zif_eq (tgt := 26) h E dX11_came_21 (by decide) (fun c_8 h => ?_) (fun c_8 h => ?_)
  · refine lv_iconst (v := 0) hx hb dX11_came_26 (by decide) ?_
    refine lv_istore_n (lv' := [(2, .int 0), (0, .ref (g.2.2 0)), (1, .int x1)]) hx hb dX11_came_27 rfl hl (by decide) rfl (fun ls hl => ?_)
    refine lv_bipush (v := (-9)) hx hb dX11_came_28 (by decide) ?_
    refine lv_istore_n (lv' := [(3, .int ((-9))), (2, .int 0), (0, .ref (g.2.2 0)), (1, .int x1)]) hx hb dX11_came_30 rfl hl (by decide) rfl (fun ls hl => ?_)
    refine lv_iconst (v := 3) hx hb dX11_came_31 (by decide) ?_
    refine lv_istore (lv' := [(4, .int 3), (3, .int ((-9))), (2, .int 0), (0, .ref (g.2.2 0)), (1, .int x1)]) hx hb dX11_came_32 hl (by decide) rfl (fun ls hl => ?_)
    exact lb_X11_came_34 g  E hret u_7.2 x1  6000 0 ((-9)) 3 H locs ls h hZ (lv_sub hl [3, 4, 2, 1, 0] rfl)
  · refine lv_iconst (v := 0) hx hb dX11_came_24 (by decide) ?_
    exact hret _ _ _ _ _ _ (Option.some.inj h).symm rfl hZ dX11_came_25
def f_X11_came (M : zM) (x1 : Int32) : Option (Int32 × zM) :=
  zbn (f_X11_uses M ) (fun u_9 => zbn (f_X11_isTold u_9 ) (fun u_10 => if u_10 = 0 then (b_X11_came_17  u_9 x1 1) else (b_X11_came_17  u_9 x1 0)))
set_option maxRecDepth 100000 in
set_option maxHeartbeats 4000000 in
theorem w_X11_came (g : zG)  {r : Int32 × zM} (E : zX g p m c cX11_came 5 s args (zWs yX11_came cX11_came 5 (some .int)) RX11) (hret : zRi g rE 15 p l e (zrm 4 0 0) s m args below meth c 0 0 Q cX11_came .int (fun v M1 => r = (v, M1))) (M : zM) (x1 : Int32) (H : Heap) (locs : List Loc) (ls : Array Slot) (h : f_X11_came M x1 = some r) (hZ : zS g rE 15 s H locs M) (hl : lv_has ls 5 [(0, .ref (g.2.2 0)), (1, .int x1)]) : W p l e (zrm 4 0 0) s m args below meth c H locs 0 0 Q (F0 m 0 ls []) := by
  have hx := E.1.1
  have hb := E.1.2.1
  unfold f_X11_came at h
  refine lv_aload_n hx hb dX11_came_0 rfl (lv_at hl 0 rfl) ?_
  obtain ⟨u_9, qu_9, h⟩ := zbn_some h
  refine zcvS (zrunV E hZ (by decide) (re_0 _) rfl rfl v_X11_uses kw_1476 (c_X11_uses l g M   qu_9 _) rfl hl.1 rfl (Nat.le_of_ble_eq_true rfl) ⟨by decide, by decide⟩ ⟨by decide, by decide⟩ dX11_came_1) hZ (fun H locs hZ => ?_)
  refine lv_aload_n hx hb dX11_came_4 rfl (lv_at hl 0 rfl) ?_
  refine lv_aload_n hx hb dX11_came_5 rfl (lv_at hl 0 rfl) ?_
  obtain ⟨u_10, qu_10, h⟩ := zbn_some h
  refine zciR (zrunV E hZ (by decide) (re_0 _) rfl rfl v_X11_isTold kw_1982 (c_X11_isTold l g u_9   qu_10 _) rfl hl.1 rfl (Nat.le_of_ble_eq_true rfl) ⟨by decide, by decide⟩ ⟨by decide, by decide⟩ dX11_came_6) hZ (fun H locs hZ => ?_)
  refine zif_ne (tgt := 16) h E dX11_came_9 (by decide) (fun c_11 h => ?_) (fun c_11 h => ?_)
  · refine lv_iconst (v := 0) hx hb dX11_came_16 (by decide) ?_
    exact lb_X11_came_17 g  E hret u_9 x1 0  H locs ls h hZ (lv_sub hl [0, 1] rfl)
  · refine lv_iconst (v := 1) hx hb dX11_came_12 (by decide) ?_
    refine lv_goto (tgt := 17) hx hb dX11_came_13 (by decide) ?_
    exact lb_X11_came_17 g  E hret u_9 x1 1  H locs ls h hZ (lv_sub hl [0, 1] rfl)
theorem c_X11_came (l : Launch) (g : zG) (M : zM)  (x1 : Int32) {r : Int32 × zM} (h : f_X11_came M x1 = some r) : zMi l g rE 15 yX11_came (zWs yX11_came cX11_came 5 (some .int)) 4 [.ref (g.2.2 0), .int x1] M (fun v M1 => r = (v, M1)) :=
  zMi_of (by decide +kernel) (Nat.le_of_ble_eq_true rfl) (fun p e s m args below meth c Q ls E hret hZ hl => w_X11_came g  E hret M x1 _ _ ls h hZ hl)
theorem v_X11_came : zYV yX11_came cX11_came 5 (some .int) 1 := ⟨kw_1981, kw_15, kw_1979, kw_1980, by decide +kernel⟩

def b_X11_amends_63  (M : zM) (x1 : Int32) (x2 : Int32) : Option (Int32 × zM) :=
  if x1 = 0 then (zbn (f_X11_unlike M x2) (fun u_1 => some (u_1, M))) else (some (x2, M))
set_option maxRecDepth 100000 in
set_option maxHeartbeats 4000000 in
theorem lb_X11_amends_63 (g : zG)  {r : Int32 × zM} (E : zX g p m c cX11_amends 4 s args (zWs yX11_amends cX11_amends 4 (some .int)) RX11) (hret : zRi g rE 15 p l e (zrm 4 0 0) s m args below meth c 0 0 Q cX11_amends .int (fun v M1 => r = (v, M1))) (M : zM) (x1 : Int32) (x2 : Int32)  (H : Heap) (locs : List Loc) (ls : Array Slot) (h : b_X11_amends_63  M x1 x2 = some r) (hZ : zS g rE 15 s H locs M) (hl : lv_has ls 4 [(0, .ref (g.2.2 0)), (1, .int x1), (2, .int x2)]) : W p l e (zrm 4 0 0) s m args below meth c H locs 0 0 Q (F0 m 63 ls []) := by
  have hx := E.1.1
  have hb := E.1.2.1
  unfold b_X11_amends_63 at h
  refine lv_iload_n hx hb dX11_amends_63 rfl (lv_at hl 1 rfl) ?_
  refine zif_eq (tgt := 71) h E dX11_amends_64 (by decide) (fun c_2 h => ?_) (fun c_2 h => ?_)
  · refine lv_aload_n hx hb dX11_amends_71 rfl (lv_at hl 0 rfl) ?_
    refine lv_iload_n hx hb dX11_amends_72 rfl (lv_at hl 2 rfl) ?_
    obtain ⟨u_1, qu_1, h⟩ := zbn_some h
    refine zciR (zrunV E hZ (by decide) (re_0 _) rfl rfl v_X11_unlike kw_1986 (c_X11_unlike l g M  x2 qu_1 _) rfl hl.1 rfl (Nat.le_of_ble_eq_true rfl) ⟨by decide, by decide⟩ ⟨by decide, by decide⟩ dX11_amends_73) hZ (fun H locs hZ => ?_)
    exact hret _ _ _ _ _ _ (Option.some.inj h).symm rfl hZ dX11_amends_76
  · refine lv_iload_n hx hb dX11_amends_67 rfl (lv_at hl 2 rfl) ?_
    refine lv_goto (tgt := 76) hx hb dX11_amends_68 (by decide) ?_
    exact hret _ _ _ _ _ _ (Option.some.inj h).symm rfl hZ dX11_amends_76
def b_X11_amends_56 (K33 : Int32 → Int32 → Option (Int32 × zM)) (M : zM) (x1 : Int32) (x3 : Int32) (t0 : Int32) : Option (Int32 × zM) :=
  znm (x3 + 1) (fun x3_3 => K33 t0 x3_3)
set_option maxRecDepth 100000 in
set_option maxHeartbeats 4000000 in
theorem lb_X11_amends_56 (g : zG)  {r : Int32 × zM} (E : zX g p m c cX11_amends 4 s args (zWs yX11_amends cX11_amends 4 (some .int)) RX11) (hret : zRi g rE 15 p l e (zrm 4 0 0) s m args below meth c 0 0 Q cX11_amends .int (fun v M1 => r = (v, M1))) (M : zM) (x1 : Int32) (x3 : Int32) (t0 : Int32) (K33 : Int32 → Int32 → Option (Int32 × zM)) (hK33 : ∀ (x2 : Int32) (x3 : Int32) (H : Heap) (locs : List Loc) (ls : Array Slot), K33 x2 x3 = some r → zS g rE 15 s H locs M → lv_has ls 4 [(0, .ref (g.2.2 0)), (1, .int x1), (2, .int x2), (3, .int x3)] → W p l e (zrm 4 0 0) s m args below meth c H locs 0 0 Q (F0 m 33 ls [])) (H : Heap) (locs : List Loc) (ls : Array Slot) (h : b_X11_amends_56 K33 M x1 x3 t0 = some r) (hZ : zS g rE 15 s H locs M) (hl : lv_has ls 4 [(0, .ref (g.2.2 0)), (1, .int x1), (3, .int x3)]) : W p l e (zrm 4 0 0) s m args below meth c H locs 0 0 Q (F0 m 56 ls [.int t0]) := by
  have hx := E.1.1
  have hb := E.1.2.1
  unfold b_X11_amends_56 at h
  refine lv_istore_n (lv' := [(2, .int t0), (0, .ref (g.2.2 0)), (1, .int x1), (3, .int x3)]) hx hb dX11_amends_56 rfl hl (by decide) rfl (fun ls hl => ?_)
  obtain ⟨x3_3, ex3_3, h⟩ := znm_ex h
  refine lv_iinc (v := x3_3) (lv' := [(3, .int x3_3), (2, .int t0), (0, .ref (g.2.2 0)), (1, .int x1)]) hx hb dX11_amends_57 hl (k := 3) rfl (by rw [ex3_3]; rfl) (by decide) rfl (fun ls hl => ?_)
  refine lv_goto (tgt := 33) hx hb dX11_amends_60 (by decide) ?_
  exact hK33 t0 x3_3 H locs ls h hZ (lv_sub hl [2, 3, 1, 0] rfl)
def b_X11_amends_33  (M : zM) (x1 : Int32) : Nat → Int32 → Int32 → Option (Int32 × zM)
  | 0, _, _ => none
  | n + 1, x2, x3 =>
    if 3 < x3 then (b_X11_amends_63  M x1 x2) else (zbn (f_X11_unlike M x3) (fun u_4 => zbn (f_X11_unlike M x2) (fun u_5 => if u_5 ≤ u_4 then (b_X11_amends_56 (fun x2 x3 => b_X11_amends_33  M x1 n x2 x3) M x1 x3 x2) else (b_X11_amends_56 (fun x2 x3 => b_X11_amends_33  M x1 n x2 x3) M x1 x3 x3))))
set_option maxRecDepth 100000 in
set_option maxHeartbeats 4000000 in
theorem lb_X11_amends_33 (g : zG)  {r : Int32 × zM} (E : zX g p m c cX11_amends 4 s args (zWs yX11_amends cX11_amends 4 (some .int)) RX11) (hret : zRi g rE 15 p l e (zrm 4 0 0) s m args below meth c 0 0 Q cX11_amends .int (fun v M1 => r = (v, M1))) (M : zM) (x1 : Int32)  : ∀ (n : Nat) (x2 : Int32) (x3 : Int32) (H : Heap) (locs : List Loc) (ls : Array Slot), b_X11_amends_33  M x1 n x2 x3 = some r → zS g rE 15 s H locs M → lv_has ls 4 [(0, .ref (g.2.2 0)), (1, .int x1), (2, .int x2), (3, .int x3)] → W p l e (zrm 4 0 0) s m args below meth c H locs 0 0 Q (F0 m 33 ls []) := by
  have hx := E.1.1
  have hb := E.1.2.1
  intro n
  induction n with
  | zero => intro x2 x3 H locs ls h hZ hl; cases h
  | succ n ih =>
    intro x2 x3 H locs ls h hZ hl
    rw [b_X11_amends_33] at h
    refine lv_iload_n hx hb dX11_amends_33 rfl (lv_at hl 3 rfl) ?_
    refine lv_iconst (v := 3) hx hb dX11_amends_34 (by decide) ?_
    refine zic_gt (tgt := 63) h E dX11_amends_35 (by decide) (fun c_7 h => ?_) (fun c_7 h => ?_)
    · exact lb_X11_amends_63 g  E hret M x1 x2  H locs ls h hZ (lv_sub hl [0, 1, 2] rfl)
    · refine lv_aload_n hx hb dX11_amends_38 rfl (lv_at hl 0 rfl) ?_
      refine lv_iload_n hx hb dX11_amends_39 rfl (lv_at hl 3 rfl) ?_
      obtain ⟨u_4, qu_4, h⟩ := zbn_some h
      refine zciR (zrunV E hZ (by decide) (re_0 _) rfl rfl v_X11_unlike kw_1986 (c_X11_unlike l g M  x3 qu_4 _) rfl hl.1 rfl (Nat.le_of_ble_eq_true rfl) ⟨by decide, by decide⟩ ⟨by decide, by decide⟩ dX11_amends_40) hZ (fun H locs hZ => ?_)
      refine lv_aload_n hx hb dX11_amends_43 rfl (lv_at hl 0 rfl) ?_
      refine lv_iload_n hx hb dX11_amends_44 rfl (lv_at hl 2 rfl) ?_
      obtain ⟨u_5, qu_5, h⟩ := zbn_some h
      refine zciR (zrunV E hZ (by decide) (re_0 _) rfl rfl v_X11_unlike kw_1986 (c_X11_unlike l g M  x2 qu_5 _) rfl hl.1 rfl (Nat.le_of_ble_eq_true rfl) ⟨by decide, by decide⟩ ⟨by decide, by decide⟩ dX11_amends_45) hZ (fun H locs hZ => ?_)
      refine zic_ge (tgt := 55) h E dX11_amends_48 (by decide) (fun c_6 h => ?_) (fun c_6 h => ?_)
      · refine lv_iload_n hx hb dX11_amends_55 rfl (lv_at hl 2 rfl) ?_
        exact lb_X11_amends_56 g  E hret M x1 x3 x2 (fun x2 x3 => b_X11_amends_33  M x1 n x2 x3) ih H locs ls h hZ (lv_sub hl [0, 1, 3] rfl)
      · refine lv_iload_n hx hb dX11_amends_51 rfl (lv_at hl 3 rfl) ?_
        refine lv_goto (tgt := 56) hx hb dX11_amends_52 (by decide) ?_
        exact lb_X11_amends_56 g  E hret M x1 x3 x3 (fun x2 x3 => b_X11_amends_33  M x1 n x2 x3) ih H locs ls h hZ (lv_sub hl [0, 1, 3] rfl)
def b_X11_amends_17  (M : zM) (x1 : Int32) (t0 : Int32) : Option (Int32 × zM) :=
  zbn (f_X11_throwsIf M t0 1) (fun u_8 => if u_8.1 = 0 then (znm (((-3)) + 1) (fun x3_9 => b_X11_amends_33  u_8.2 x1 6000 ((-3)) x3_9)) else (some (0, u_8.2)))
set_option maxRecDepth 100000 in
set_option maxHeartbeats 4000000 in
theorem lb_X11_amends_17 (g : zG)  {r : Int32 × zM} (E : zX g p m c cX11_amends 4 s args (zWs yX11_amends cX11_amends 4 (some .int)) RX11) (hret : zRi g rE 15 p l e (zrm 4 0 0) s m args below meth c 0 0 Q cX11_amends .int (fun v M1 => r = (v, M1))) (M : zM) (x1 : Int32) (t0 : Int32)  (H : Heap) (locs : List Loc) (ls : Array Slot) (h : b_X11_amends_17  M x1 t0 = some r) (hZ : zS g rE 15 s H locs M) (hl : lv_has ls 4 [(0, .ref (g.2.2 0)), (1, .int x1)]) : W p l e (zrm 4 0 0) s m args below meth c H locs 0 0 Q (F0 m 17 ls [.int t0, .ref (g.2.2 0)]) := by
  have hx := E.1.1
  have hb := E.1.2.1
  unfold b_X11_amends_17 at h
  refine lv_iconst (v := 1) hx hb dX11_amends_17 (by decide) ?_
  obtain ⟨u_8, qu_8, h⟩ := zbn_some h
  refine zciS (zrunV E hZ (by decide) (re_0 _) rfl rfl v_X11_throwsIf kw_1651 (c_X11_throwsIf l g M  t0 1 qu_8 _) rfl hl.1 rfl (Nat.le_of_ble_eq_true rfl) ⟨by decide, by decide⟩ ⟨by decide, by decide⟩ dX11_amends_18) hZ (fun H locs hZ => ?_)
  refine zif_eq (tgt := 26) h E dX11_amends_21 (by decide) (fun c_10 h => ?_) (fun c_10 h => ?_)
  · refine lv_bipush (v := (-3)) hx hb dX11_amends_26 (by decide) ?_
    refine lv_istore_n (lv' := [(2, .int ((-3))), (0, .ref (g.2.2 0)), (1, .int x1)]) hx hb dX11_amends_28 rfl hl (by decide) rfl (fun ls hl => ?_)
    refine lv_iload_n hx hb dX11_amends_29 rfl (lv_at hl 0 rfl) ?_
    refine lv_iconst (v := 1) hx hb dX11_amends_30 (by decide) ?_
    refine lv_iadd hx hb dX11_amends_31 ?_
    refine zni h (fun x3_9 ex3_9 h => ?_)
    refine lv_istore_n (lv' := [(3, .int x3_9), (2, .int ((-3))), (0, .ref (g.2.2 0)), (1, .int x1)]) hx hb dX11_amends_32 rfl hl (by decide) rfl (fun ls hl => ?_)
    exact lb_X11_amends_33 g  E hret u_8.2 x1  6000 ((-3)) x3_9 H locs ls h hZ (lv_sub hl [2, 3, 1, 0] rfl)
  · refine lv_iconst (v := 0) hx hb dX11_amends_24 (by decide) ?_
    exact hret _ _ _ _ _ _ (Option.some.inj h).symm rfl hZ dX11_amends_25
def f_X11_amends (M : zM) (x1 : Int32) : Option (Int32 × zM) :=
  zbn (f_X11_uses M ) (fun u_11 => zbn (f_X11_isTold u_11 ) (fun u_12 => if u_12 = 0 then (b_X11_amends_17  u_11 x1 1) else (b_X11_amends_17  u_11 x1 0)))
set_option maxRecDepth 100000 in
set_option maxHeartbeats 4000000 in
theorem w_X11_amends (g : zG)  {r : Int32 × zM} (E : zX g p m c cX11_amends 4 s args (zWs yX11_amends cX11_amends 4 (some .int)) RX11) (hret : zRi g rE 15 p l e (zrm 4 0 0) s m args below meth c 0 0 Q cX11_amends .int (fun v M1 => r = (v, M1))) (M : zM) (x1 : Int32) (H : Heap) (locs : List Loc) (ls : Array Slot) (h : f_X11_amends M x1 = some r) (hZ : zS g rE 15 s H locs M) (hl : lv_has ls 4 [(0, .ref (g.2.2 0)), (1, .int x1)]) : W p l e (zrm 4 0 0) s m args below meth c H locs 0 0 Q (F0 m 0 ls []) := by
  have hx := E.1.1
  have hb := E.1.2.1
  unfold f_X11_amends at h
  refine lv_aload_n hx hb dX11_amends_0 rfl (lv_at hl 0 rfl) ?_
  obtain ⟨u_11, qu_11, h⟩ := zbn_some h
  refine zcvS (zrunV E hZ (by decide) (re_0 _) rfl rfl v_X11_uses kw_1476 (c_X11_uses l g M   qu_11 _) rfl hl.1 rfl (Nat.le_of_ble_eq_true rfl) ⟨by decide, by decide⟩ ⟨by decide, by decide⟩ dX11_amends_1) hZ (fun H locs hZ => ?_)
  refine lv_aload_n hx hb dX11_amends_4 rfl (lv_at hl 0 rfl) ?_
  refine lv_aload_n hx hb dX11_amends_5 rfl (lv_at hl 0 rfl) ?_
  obtain ⟨u_12, qu_12, h⟩ := zbn_some h
  refine zciR (zrunV E hZ (by decide) (re_0 _) rfl rfl v_X11_isTold kw_1982 (c_X11_isTold l g u_11   qu_12 _) rfl hl.1 rfl (Nat.le_of_ble_eq_true rfl) ⟨by decide, by decide⟩ ⟨by decide, by decide⟩ dX11_amends_6) hZ (fun H locs hZ => ?_)
  refine zif_ne (tgt := 16) h E dX11_amends_9 (by decide) (fun c_13 h => ?_) (fun c_13 h => ?_)
  · refine lv_iconst (v := 0) hx hb dX11_amends_16 (by decide) ?_
    exact lb_X11_amends_17 g  E hret u_11 x1 0  H locs ls h hZ (lv_sub hl [0, 1] rfl)
  · refine lv_iconst (v := 1) hx hb dX11_amends_12 (by decide) ?_
    refine lv_goto (tgt := 17) hx hb dX11_amends_13 (by decide) ?_
    exact lb_X11_amends_17 g  E hret u_11 x1 1  H locs ls h hZ (lv_sub hl [0, 1] rfl)
theorem c_X11_amends (l : Launch) (g : zG) (M : zM)  (x1 : Int32) {r : Int32 × zM} (h : f_X11_amends M x1 = some r) : zMi l g rE 15 yX11_amends (zWs yX11_amends cX11_amends 4 (some .int)) 4 [.ref (g.2.2 0), .int x1] M (fun v M1 => r = (v, M1)) :=
  zMi_of (by decide +kernel) (Nat.le_of_ble_eq_true rfl) (fun p e s m args below meth c Q ls E hret hZ hl => w_X11_amends g  E hret M x1 _ _ ls h hZ hl)
theorem v_X11_amends : zYV yX11_amends cX11_amends 4 (some .int) 1 := ⟨kw_1993, kw_15, kw_1991, kw_1992, by decide +kernel⟩

def b_X11_witness_109 (K62 : Int32 → Int32 → Int32 → Option (Int32 × zM)) (M : zM) (x1 : Int32) (x3 : Int32) (x4 : Int32) (x5 : Int32) (t0 : Int32) : Option (Int32 × zM) :=
  znm (if x3 < x5 then x5 else x3) (fun v_1 => znm (x4 + 1) (fun x4_2 => K62 t0 v_1 x4_2))
set_option maxRecDepth 100000 in
set_option maxHeartbeats 4000000 in
theorem lb_X11_witness_109 (g : zG)  {r : Int32 × zM} (E : zX g p m c cX11_witness 6 s args (zWs yX11_witness cX11_witness 6 (some .int)) RX11) (hret : zRi g rE 15 p l e (zrm 4 0 0) s m args below meth c 0 0 Q cX11_witness .int (fun v M1 => r = (v, M1))) (M : zM) (x1 : Int32) (x3 : Int32) (x4 : Int32) (x5 : Int32) (t0 : Int32) (K62 : Int32 → Int32 → Int32 → Option (Int32 × zM)) (hK62 : ∀ (x2 : Int32) (x3 : Int32) (x4 : Int32) (H : Heap) (locs : List Loc) (ls : Array Slot), K62 x2 x3 x4 = some r → zS g rE 15 s H locs M → lv_has ls 6 [(0, .ref (g.2.2 0)), (1, .int x1), (2, .int x2), (3, .int x3), (4, .int x4)] → W p l e (zrm 4 0 0) s m args below meth c H locs 0 0 Q (F0 m 62 ls [])) (H : Heap) (locs : List Loc) (ls : Array Slot) (h : b_X11_witness_109 K62 M x1 x3 x4 x5 t0 = some r) (hZ : zS g rE 15 s H locs M) (hl : lv_has ls 6 [(0, .ref (g.2.2 0)), (1, .int x1), (3, .int x3), (4, .int x4), (5, .int x5)]) : W p l e (zrm 4 0 0) s m args below meth c H locs 0 0 Q (F0 m 109 ls [.int t0]) := by
  have hx := E.1.1
  have hb := E.1.2.1
  unfold b_X11_witness_109 at h
  refine lv_istore_n (lv' := [(2, .int t0), (0, .ref (g.2.2 0)), (1, .int x1), (3, .int x3), (4, .int x4), (5, .int x5)]) hx hb dX11_witness_109 rfl hl (by decide) rfl (fun ls hl => ?_)
  refine lv_iload_n hx hb dX11_witness_110 rfl (lv_at hl 3 rfl) ?_
  refine lv_iload hx hb dX11_witness_111 (lv_at hl 5 rfl) ?_
  refine va_mmax hx hb (E.1.2.2.1.trans hl.1.symm) E.1.2.2.2.1 (E.w kw_1697) (E.w kw_453) (E.w kw_16) (E.w kw_454) (Nat.le_of_ble_eq_true rfl) (Nat.le_of_ble_eq_true rfl) (Nat.le_of_ble_eq_true rfl) (Nat.le_of_ble_eq_true rfl) dX11_witness_113 ?_
  refine zni h (fun v_1 ev_1 h => ?_)
  refine lv_istore_n (lv' := [(3, .int v_1), (2, .int t0), (0, .ref (g.2.2 0)), (1, .int x1), (4, .int x4), (5, .int x5)]) hx hb dX11_witness_116 rfl hl (by decide) rfl (fun ls hl => ?_)
  obtain ⟨x4_2, ex4_2, h⟩ := znm_ex h
  refine lv_iinc (v := x4_2) (lv' := [(4, .int x4_2), (3, .int v_1), (2, .int t0), (0, .ref (g.2.2 0)), (1, .int x1), (5, .int x5)]) hx hb dX11_witness_117 hl (k := 4) rfl (by rw [ex4_2]; rfl) (by decide) rfl (fun ls hl => ?_)
  refine lv_goto (tgt := 62) hx hb dX11_witness_120 (by decide) ?_
  exact hK62 t0 v_1 x4_2 H locs ls h hZ (lv_sub hl [3, 4, 2, 1, 0] rfl)
def b_X11_witness_95 (K62 : Int32 → Int32 → Int32 → Option (Int32 × zM)) (M : zM) (x1 : Int32) (x2 : Int32) (x3 : Int32) (x4 : Int32) (t0 : Int32) : Option (Int32 × zM) :=
  if t0 ≤ x3 then (b_X11_witness_109 K62 M x1 x3 x4 t0 x2) else (b_X11_witness_109 K62 M x1 x3 x4 t0 x4)
set_option maxRecDepth 100000 in
set_option maxHeartbeats 4000000 in
theorem lb_X11_witness_95 (g : zG)  {r : Int32 × zM} (E : zX g p m c cX11_witness 6 s args (zWs yX11_witness cX11_witness 6 (some .int)) RX11) (hret : zRi g rE 15 p l e (zrm 4 0 0) s m args below meth c 0 0 Q cX11_witness .int (fun v M1 => r = (v, M1))) (M : zM) (x1 : Int32) (x2 : Int32) (x3 : Int32) (x4 : Int32) (t0 : Int32) (K62 : Int32 → Int32 → Int32 → Option (Int32 × zM)) (hK62 : ∀ (x2 : Int32) (x3 : Int32) (x4 : Int32) (H : Heap) (locs : List Loc) (ls : Array Slot), K62 x2 x3 x4 = some r → zS g rE 15 s H locs M → lv_has ls 6 [(0, .ref (g.2.2 0)), (1, .int x1), (2, .int x2), (3, .int x3), (4, .int x4)] → W p l e (zrm 4 0 0) s m args below meth c H locs 0 0 Q (F0 m 62 ls [])) (H : Heap) (locs : List Loc) (ls : Array Slot) (h : b_X11_witness_95 K62 M x1 x2 x3 x4 t0 = some r) (hZ : zS g rE 15 s H locs M) (hl : lv_has ls 6 [(0, .ref (g.2.2 0)), (1, .int x1), (2, .int x2), (3, .int x3), (4, .int x4)]) : W p l e (zrm 4 0 0) s m args below meth c H locs 0 0 Q (F0 m 95 ls [.int t0]) := by
  have hx := E.1.1
  have hb := E.1.2.1
  unfold b_X11_witness_95 at h
  refine lv_istore (lv' := [(5, .int t0), (0, .ref (g.2.2 0)), (1, .int x1), (2, .int x2), (3, .int x3), (4, .int x4)]) hx hb dX11_witness_95 hl (by decide) rfl (fun ls hl => ?_)
  refine lv_iload hx hb dX11_witness_97 (lv_at hl 0 rfl) ?_
  refine lv_iload_n hx hb dX11_witness_99 rfl (lv_at hl 4 rfl) ?_
  refine zic_le (tgt := 108) h E dX11_witness_100 (by decide) (fun c_3 h => ?_) (fun c_3 h => ?_)
  · refine lv_iload_n hx hb dX11_witness_108 rfl (lv_at hl 3 rfl) ?_
    exact lb_X11_witness_109 g  E hret M x1 x3 x4 t0 x2 K62 hK62 H locs ls h hZ (lv_sub hl [1, 2, 4, 5, 0] rfl)
  · refine lv_iload hx hb dX11_witness_103 (lv_at hl 5 rfl) ?_
    refine lv_goto (tgt := 109) hx hb dX11_witness_105 (by decide) ?_
    exact lb_X11_witness_109 g  E hret M x1 x3 x4 t0 x4 K62 hK62 H locs ls h hZ (lv_sub hl [1, 2, 4, 5, 0] rfl)
def b_X11_witness_62  (M : zM) (x1 : Int32) : Nat → Int32 → Int32 → Int32 → Option (Int32 × zM)
  | 0, _, _, _ => none
  | n + 1, x2, x3, x4 =>
    if 12 ≤ x4 then (some (x2, M)) else (zbn (f_X11_has M x1 x4) (fun u_4 => if u_4 = 0 then (zck (zin (26 + x4) 2030) (znm (if 0 ≤ (M 1 (26 + x4 : Int32).toNatClampNeg) then (M 1 (26 + x4 : Int32).toNatClampNeg) else 0 - (M 1 (26 + x4 : Int32).toNatClampNeg)) (fun v_5 => b_X11_witness_95 (fun x2 x3 x4 => b_X11_witness_62  M x1 n x2 x3 x4) M x1 x2 x3 x4 v_5))) else (b_X11_witness_95 (fun x2 x3 x4 => b_X11_witness_62  M x1 n x2 x3 x4) M x1 x2 x3 x4 ((-1)))))
set_option maxRecDepth 100000 in
set_option maxHeartbeats 4000000 in
theorem lb_X11_witness_62 (g : zG)  {r : Int32 × zM} (E : zX g p m c cX11_witness 6 s args (zWs yX11_witness cX11_witness 6 (some .int)) RX11) (hret : zRi g rE 15 p l e (zrm 4 0 0) s m args below meth c 0 0 Q cX11_witness .int (fun v M1 => r = (v, M1))) (M : zM) (x1 : Int32)  : ∀ (n : Nat) (x2 : Int32) (x3 : Int32) (x4 : Int32) (H : Heap) (locs : List Loc) (ls : Array Slot), b_X11_witness_62  M x1 n x2 x3 x4 = some r → zS g rE 15 s H locs M → lv_has ls 6 [(0, .ref (g.2.2 0)), (1, .int x1), (2, .int x2), (3, .int x3), (4, .int x4)] → W p l e (zrm 4 0 0) s m args below meth c H locs 0 0 Q (F0 m 62 ls []) := by
  have hx := E.1.1
  have hb := E.1.2.1
  intro n
  induction n with
  | zero => intro x2 x3 x4 H locs ls h hZ hl; cases h
  | succ n ih =>
    intro x2 x3 x4 H locs ls h hZ hl
    rw [b_X11_witness_62] at h
    refine lv_iload hx hb dX11_witness_62 (lv_at hl 4 rfl) ?_
    refine lv_bipush (v := 12) hx hb dX11_witness_64 (by decide) ?_
    refine zic_ge (tgt := 123) h E dX11_witness_66 (by decide) (fun c_7 h => ?_) (fun c_7 h => ?_)
    · refine lv_iload_n hx hb dX11_witness_123 rfl (lv_at hl 2 rfl) ?_
      exact hret _ _ _ _ _ _ (Option.some.inj h).symm rfl hZ dX11_witness_124
    · refine lv_iload_n hx hb dX11_witness_69 rfl (lv_at hl 1 rfl) ?_
      refine lv_iload hx hb dX11_witness_70 (lv_at hl 4 rfl) ?_
      obtain ⟨u_4, qu_4, h⟩ := zbn_some h
      refine zciR (zrunS E hZ v_X11_has kw_1922 (c_X11_has l g M  x1 x4 qu_4 _) rfl hl.1 rfl (Nat.le_of_ble_eq_true rfl) ⟨by decide, by decide⟩ ⟨by decide, by decide⟩ dX11_witness_72) hZ (fun H locs hZ => ?_)
      refine zif_eq (tgt := 82) h E dX11_witness_75 (by decide) (fun c_6 h => ?_) (fun c_6 h => ?_)
      · refine lv_aload_n hx hb dX11_witness_82 rfl (lv_at hl 0 rfl) ?_
        refine zg (v := .ref (g.2.2 1)) E hZ (by decide) (re_0 _) kc_X11 1 (by decide) kw_1369 rfl rfl dX11_witness_83 ?_
        refine lv_bipush (v := 26) hx hb dX11_witness_86 (by decide) ?_
        refine lv_iload hx hb dX11_witness_88 (lv_at hl 4 rfl) ?_
        refine lv_iadd hx hb dX11_witness_90 ?_
        refine zia h E hZ (by decide) re_1 dX11_witness_91 (fun h => ?_)
        refine va_mabs hx hb (E.1.2.2.1.trans hl.1.symm) E.1.2.2.2.1 (E.w kw_1677) (E.w kw_450) (E.w kw_16) (E.w kw_451) (Nat.le_of_ble_eq_true rfl) (Nat.le_of_ble_eq_true rfl) (Nat.le_of_ble_eq_true rfl) (Nat.le_of_ble_eq_true rfl) dX11_witness_92 ?_
        refine zni h (fun v_5 ev_5 h => ?_)
        exact lb_X11_witness_95 g  E hret M x1 x2 x3 x4 v_5 (fun x2 x3 x4 => b_X11_witness_62  M x1 n x2 x3 x4) ih H locs ls h hZ (lv_sub hl [0, 1, 2, 3, 4] rfl)
      · refine lv_iconst (v := (-1)) hx hb dX11_witness_78 (by decide) ?_
        refine lv_goto (tgt := 95) hx hb dX11_witness_79 (by decide) ?_
        exact lb_X11_witness_95 g  E hret M x1 x2 x3 x4 ((-1)) (fun x2 x3 x4 => b_X11_witness_62  M x1 n x2 x3 x4) ih H locs ls h hZ (lv_sub hl [0, 1, 2, 3, 4] rfl)
def b_X11_witness_55  (M : zM) (x1 : Int32) : Option (Int32 × zM) :=
  b_X11_witness_62  M x1 6000 ((-1)) ((-1)) 0
set_option maxRecDepth 100000 in
set_option maxHeartbeats 4000000 in
theorem lb_X11_witness_55 (g : zG)  {r : Int32 × zM} (E : zX g p m c cX11_witness 6 s args (zWs yX11_witness cX11_witness 6 (some .int)) RX11) (hret : zRi g rE 15 p l e (zrm 4 0 0) s m args below meth c 0 0 Q cX11_witness .int (fun v M1 => r = (v, M1))) (M : zM) (x1 : Int32)  (H : Heap) (locs : List Loc) (ls : Array Slot) (h : b_X11_witness_55  M x1 = some r) (hZ : zS g rE 15 s H locs M) (hl : lv_has ls 6 [(0, .ref (g.2.2 0)), (1, .int x1)]) : W p l e (zrm 4 0 0) s m args below meth c H locs 0 0 Q (F0 m 55 ls []) := by
  have hx := E.1.1
  have hb := E.1.2.1
  unfold b_X11_witness_55 at h
  refine lv_iconst (v := (-1)) hx hb dX11_witness_55 (by decide) ?_
  refine lv_istore_n (lv' := [(2, .int ((-1))), (0, .ref (g.2.2 0)), (1, .int x1)]) hx hb dX11_witness_56 rfl hl (by decide) rfl (fun ls hl => ?_)
  refine lv_iconst (v := (-1)) hx hb dX11_witness_57 (by decide) ?_
  refine lv_istore_n (lv' := [(3, .int ((-1))), (2, .int ((-1))), (0, .ref (g.2.2 0)), (1, .int x1)]) hx hb dX11_witness_58 rfl hl (by decide) rfl (fun ls hl => ?_)
  refine lv_iconst (v := 0) hx hb dX11_witness_59 (by decide) ?_
  refine lv_istore (lv' := [(4, .int 0), (3, .int ((-1))), (2, .int ((-1))), (0, .ref (g.2.2 0)), (1, .int x1)]) hx hb dX11_witness_60 hl (by decide) rfl (fun ls hl => ?_)
  exact lb_X11_witness_62 g  E hret M x1  6000 ((-1)) ((-1)) 0 H locs ls h hZ (lv_sub hl [3, 4, 2, 1, 0] rfl)
def b_X11_witness_30  (M : zM) : Nat → Int32 → Int32 → Option (Int32 × zM)
  | 0, _, _ => none
  | n + 1, x1, x2 =>
    if (M 0 11) ≤ x2 then (b_X11_witness_55  M x1) else (zck (zin x2 400) (znm (x1 ||| ((1 : Int32) <<< ((M 6 (x2 : Int32).toNatClampNeg) &&& 31))) (fun x1_8 => znm (x2 + 2) (fun x2_9 => b_X11_witness_30  M n x1_8 x2_9))))
set_option maxRecDepth 100000 in
set_option maxHeartbeats 4000000 in
theorem lb_X11_witness_30 (g : zG)  {r : Int32 × zM} (E : zX g p m c cX11_witness 6 s args (zWs yX11_witness cX11_witness 6 (some .int)) RX11) (hret : zRi g rE 15 p l e (zrm 4 0 0) s m args below meth c 0 0 Q cX11_witness .int (fun v M1 => r = (v, M1))) (M : zM)  : ∀ (n : Nat) (x1 : Int32) (x2 : Int32) (H : Heap) (locs : List Loc) (ls : Array Slot), b_X11_witness_30  M n x1 x2 = some r → zS g rE 15 s H locs M → lv_has ls 6 [(0, .ref (g.2.2 0)), (1, .int x1), (2, .int x2)] → W p l e (zrm 4 0 0) s m args below meth c H locs 0 0 Q (F0 m 30 ls []) := by
  have hx := E.1.1
  have hb := E.1.2.1
  intro n
  induction n with
  | zero => intro x1 x2 H locs ls h hZ hl; cases h
  | succ n ih =>
    intro x1 x2 H locs ls h hZ hl
    rw [b_X11_witness_30] at h
    refine lv_iload_n hx hb dX11_witness_30 rfl (lv_at hl 2 rfl) ?_
    refine lv_aload_n hx hb dX11_witness_31 rfl (lv_at hl 0 rfl) ?_
    refine zg (v := .int (M 0 11)) E hZ (by decide) (re_0 _) kc_X11 11 (by decide) kw_1379 rfl rfl dX11_witness_32 ?_
    refine zic_ge (tgt := 55) h E dX11_witness_35 (by decide) (fun c_10 h => ?_) (fun c_10 h => ?_)
    · exact lb_X11_witness_55 g  E hret M x1  H locs ls h hZ (lv_sub hl [0, 1] rfl)
    · refine lv_iload_n hx hb dX11_witness_38 rfl (lv_at hl 1 rfl) ?_
      refine lv_iconst (v := 1) hx hb dX11_witness_39 (by decide) ?_
      refine lv_aload_n hx hb dX11_witness_40 rfl (lv_at hl 0 rfl) ?_
      refine zg (v := .ref (g.2.2 6)) E hZ (by decide) (re_0 _) kc_X11 8 (by decide) kw_1376 rfl rfl dX11_witness_41 ?_
      refine lv_iload_n hx hb dX11_witness_44 rfl (lv_at hl 2 rfl) ?_
      refine zba h E hZ (by decide) re_6 dX11_witness_45 (fun h => ?_)
      refine lv_ishl hx hb dX11_witness_46 ?_
      refine lv_ior hx hb dX11_witness_47 ?_
      refine zni h (fun x1_8 ex1_8 h => ?_)
      refine lv_istore_n (lv' := [(1, .int x1_8), (0, .ref (g.2.2 0)), (2, .int x2)]) hx hb dX11_witness_48 rfl hl (by decide) rfl (fun ls hl => ?_)
      obtain ⟨x2_9, ex2_9, h⟩ := znm_ex h
      refine lv_iinc (v := x2_9) (lv' := [(2, .int x2_9), (1, .int x1_8), (0, .ref (g.2.2 0))]) hx hb dX11_witness_49 hl (k := 2) rfl (by rw [ex2_9]; rfl) (by decide) rfl (fun ls hl => ?_)
      refine lv_goto (tgt := 30) hx hb dX11_witness_52 (by decide) ?_
      exact ih x1_8 x2_9 H locs ls h hZ (lv_sub hl [2, 1, 0] rfl)
def b_X11_witness_17  (M : zM) (t0 : Int32) : Option (Int32 × zM) :=
  zbn (f_X11_throwsIf M t0 1) (fun u_11 => if u_11.1 = 0 then (b_X11_witness_30  u_11.2 6000 0 0) else (some (0, u_11.2)))
set_option maxRecDepth 100000 in
set_option maxHeartbeats 4000000 in
theorem lb_X11_witness_17 (g : zG)  {r : Int32 × zM} (E : zX g p m c cX11_witness 6 s args (zWs yX11_witness cX11_witness 6 (some .int)) RX11) (hret : zRi g rE 15 p l e (zrm 4 0 0) s m args below meth c 0 0 Q cX11_witness .int (fun v M1 => r = (v, M1))) (M : zM) (t0 : Int32)  (H : Heap) (locs : List Loc) (ls : Array Slot) (h : b_X11_witness_17  M t0 = some r) (hZ : zS g rE 15 s H locs M) (hl : lv_has ls 6 [(0, .ref (g.2.2 0))]) : W p l e (zrm 4 0 0) s m args below meth c H locs 0 0 Q (F0 m 17 ls [.int t0, .ref (g.2.2 0)]) := by
  have hx := E.1.1
  have hb := E.1.2.1
  unfold b_X11_witness_17 at h
  refine lv_iconst (v := 1) hx hb dX11_witness_17 (by decide) ?_
  obtain ⟨u_11, qu_11, h⟩ := zbn_some h
  refine zciS (zrunV E hZ (by decide) (re_0 _) rfl rfl v_X11_throwsIf kw_1651 (c_X11_throwsIf l g M  t0 1 qu_11 _) rfl hl.1 rfl (Nat.le_of_ble_eq_true rfl) ⟨by decide, by decide⟩ ⟨by decide, by decide⟩ dX11_witness_18) hZ (fun H locs hZ => ?_)
  refine zif_eq (tgt := 26) h E dX11_witness_21 (by decide) (fun c_12 h => ?_) (fun c_12 h => ?_)
  · refine lv_iconst (v := 0) hx hb dX11_witness_26 (by decide) ?_
    refine lv_istore_n (lv' := [(1, .int 0), (0, .ref (g.2.2 0))]) hx hb dX11_witness_27 rfl hl (by decide) rfl (fun ls hl => ?_)
    refine lv_iconst (v := 0) hx hb dX11_witness_28 (by decide) ?_
    refine lv_istore_n (lv' := [(2, .int 0), (1, .int 0), (0, .ref (g.2.2 0))]) hx hb dX11_witness_29 rfl hl (by decide) rfl (fun ls hl => ?_)
    exact lb_X11_witness_30 g  E hret u_11.2  6000 0 0 H locs ls h hZ (lv_sub hl [2, 1, 0] rfl)
  · refine lv_iconst (v := 0) hx hb dX11_witness_24 (by decide) ?_
    exact hret _ _ _ _ _ _ (Option.some.inj h).symm rfl hZ dX11_witness_25
def f_X11_witness (M : zM)  : Option (Int32 × zM) :=
  zbn (f_X11_uses M ) (fun u_13 => zbn (f_X11_isTold u_13 ) (fun u_14 => if u_14 = 0 then (b_X11_witness_17  u_13 1) else (b_X11_witness_17  u_13 0)))
set_option maxRecDepth 100000 in
set_option maxHeartbeats 4000000 in
theorem w_X11_witness (g : zG)  {r : Int32 × zM} (E : zX g p m c cX11_witness 6 s args (zWs yX11_witness cX11_witness 6 (some .int)) RX11) (hret : zRi g rE 15 p l e (zrm 4 0 0) s m args below meth c 0 0 Q cX11_witness .int (fun v M1 => r = (v, M1))) (M : zM)  (H : Heap) (locs : List Loc) (ls : Array Slot) (h : f_X11_witness M  = some r) (hZ : zS g rE 15 s H locs M) (hl : lv_has ls 6 [(0, .ref (g.2.2 0))]) : W p l e (zrm 4 0 0) s m args below meth c H locs 0 0 Q (F0 m 0 ls []) := by
  have hx := E.1.1
  have hb := E.1.2.1
  unfold f_X11_witness at h
  refine lv_aload_n hx hb dX11_witness_0 rfl (lv_at hl 0 rfl) ?_
  obtain ⟨u_13, qu_13, h⟩ := zbn_some h
  refine zcvS (zrunV E hZ (by decide) (re_0 _) rfl rfl v_X11_uses kw_1476 (c_X11_uses l g M   qu_13 _) rfl hl.1 rfl (Nat.le_of_ble_eq_true rfl) ⟨by decide, by decide⟩ ⟨by decide, by decide⟩ dX11_witness_1) hZ (fun H locs hZ => ?_)
  refine lv_aload_n hx hb dX11_witness_4 rfl (lv_at hl 0 rfl) ?_
  refine lv_aload_n hx hb dX11_witness_5 rfl (lv_at hl 0 rfl) ?_
  obtain ⟨u_14, qu_14, h⟩ := zbn_some h
  refine zciR (zrunV E hZ (by decide) (re_0 _) rfl rfl v_X11_isTold kw_1982 (c_X11_isTold l g u_13   qu_14 _) rfl hl.1 rfl (Nat.le_of_ble_eq_true rfl) ⟨by decide, by decide⟩ ⟨by decide, by decide⟩ dX11_witness_6) hZ (fun H locs hZ => ?_)
  refine zif_ne (tgt := 16) h E dX11_witness_9 (by decide) (fun c_15 h => ?_) (fun c_15 h => ?_)
  · refine lv_iconst (v := 0) hx hb dX11_witness_16 (by decide) ?_
    exact lb_X11_witness_17 g  E hret u_13 0  H locs ls h hZ (lv_sub hl [0] rfl)
  · refine lv_iconst (v := 1) hx hb dX11_witness_12 (by decide) ?_
    refine lv_goto (tgt := 17) hx hb dX11_witness_13 (by decide) ?_
    exact lb_X11_witness_17 g  E hret u_13 1  H locs ls h hZ (lv_sub hl [0] rfl)
theorem c_X11_witness (l : Launch) (g : zG) (M : zM)   {r : Int32 × zM} (h : f_X11_witness M  = some r) : zMi l g rE 15 yX11_witness (zWs yX11_witness cX11_witness 6 (some .int)) 4 [.ref (g.2.2 0)] M (fun v M1 => r = (v, M1)) :=
  zMi_of (by decide +kernel) (Nat.le_of_ble_eq_true rfl) (fun p e s m args below meth c Q ls E hret hZ hl => w_X11_witness g  E hret M  _ _ ls h hZ hl)
theorem v_X11_witness : zYV yX11_witness cX11_witness 6 (some .int) 0 := ⟨kw_1997, kw_15, kw_1995, kw_1996, by decide +kernel⟩

def f_X11_dayOf (M : zM) (x1 : Int32) (x2 : Int32) : Option (Int32) :=
  zbn (f_X11_printedOf M x1) (fun u_1 => zck (zin 10 2030) (zbn (f_J9_floorDiv_7cf53 ((u_1 - (M 1 (10 : Int32).toNatClampNeg)) + x2) 24) (fun u_2 => some u_2)))
set_option maxRecDepth 100000 in
set_option maxHeartbeats 4000000 in
theorem w_X11_dayOf (g : zG)  {r : Int32} {M0 : zM} (E : zX g p m c cX11_dayOf 3 s args (zWs yX11_dayOf cX11_dayOf 3 (some .int)) RX11) (hret : zRi g rE 15 p l e (zrm 3 0 0) s m args below meth c 0 0 Q cX11_dayOf .int (fun v M1 => v = r ∧ M1 = M0)) (M : zM) (hM : M = M0) (x1 : Int32) (x2 : Int32) (H : Heap) (locs : List Loc) (ls : Array Slot) (h : f_X11_dayOf M x1 x2 = some r) (hZ : zS g rE 15 s H locs M) (hl : lv_has ls 3 [(0, .ref (g.2.2 0)), (1, .int x1), (2, .int x2)]) : W p l e (zrm 3 0 0) s m args below meth c H locs 0 0 Q (F0 m 0 ls []) := by
  have hx := E.1.1
  have hb := E.1.2.1
  unfold f_X11_dayOf at h
  refine lv_aload_n hx hb dX11_dayOf_0 rfl (lv_at hl 0 rfl) ?_
  refine lv_iload_n hx hb dX11_dayOf_1 rfl (lv_at hl 1 rfl) ?_
  obtain ⟨u_1, qu_1, h⟩ := zbn_some h
  refine zciR (zrunV E hZ (by decide) (re_0 _) rfl rfl v_X11_printedOf kw_1710 (c_X11_printedOf l g M  x1 qu_1 _) rfl hl.1 rfl (Nat.le_of_ble_eq_true rfl) ⟨by decide, by decide⟩ ⟨by decide, by decide⟩ dX11_dayOf_2) hZ (fun H locs hZ => ?_)
  refine lv_aload_n hx hb dX11_dayOf_5 rfl (lv_at hl 0 rfl) ?_
  refine zg (v := .ref (g.2.2 1)) E hZ (by decide) (re_0 _) kc_X11 1 (by decide) kw_1369 rfl rfl dX11_dayOf_6 ?_
  refine lv_bipush (v := 10) hx hb dX11_dayOf_9 (by decide) ?_
  refine zia h E hZ (by decide) re_1 dX11_dayOf_11 (fun h => ?_)
  refine lv_isub hx hb dX11_dayOf_12 ?_
  refine lv_iload_n hx hb dX11_dayOf_13 rfl (lv_at hl 2 rfl) ?_
  refine lv_iadd hx hb dX11_dayOf_14 ?_
  refine lv_bipush (v := 24) hx hb dX11_dayOf_15 (by decide) ?_
  obtain ⟨u_2, qu_2, h⟩ := zbn_some h
  refine zciR (zrunS E hZ v_J9_floorDiv_7cf53 kw_2006 (c_J9_floorDiv_7cf53 l g rE 15 M  ((u_1 - (M 1 (10 : Int32).toNatClampNeg)) + x2) 24 qu_2 _) rfl hl.1 rfl (Nat.le_of_ble_eq_true rfl) ⟨by decide, by decide⟩ ⟨by decide, by decide⟩ dX11_dayOf_17) hZ (fun H locs hZ => ?_)
  exact hret _ _ _ _ _ _ ⟨Option.some.inj h, hM⟩ rfl hZ dX11_dayOf_20
theorem c_X11_dayOf (l : Launch) (g : zG) (M : zM)  (x1 : Int32) (x2 : Int32) {r : Int32} (h : f_X11_dayOf M x1 x2 = some r) : zMi l g rE 15 yX11_dayOf (zWs yX11_dayOf cX11_dayOf 3 (some .int)) 3 [.ref (g.2.2 0), .int x1, .int x2] M (fun v M1 => v = r ∧ M1 = M) :=
  zMi_of (by decide +kernel) (Nat.le_of_ble_eq_true rfl) (fun p e s m args below meth c Q ls E hret hZ hl => w_X11_dayOf g  E hret M rfl x1 x2 _ _ ls h hZ hl)
theorem v_X11_dayOf : zYV yX11_dayOf cX11_dayOf 3 (some .int) 2 := ⟨kw_2005, kw_15, kw_2004, kp_114, by decide +kernel⟩

def b_X11_clash_72 (K39 : Int32 → Int32 → Option (Int32 × zM)) (M : zM) (x1 : Int32) (x2 : Int32) (x4 : Int32) (t0 : Int32) (t1 : Int32) : Option (Int32 × zM) :=
  znm (t1 ||| t0) (fun x3_1 => znm (x4 + 1) (fun x4_2 => K39 x3_1 x4_2))
set_option maxRecDepth 100000 in
set_option maxHeartbeats 4000000 in
theorem lb_X11_clash_72 (g : zG)  {r : Int32 × zM} (E : zX g p m c cX11_clash 5 s args (zWs yX11_clash cX11_clash 5 (some .int)) RX11) (hret : zRi g rE 15 p l e (zrm 4 0 0) s m args below meth c 0 0 Q cX11_clash .int (fun v M1 => r = (v, M1))) (M : zM) (x1 : Int32) (x2 : Int32) (x4 : Int32) (t0 : Int32) (t1 : Int32) (K39 : Int32 → Int32 → Option (Int32 × zM)) (hK39 : ∀ (x3 : Int32) (x4 : Int32) (H : Heap) (locs : List Loc) (ls : Array Slot), K39 x3 x4 = some r → zS g rE 15 s H locs M → lv_has ls 5 [(0, .ref (g.2.2 0)), (1, .int x1), (2, .int x2), (3, .int x3), (4, .int x4)] → W p l e (zrm 4 0 0) s m args below meth c H locs 0 0 Q (F0 m 39 ls [])) (H : Heap) (locs : List Loc) (ls : Array Slot) (h : b_X11_clash_72 K39 M x1 x2 x4 t0 t1 = some r) (hZ : zS g rE 15 s H locs M) (hl : lv_has ls 5 [(0, .ref (g.2.2 0)), (1, .int x1), (2, .int x2), (4, .int x4)]) : W p l e (zrm 4 0 0) s m args below meth c H locs 0 0 Q (F0 m 72 ls [.int t0, .int t1]) := by
  have hx := E.1.1
  have hb := E.1.2.1
  unfold b_X11_clash_72 at h
  refine lv_ior hx hb dX11_clash_72 ?_
  refine zni h (fun x3_1 ex3_1 h => ?_)
  refine lv_istore_n (lv' := [(3, .int x3_1), (0, .ref (g.2.2 0)), (1, .int x1), (2, .int x2), (4, .int x4)]) hx hb dX11_clash_73 rfl hl (by decide) rfl (fun ls hl => ?_)
  obtain ⟨x4_2, ex4_2, h⟩ := znm_ex h
  refine lv_iinc (v := x4_2) (lv' := [(4, .int x4_2), (3, .int x3_1), (0, .ref (g.2.2 0)), (1, .int x1), (2, .int x2)]) hx hb dX11_clash_74 hl (k := 4) rfl (by rw [ex4_2]; rfl) (by decide) rfl (fun ls hl => ?_)
  refine lv_goto (tgt := 39) hx hb dX11_clash_77 (by decide) ?_
  exact hK39 x3_1 x4_2 H locs ls h hZ (lv_sub hl [2, 3, 4, 1, 0] rfl)
def b_X11_clash_39  (M : zM) (x1 : Int32) (x2 : Int32) : Nat → Int32 → Int32 → Option (Int32 × zM)
  | 0, _, _ => none
  | n + 1, x3, x4 =>
    if 12 ≤ x4 then (some (x3, M)) else (zbn (f_X11_dayOf M x4 x1) (fun u_3 => zbn (f_X11_dayOf M x4 x2) (fun u_4 => if u_3 = u_4 then (b_X11_clash_72 (fun x3 x4 => b_X11_clash_39  M x1 x2 n x3 x4) M x1 x2 x4 0 x3) else (b_X11_clash_72 (fun x3 x4 => b_X11_clash_39  M x1 x2 n x3 x4) M x1 x2 x4 ((1 : Int32) <<< (x4 &&& 31)) x3))))
set_option maxRecDepth 100000 in
set_option maxHeartbeats 4000000 in
theorem lb_X11_clash_39 (g : zG)  {r : Int32 × zM} (E : zX g p m c cX11_clash 5 s args (zWs yX11_clash cX11_clash 5 (some .int)) RX11) (hret : zRi g rE 15 p l e (zrm 4 0 0) s m args below meth c 0 0 Q cX11_clash .int (fun v M1 => r = (v, M1))) (M : zM) (x1 : Int32) (x2 : Int32)  : ∀ (n : Nat) (x3 : Int32) (x4 : Int32) (H : Heap) (locs : List Loc) (ls : Array Slot), b_X11_clash_39  M x1 x2 n x3 x4 = some r → zS g rE 15 s H locs M → lv_has ls 5 [(0, .ref (g.2.2 0)), (1, .int x1), (2, .int x2), (3, .int x3), (4, .int x4)] → W p l e (zrm 4 0 0) s m args below meth c H locs 0 0 Q (F0 m 39 ls []) := by
  have hx := E.1.1
  have hb := E.1.2.1
  intro n
  induction n with
  | zero => intro x3 x4 H locs ls h hZ hl; cases h
  | succ n ih =>
    intro x3 x4 H locs ls h hZ hl
    rw [b_X11_clash_39] at h
    refine lv_iload hx hb dX11_clash_39 (lv_at hl 4 rfl) ?_
    refine lv_bipush (v := 12) hx hb dX11_clash_41 (by decide) ?_
    refine zic_ge (tgt := 80) h E dX11_clash_43 (by decide) (fun c_6 h => ?_) (fun c_6 h => ?_)
    · refine lv_iload_n hx hb dX11_clash_80 rfl (lv_at hl 3 rfl) ?_
      exact hret _ _ _ _ _ _ (Option.some.inj h).symm rfl hZ dX11_clash_81
    · refine lv_iload_n hx hb dX11_clash_46 rfl (lv_at hl 3 rfl) ?_
      refine lv_aload_n hx hb dX11_clash_47 rfl (lv_at hl 0 rfl) ?_
      refine lv_iload hx hb dX11_clash_48 (lv_at hl 4 rfl) ?_
      refine lv_iload_n hx hb dX11_clash_50 rfl (lv_at hl 1 rfl) ?_
      obtain ⟨u_3, qu_3, h⟩ := zbn_some h
      refine zciR (zrunV E hZ (by decide) (re_0 _) rfl rfl v_X11_dayOf kw_2002 (c_X11_dayOf l g M  x4 x1 qu_3 _) rfl hl.1 rfl (Nat.le_of_ble_eq_true rfl) ⟨by decide, by decide⟩ ⟨by decide, by decide⟩ dX11_clash_51) hZ (fun H locs hZ => ?_)
      refine lv_aload_n hx hb dX11_clash_54 rfl (lv_at hl 0 rfl) ?_
      refine lv_iload hx hb dX11_clash_55 (lv_at hl 4 rfl) ?_
      refine lv_iload_n hx hb dX11_clash_57 rfl (lv_at hl 2 rfl) ?_
      obtain ⟨u_4, qu_4, h⟩ := zbn_some h
      refine zciR (zrunV E hZ (by decide) (re_0 _) rfl rfl v_X11_dayOf kw_2002 (c_X11_dayOf l g M  x4 x2 qu_4 _) rfl hl.1 rfl (Nat.le_of_ble_eq_true rfl) ⟨by decide, by decide⟩ ⟨by decide, by decide⟩ dX11_clash_58) hZ (fun H locs hZ => ?_)
      refine zic_eq (tgt := 71) h E dX11_clash_61 (by decide) (fun c_5 h => ?_) (fun c_5 h => ?_)
      · refine lv_iconst (v := 0) hx hb dX11_clash_71 (by decide) ?_
        exact lb_X11_clash_72 g  E hret M x1 x2 x4 0 x3 (fun x3 x4 => b_X11_clash_39  M x1 x2 n x3 x4) ih H locs ls h hZ (lv_sub hl [0, 1, 2, 4] rfl)
      · refine lv_iconst (v := 1) hx hb dX11_clash_64 (by decide) ?_
        refine lv_iload hx hb dX11_clash_65 (lv_at hl 4 rfl) ?_
        refine lv_ishl hx hb dX11_clash_67 ?_
        refine lv_goto (tgt := 72) hx hb dX11_clash_68 (by decide) ?_
        exact lb_X11_clash_72 g  E hret M x1 x2 x4 ((1 : Int32) <<< (x4 &&& 31)) x3 (fun x3 x4 => b_X11_clash_39  M x1 x2 n x3 x4) ih H locs ls h hZ (lv_sub hl [0, 1, 2, 4] rfl)
def b_X11_clash_25  (M : zM) (x1 : Int32) (x2 : Int32) (t0 : Int32) : Option (Int32 × zM) :=
  zbn (f_X11_throwsIf M t0 1) (fun u_7 => if u_7.1 = 0 then (b_X11_clash_39  u_7.2 x1 x2 6000 0 0) else (some (0, u_7.2)))
set_option maxRecDepth 100000 in
set_option maxHeartbeats 4000000 in
theorem lb_X11_clash_25 (g : zG)  {r : Int32 × zM} (E : zX g p m c cX11_clash 5 s args (zWs yX11_clash cX11_clash 5 (some .int)) RX11) (hret : zRi g rE 15 p l e (zrm 4 0 0) s m args below meth c 0 0 Q cX11_clash .int (fun v M1 => r = (v, M1))) (M : zM) (x1 : Int32) (x2 : Int32) (t0 : Int32)  (H : Heap) (locs : List Loc) (ls : Array Slot) (h : b_X11_clash_25  M x1 x2 t0 = some r) (hZ : zS g rE 15 s H locs M) (hl : lv_has ls 5 [(0, .ref (g.2.2 0)), (1, .int x1), (2, .int x2)]) : W p l e (zrm 4 0 0) s m args below meth c H locs 0 0 Q (F0 m 25 ls [.int t0, .ref (g.2.2 0)]) := by
  have hx := E.1.1
  have hb := E.1.2.1
  unfold b_X11_clash_25 at h
  refine lv_iconst (v := 1) hx hb dX11_clash_25 (by decide) ?_
  obtain ⟨u_7, qu_7, h⟩ := zbn_some h
  refine zciS (zrunV E hZ (by decide) (re_0 _) rfl rfl v_X11_throwsIf kw_1651 (c_X11_throwsIf l g M  t0 1 qu_7 _) rfl hl.1 rfl (Nat.le_of_ble_eq_true rfl) ⟨by decide, by decide⟩ ⟨by decide, by decide⟩ dX11_clash_26) hZ (fun H locs hZ => ?_)
  refine zif_eq (tgt := 34) h E dX11_clash_29 (by decide) (fun c_8 h => ?_) (fun c_8 h => ?_)
  · refine lv_iconst (v := 0) hx hb dX11_clash_34 (by decide) ?_
    refine lv_istore_n (lv' := [(3, .int 0), (0, .ref (g.2.2 0)), (1, .int x1), (2, .int x2)]) hx hb dX11_clash_35 rfl hl (by decide) rfl (fun ls hl => ?_)
    refine lv_iconst (v := 0) hx hb dX11_clash_36 (by decide) ?_
    refine lv_istore (lv' := [(4, .int 0), (3, .int 0), (0, .ref (g.2.2 0)), (1, .int x1), (2, .int x2)]) hx hb dX11_clash_37 hl (by decide) rfl (fun ls hl => ?_)
    exact lb_X11_clash_39 g  E hret u_7.2 x1 x2  6000 0 0 H locs ls h hZ (lv_sub hl [2, 3, 4, 1, 0] rfl)
  · refine lv_iconst (v := 0) hx hb dX11_clash_32 (by decide) ?_
    exact hret _ _ _ _ _ _ (Option.some.inj h).symm rfl hZ dX11_clash_33
def b_X11_clash_20  (M : zM) (x1 : Int32) (x2 : Int32) : Option (Int32 × zM) :=
  b_X11_clash_25  M x1 x2 1
set_option maxRecDepth 100000 in
set_option maxHeartbeats 4000000 in
theorem lb_X11_clash_20 (g : zG)  {r : Int32 × zM} (E : zX g p m c cX11_clash 5 s args (zWs yX11_clash cX11_clash 5 (some .int)) RX11) (hret : zRi g rE 15 p l e (zrm 4 0 0) s m args below meth c 0 0 Q cX11_clash .int (fun v M1 => r = (v, M1))) (M : zM) (x1 : Int32) (x2 : Int32)  (H : Heap) (locs : List Loc) (ls : Array Slot) (h : b_X11_clash_20  M x1 x2 = some r) (hZ : zS g rE 15 s H locs M) (hl : lv_has ls 5 [(0, .ref (g.2.2 0)), (1, .int x1), (2, .int x2)]) : W p l e (zrm 4 0 0) s m args below meth c H locs 0 0 Q (F0 m 20 ls [.ref (g.2.2 0)]) := by
  have hx := E.1.1
  have hb := E.1.2.1
  unfold b_X11_clash_20 at h
  refine lv_iconst (v := 1) hx hb dX11_clash_20 (by decide) ?_
  refine lv_goto (tgt := 25) hx hb dX11_clash_21 (by decide) ?_
  exact lb_X11_clash_25 g  E hret M x1 x2 1  H locs ls h hZ (lv_sub hl [0, 1, 2] rfl)
def f_X11_clash (M : zM) (x1 : Int32) (x2 : Int32) : Option (Int32 × zM) :=
  znm (zu M 0 0 0) (fun M_9 => zbn (f_X11_noEdition M_9 x1) (fun u_10 => if u_10 = 0 then (zbn (f_X11_noEdition M_9 x2) (fun u_11 => if u_11 = 0 then (b_X11_clash_25  M_9 x1 x2 0) else (b_X11_clash_20  M_9 x1 x2))) else (b_X11_clash_20  M_9 x1 x2)))
set_option maxRecDepth 100000 in
set_option maxHeartbeats 4000000 in
theorem w_X11_clash (g : zG)  {r : Int32 × zM} (E : zX g p m c cX11_clash 5 s args (zWs yX11_clash cX11_clash 5 (some .int)) RX11) (hret : zRi g rE 15 p l e (zrm 4 0 0) s m args below meth c 0 0 Q cX11_clash .int (fun v M1 => r = (v, M1))) (M : zM) (x1 : Int32) (x2 : Int32) (H : Heap) (locs : List Loc) (ls : Array Slot) (h : f_X11_clash M x1 x2 = some r) (hZ : zS g rE 15 s H locs M) (hl : lv_has ls 5 [(0, .ref (g.2.2 0)), (1, .int x1), (2, .int x2)]) : W p l e (zrm 4 0 0) s m args below meth c H locs 0 0 Q (F0 m 0 ls []) := by
  have hx := E.1.1
  have hb := E.1.2.1
  unfold f_X11_clash at h
  refine lv_aload_n hx hb dX11_clash_0 rfl (lv_at hl 0 rfl) ?_
  refine lv_iconst (v := 0) hx hb dX11_clash_1 (by decide) ?_
  refine zp h E hZ (by decide) (re_0 _) ((re_0 _).trans (congrArg (fun z => Sum.inr (10, z)) (fs_X11_0 g _ _ _))) kc_X11 (by decide) kw_1368 rfl rfl rfl (Nat.le_of_ble_eq_true rfl) dX11_clash_2 (fun M_9 H locs eM_9 h hZ => ?_)
  refine lv_aload_n hx hb dX11_clash_5 rfl (lv_at hl 0 rfl) ?_
  refine lv_iload_n hx hb dX11_clash_6 rfl (lv_at hl 1 rfl) ?_
  obtain ⟨u_10, qu_10, h⟩ := zbn_some h
  refine zciR (zrunS E hZ v_X11_noEdition kw_1813 (c_X11_noEdition l g M_9  x1 qu_10 _) rfl hl.1 rfl (Nat.le_of_ble_eq_true rfl) ⟨by decide, by decide⟩ ⟨by decide, by decide⟩ dX11_clash_7) hZ (fun H locs hZ => ?_)
  refine zif_ne (tgt := 20) h E dX11_clash_10 (by decide) (fun c_13 h => ?_) (fun c_13 h => ?_)
  · exact lb_X11_clash_20 g  E hret M_9 x1 x2  H locs ls h hZ (lv_sub hl [0, 1, 2] rfl)
  · refine lv_iload_n hx hb dX11_clash_13 rfl (lv_at hl 2 rfl) ?_
    obtain ⟨u_11, qu_11, h⟩ := zbn_some h
    refine zciR (zrunS E hZ v_X11_noEdition kw_1813 (c_X11_noEdition l g M_9  x2 qu_11 _) rfl hl.1 rfl (Nat.le_of_ble_eq_true rfl) ⟨by decide, by decide⟩ ⟨by decide, by decide⟩ dX11_clash_14) hZ (fun H locs hZ => ?_)
    refine zif_eq (tgt := 24) h E dX11_clash_17 (by decide) (fun c_12 h => ?_) (fun c_12 h => ?_)
    · refine lv_iconst (v := 0) hx hb dX11_clash_24 (by decide) ?_
      exact lb_X11_clash_25 g  E hret M_9 x1 x2 0  H locs ls h hZ (lv_sub hl [0, 1, 2] rfl)
    · exact lb_X11_clash_20 g  E hret M_9 x1 x2  H locs ls h hZ (lv_sub hl [0, 1, 2] rfl)
theorem c_X11_clash (l : Launch) (g : zG) (M : zM)  (x1 : Int32) (x2 : Int32) {r : Int32 × zM} (h : f_X11_clash M x1 x2 = some r) : zMi l g rE 15 yX11_clash (zWs yX11_clash cX11_clash 5 (some .int)) 4 [.ref (g.2.2 0), .int x1, .int x2] M (fun v M1 => r = (v, M1)) :=
  zMi_of (by decide +kernel) (Nat.le_of_ble_eq_true rfl) (fun p e s m args below meth c Q ls E hret hZ hl => w_X11_clash g  E hret M x1 x2 _ _ ls h hZ hl)
theorem v_X11_clash : zYV yX11_clash cX11_clash 5 (some .int) 2 := ⟨kw_2001, kw_15, kw_1999, kw_2000, by decide +kernel⟩

def b_X11_blank_7  (M : zM) : Nat → Int32 → Option (Int32 × zM)
  | 0, _ => none
  | n + 1, x1 =>
    if 12 ≤ x1 then (some ((-1), M)) else (zbn (f_X11_printedOf M x1) (fun u_1 => zbn (f_X11_printedOf M (x1 - 1)) (fun u_2 => if u_2 < u_1 then (znm (x1 + 1) (fun x1_3 => b_X11_blank_7  M n x1_3)) else (some (x1, M)))))
set_option maxRecDepth 100000 in
set_option maxHeartbeats 4000000 in
theorem lb_X11_blank_7 (g : zG)  {r : Int32 × zM} (E : zX g p m c cX11_blank 2 s args (zWs yX11_blank cX11_blank 2 (some .int)) RX11) (hret : zRi g rE 15 p l e (zrm 3 0 0) s m args below meth c 0 0 Q cX11_blank .int (fun v M1 => r = (v, M1))) (M : zM)  : ∀ (n : Nat) (x1 : Int32) (H : Heap) (locs : List Loc) (ls : Array Slot), b_X11_blank_7  M n x1 = some r → zS g rE 15 s H locs M → lv_has ls 2 [(0, .ref (g.2.2 0)), (1, .int x1)] → W p l e (zrm 3 0 0) s m args below meth c H locs 0 0 Q (F0 m 7 ls []) := by
  have hx := E.1.1
  have hb := E.1.2.1
  intro n
  induction n with
  | zero => intro x1 H locs ls h hZ hl; cases h
  | succ n ih =>
    intro x1 H locs ls h hZ hl
    rw [b_X11_blank_7] at h
    refine lv_iload_n hx hb dX11_blank_7 rfl (lv_at hl 1 rfl) ?_
    refine lv_bipush (v := 12) hx hb dX11_blank_8 (by decide) ?_
    refine zic_ge (tgt := 36) h E dX11_blank_10 (by decide) (fun c_5 h => ?_) (fun c_5 h => ?_)
    · refine lv_iconst (v := (-1)) hx hb dX11_blank_36 (by decide) ?_
      exact hret _ _ _ _ _ _ (Option.some.inj h).symm rfl hZ dX11_blank_37
    · refine lv_aload_n hx hb dX11_blank_13 rfl (lv_at hl 0 rfl) ?_
      refine lv_iload_n hx hb dX11_blank_14 rfl (lv_at hl 1 rfl) ?_
      obtain ⟨u_1, qu_1, h⟩ := zbn_some h
      refine zciR (zrunV E hZ (by decide) (re_0 _) rfl rfl v_X11_printedOf kw_1710 (c_X11_printedOf l g M  x1 qu_1 _) rfl hl.1 rfl (Nat.le_of_ble_eq_true rfl) ⟨by decide, by decide⟩ ⟨by decide, by decide⟩ dX11_blank_15) hZ (fun H locs hZ => ?_)
      refine lv_aload_n hx hb dX11_blank_18 rfl (lv_at hl 0 rfl) ?_
      refine lv_iload_n hx hb dX11_blank_19 rfl (lv_at hl 1 rfl) ?_
      refine lv_iconst (v := 1) hx hb dX11_blank_20 (by decide) ?_
      refine lv_isub hx hb dX11_blank_21 ?_
      obtain ⟨u_2, qu_2, h⟩ := zbn_some h
      refine zciR (zrunV E hZ (by decide) (re_0 _) rfl rfl v_X11_printedOf kw_1710 (c_X11_printedOf l g M  (x1 - 1) qu_2 _) rfl hl.1 rfl (Nat.le_of_ble_eq_true rfl) ⟨by decide, by decide⟩ ⟨by decide, by decide⟩ dX11_blank_22) hZ (fun H locs hZ => ?_)
      refine zic_gt (tgt := 30) h E dX11_blank_25 (by decide) (fun c_4 h => ?_) (fun c_4 h => ?_)
      · obtain ⟨x1_3, ex1_3, h⟩ := znm_ex h
        refine lv_iinc (v := x1_3) (lv' := [(1, .int x1_3), (0, .ref (g.2.2 0))]) hx hb dX11_blank_30 hl (k := 1) rfl (by rw [ex1_3]; rfl) (by decide) rfl (fun ls hl => ?_)
        refine lv_goto (tgt := 7) hx hb dX11_blank_33 (by decide) ?_
        exact ih x1_3 H locs ls h hZ (lv_sub hl [1, 0] rfl)
      · refine lv_iload_n hx hb dX11_blank_28 rfl (lv_at hl 1 rfl) ?_
        exact hret _ _ _ _ _ _ (Option.some.inj h).symm rfl hZ dX11_blank_29
def f_X11_blank (M : zM)  : Option (Int32 × zM) :=
  znm (zu M 0 0 0) (fun M_6 => b_X11_blank_7  M_6 6000 1)
set_option maxRecDepth 100000 in
set_option maxHeartbeats 4000000 in
theorem w_X11_blank (g : zG)  {r : Int32 × zM} (E : zX g p m c cX11_blank 2 s args (zWs yX11_blank cX11_blank 2 (some .int)) RX11) (hret : zRi g rE 15 p l e (zrm 3 0 0) s m args below meth c 0 0 Q cX11_blank .int (fun v M1 => r = (v, M1))) (M : zM)  (H : Heap) (locs : List Loc) (ls : Array Slot) (h : f_X11_blank M  = some r) (hZ : zS g rE 15 s H locs M) (hl : lv_has ls 2 [(0, .ref (g.2.2 0))]) : W p l e (zrm 3 0 0) s m args below meth c H locs 0 0 Q (F0 m 0 ls []) := by
  have hx := E.1.1
  have hb := E.1.2.1
  unfold f_X11_blank at h
  refine lv_aload_n hx hb dX11_blank_0 rfl (lv_at hl 0 rfl) ?_
  refine lv_iconst (v := 0) hx hb dX11_blank_1 (by decide) ?_
  refine zp h E hZ (by decide) (re_0 _) ((re_0 _).trans (congrArg (fun z => Sum.inr (10, z)) (fs_X11_0 g _ _ _))) kc_X11 (by decide) kw_1368 rfl rfl rfl (Nat.le_of_ble_eq_true rfl) dX11_blank_2 (fun M_6 H locs eM_6 h hZ => ?_)
  refine lv_iconst (v := 1) hx hb dX11_blank_5 (by decide) ?_
  refine lv_istore_n (lv' := [(1, .int 1), (0, .ref (g.2.2 0))]) hx hb dX11_blank_6 rfl hl (by decide) rfl (fun ls hl => ?_)
  exact lb_X11_blank_7 g  E hret M_6  6000 1 H locs ls h hZ (lv_sub hl [1, 0] rfl)
theorem c_X11_blank (l : Launch) (g : zG) (M : zM)   {r : Int32 × zM} (h : f_X11_blank M  = some r) : zMi l g rE 15 yX11_blank (zWs yX11_blank cX11_blank 2 (some .int)) 3 [.ref (g.2.2 0)] M (fun v M1 => r = (v, M1)) :=
  zMi_of (by decide +kernel) (Nat.le_of_ble_eq_true rfl) (fun p e s m args below meth c Q ls E hret hZ hl => w_X11_blank g  E hret M  _ _ ls h hZ hl)
theorem v_X11_blank : zYV yX11_blank cX11_blank 2 (some .int) 0 := ⟨kw_2012, kw_15, kw_2010, kw_2011, by decide +kernel⟩

def b_X11_odds_157  (M : zM) (x3 : Int64) (x5 : Int64) : Option (Int32 × zM) :=
  zck (decide (¬ (x5 : Int64) = 0)) (some (((10000 * x3) / x5 : Int64).toInt32, M))
set_option maxRecDepth 100000 in
set_option maxHeartbeats 4000000 in
theorem lb_X11_odds_157 (g : zG)  {r : Int32 × zM} (E : zX g p m c cX11_odds 11 s args (zWs yX11_odds cX11_odds 11 (some .int)) RX11) (hret : zRi g rE 15 p l e (zrm 3 0 0) s m args below meth c 0 0 Q cX11_odds .int (fun v M1 => r = (v, M1))) (M : zM) (x3 : Int64) (x5 : Int64)  (H : Heap) (locs : List Loc) (ls : Array Slot) (h : b_X11_odds_157  M x3 x5 = some r) (hZ : zS g rE 15 s H locs M) (hl : lv_has ls 11 [(3, .long x3), (5, .long x5)]) : W p l e (zrm 3 0 0) s m args below meth c H locs 0 0 Q (F0 m 157 ls []) := by
  have hx := E.1.1
  have hb := E.1.2.1
  unfold b_X11_odds_157 at h
  refine lv_ldc2 (v := 10000) hx hb E.1.2.2.2.1 (E.w kw_2018) dX11_odds_157 ?_
  refine lv_lload_n hx hb dX11_odds_160 rfl (lv_at hl 0 rfl) ?_
  refine lv_lmul hx hb dX11_odds_161 ?_
  refine lv_lload hx hb dX11_odds_162 (lv_at hl 1 rfl) ?_
  refine zldv h E dX11_odds_164 (fun h => ?_)
  refine lv_l2i hx hb dX11_odds_165 rfl ?_
  exact hret _ _ _ _ _ _ (Option.some.inj h).symm rfl hZ dX11_odds_166
def b_X11_odds_151 (K71 : Int64 → Int32 → Option (Int32 × zM)) (M : zM) (x1 : Int32) (x2 : Int32) (x3 : Int64) (x5 : Int64) (x7 : Int32) : Option (Int32 × zM) :=
  znm (x7 + 1) (fun x7_1 => K71 x3 x7_1)
set_option maxRecDepth 100000 in
set_option maxHeartbeats 4000000 in
theorem lb_X11_odds_151 (g : zG)  {r : Int32 × zM} (E : zX g p m c cX11_odds 11 s args (zWs yX11_odds cX11_odds 11 (some .int)) RX11) (hret : zRi g rE 15 p l e (zrm 3 0 0) s m args below meth c 0 0 Q cX11_odds .int (fun v M1 => r = (v, M1))) (M : zM) (x1 : Int32) (x2 : Int32) (x3 : Int64) (x5 : Int64) (x7 : Int32) (K71 : Int64 → Int32 → Option (Int32 × zM)) (hK71 : ∀ (x3 : Int64) (x7 : Int32) (H : Heap) (locs : List Loc) (ls : Array Slot), K71 x3 x7 = some r → zS g rE 15 s H locs M → lv_has ls 11 [(0, .ref (g.2.2 0)), (1, .int x1), (2, .int x2), (3, .long x3), (5, .long x5), (7, .int x7)] → W p l e (zrm 3 0 0) s m args below meth c H locs 0 0 Q (F0 m 71 ls [])) (H : Heap) (locs : List Loc) (ls : Array Slot) (h : b_X11_odds_151 K71 M x1 x2 x3 x5 x7 = some r) (hZ : zS g rE 15 s H locs M) (hl : lv_has ls 11 [(0, .ref (g.2.2 0)), (1, .int x1), (2, .int x2), (3, .long x3), (5, .long x5), (7, .int x7)]) : W p l e (zrm 3 0 0) s m args below meth c H locs 0 0 Q (F0 m 151 ls []) := by
  have hx := E.1.1
  have hb := E.1.2.1
  unfold b_X11_odds_151 at h
  obtain ⟨x7_1, ex7_1, h⟩ := znm_ex h
  refine lv_iinc (v := x7_1) (lv' := [(7, .int x7_1), (0, .ref (g.2.2 0)), (1, .int x1), (2, .int x2), (3, .long x3), (5, .long x5)]) hx hb dX11_odds_151 hl (k := 5) rfl (by rw [ex7_1]; rfl) (by decide) rfl (fun ls hl => ?_)
  refine lv_goto (tgt := 71) hx hb dX11_odds_154 (by decide) ?_
  exact hK71 x3 x7_1 H locs ls h hZ (lv_sub hl [1, 2, 3, 4, 5, 0] rfl)
def b_X11_odds_146 (K71 : Int64 → Int32 → Option (Int32 × zM)) (M : zM) (x1 : Int32) (x2 : Int32) (x3 : Int64) (x5 : Int64) (x7 : Int32) (x8 : Int64) : Option (Int32 × zM) :=
  znm (x3 + x8) (fun x3_2 => b_X11_odds_151 K71 M x1 x2 x3_2 x5 x7)
set_option maxRecDepth 100000 in
set_option maxHeartbeats 4000000 in
theorem lb_X11_odds_146 (g : zG)  {r : Int32 × zM} (E : zX g p m c cX11_odds 11 s args (zWs yX11_odds cX11_odds 11 (some .int)) RX11) (hret : zRi g rE 15 p l e (zrm 3 0 0) s m args below meth c 0 0 Q cX11_odds .int (fun v M1 => r = (v, M1))) (M : zM) (x1 : Int32) (x2 : Int32) (x3 : Int64) (x5 : Int64) (x7 : Int32) (x8 : Int64) (K71 : Int64 → Int32 → Option (Int32 × zM)) (hK71 : ∀ (x3 : Int64) (x7 : Int32) (H : Heap) (locs : List Loc) (ls : Array Slot), K71 x3 x7 = some r → zS g rE 15 s H locs M → lv_has ls 11 [(0, .ref (g.2.2 0)), (1, .int x1), (2, .int x2), (3, .long x3), (5, .long x5), (7, .int x7)] → W p l e (zrm 3 0 0) s m args below meth c H locs 0 0 Q (F0 m 71 ls [])) (H : Heap) (locs : List Loc) (ls : Array Slot) (h : b_X11_odds_146 K71 M x1 x2 x3 x5 x7 x8 = some r) (hZ : zS g rE 15 s H locs M) (hl : lv_has ls 11 [(0, .ref (g.2.2 0)), (1, .int x1), (2, .int x2), (3, .long x3), (5, .long x5), (7, .int x7), (8, .long x8)]) : W p l e (zrm 3 0 0) s m args below meth c H locs 0 0 Q (F0 m 146 ls []) := by
  have hx := E.1.1
  have hb := E.1.2.1
  unfold b_X11_odds_146 at h
  refine lv_lload_n hx hb dX11_odds_146 rfl (lv_at hl 3 rfl) ?_
  refine lv_lload hx hb dX11_odds_147 (lv_at hl 6 rfl) ?_
  refine lv_ladd hx hb dX11_odds_149 ?_
  refine znl h (fun x3_2 ex3_2 h => ?_)
  refine lv_lstore_n (lv' := [(3, .long x3_2), (0, .ref (g.2.2 0)), (1, .int x1), (2, .int x2), (5, .long x5), (7, .int x7), (8, .long x8)]) hx hb dX11_odds_150 rfl hl (by decide) rfl (fun ls hl => ?_)
  exact lb_X11_odds_151 g  E hret M x1 x2 x3_2 x5 x7 K71 hK71 H locs ls h hZ (lv_sub hl [1, 2, 3, 0, 4, 5] rfl)
def b_X11_odds_137 (K97 : Int64 → Int32 → Option (Int32 × zM)) (M : zM) (x1 : Int32) (x2 : Int32) (x3 : Int64) (x5 : Int64) (x7 : Int32) (x10 : Int32) (t0 : Int64) (t1 : Int64) : Option (Int32 × zM) :=
  znm (t1 * t0) (fun x8_3 => znm (x10 + 1) (fun x10_4 => K97 x8_3 x10_4))
set_option maxRecDepth 100000 in
set_option maxHeartbeats 4000000 in
theorem lb_X11_odds_137 (g : zG)  {r : Int32 × zM} (E : zX g p m c cX11_odds 11 s args (zWs yX11_odds cX11_odds 11 (some .int)) RX11) (hret : zRi g rE 15 p l e (zrm 3 0 0) s m args below meth c 0 0 Q cX11_odds .int (fun v M1 => r = (v, M1))) (M : zM) (x1 : Int32) (x2 : Int32) (x3 : Int64) (x5 : Int64) (x7 : Int32) (x10 : Int32) (t0 : Int64) (t1 : Int64) (K97 : Int64 → Int32 → Option (Int32 × zM)) (hK97 : ∀ (x8 : Int64) (x10 : Int32) (H : Heap) (locs : List Loc) (ls : Array Slot), K97 x8 x10 = some r → zS g rE 15 s H locs M → lv_has ls 11 [(0, .ref (g.2.2 0)), (1, .int x1), (2, .int x2), (3, .long x3), (5, .long x5), (7, .int x7), (8, .long x8), (10, .int x10)] → W p l e (zrm 3 0 0) s m args below meth c H locs 0 0 Q (F0 m 97 ls [])) (H : Heap) (locs : List Loc) (ls : Array Slot) (h : b_X11_odds_137 K97 M x1 x2 x3 x5 x7 x10 t0 t1 = some r) (hZ : zS g rE 15 s H locs M) (hl : lv_has ls 11 [(0, .ref (g.2.2 0)), (1, .int x1), (2, .int x2), (3, .long x3), (5, .long x5), (7, .int x7), (10, .int x10)]) : W p l e (zrm 3 0 0) s m args below meth c H locs 0 0 Q (F0 m 137 ls [.long t0, .long t1]) := by
  have hx := E.1.1
  have hb := E.1.2.1
  unfold b_X11_odds_137 at h
  refine lv_lmul hx hb dX11_odds_137 ?_
  refine znl h (fun x8_3 ex8_3 h => ?_)
  refine lv_lstore (lv' := [(8, .long x8_3), (0, .ref (g.2.2 0)), (1, .int x1), (2, .int x2), (3, .long x3), (5, .long x5), (7, .int x7), (10, .int x10)]) hx hb dX11_odds_138 hl (by decide) rfl (fun ls hl => ?_)
  obtain ⟨x10_4, ex10_4, h⟩ := znm_ex h
  refine lv_iinc (v := x10_4) (lv' := [(10, .int x10_4), (8, .long x8_3), (0, .ref (g.2.2 0)), (1, .int x1), (2, .int x2), (3, .long x3), (5, .long x5), (7, .int x7)]) hx hb dX11_odds_140 hl (k := 7) rfl (by rw [ex10_4]; rfl) (by decide) rfl (fun ls hl => ?_)
  refine lv_goto (tgt := 97) hx hb dX11_odds_143 (by decide) ?_
  exact hK97 x8_3 x10_4 H locs ls h hZ (lv_sub hl [2, 3, 4, 5, 6, 7, 1, 0] rfl)
def b_X11_odds_97 (K71 : Int64 → Int32 → Option (Int32 × zM)) (M : zM) (x1 : Int32) (x2 : Int32) (x3 : Int64) (x5 : Int64) (x7 : Int32) : Nat → Int64 → Int32 → Option (Int32 × zM)
  | 0, _, _ => none
  | n + 1, x8, x10 =>
    if x1 ≤ x10 then (b_X11_odds_146 K71 M x1 x2 x3 x5 x7 x8) else (zbn (f_X11_has M x7 x10) (fun u_5 => if u_5 = 0 then (zck (zin 11 2030) (b_X11_odds_137 (fun x8 x10 => b_X11_odds_97 K71 M x1 x2 x3 x5 x7 n x8 x10) M x1 x2 x3 x5 x7 x10 ((100 - (M 1 (11 : Int32).toNatClampNeg) : Int32).toInt64) x8)) else (zck (zin 11 2030) (b_X11_odds_137 (fun x8 x10 => b_X11_odds_97 K71 M x1 x2 x3 x5 x7 n x8 x10) M x1 x2 x3 x5 x7 x10 ((M 1 (11 : Int32).toNatClampNeg : Int32).toInt64) x8))))
set_option maxRecDepth 100000 in
set_option maxHeartbeats 4000000 in
theorem lb_X11_odds_97 (g : zG)  {r : Int32 × zM} (E : zX g p m c cX11_odds 11 s args (zWs yX11_odds cX11_odds 11 (some .int)) RX11) (hret : zRi g rE 15 p l e (zrm 3 0 0) s m args below meth c 0 0 Q cX11_odds .int (fun v M1 => r = (v, M1))) (M : zM) (x1 : Int32) (x2 : Int32) (x3 : Int64) (x5 : Int64) (x7 : Int32) (K71 : Int64 → Int32 → Option (Int32 × zM)) (hK71 : ∀ (x3 : Int64) (x7 : Int32) (H : Heap) (locs : List Loc) (ls : Array Slot), K71 x3 x7 = some r → zS g rE 15 s H locs M → lv_has ls 11 [(0, .ref (g.2.2 0)), (1, .int x1), (2, .int x2), (3, .long x3), (5, .long x5), (7, .int x7)] → W p l e (zrm 3 0 0) s m args below meth c H locs 0 0 Q (F0 m 71 ls [])) : ∀ (n : Nat) (x8 : Int64) (x10 : Int32) (H : Heap) (locs : List Loc) (ls : Array Slot), b_X11_odds_97 K71 M x1 x2 x3 x5 x7 n x8 x10 = some r → zS g rE 15 s H locs M → lv_has ls 11 [(0, .ref (g.2.2 0)), (1, .int x1), (2, .int x2), (3, .long x3), (5, .long x5), (7, .int x7), (8, .long x8), (10, .int x10)] → W p l e (zrm 3 0 0) s m args below meth c H locs 0 0 Q (F0 m 97 ls []) := by
  have hx := E.1.1
  have hb := E.1.2.1
  intro n
  induction n with
  | zero => intro x8 x10 H locs ls h hZ hl; cases h
  | succ n ih =>
    intro x8 x10 H locs ls h hZ hl
    rw [b_X11_odds_97] at h
    refine lv_iload hx hb dX11_odds_97 (lv_at hl 7 rfl) ?_
    refine lv_iload_n hx hb dX11_odds_99 rfl (lv_at hl 1 rfl) ?_
    refine zic_ge (tgt := 146) h E dX11_odds_100 (by decide) (fun c_7 h => ?_) (fun c_7 h => ?_)
    · exact lb_X11_odds_146 g  E hret M x1 x2 x3 x5 x7 x8 K71 hK71 H locs ls h hZ (lv_sub hl [0, 1, 2, 3, 4, 5, 6] rfl)
    · refine lv_lload hx hb dX11_odds_103 (lv_at hl 6 rfl) ?_
      refine lv_iload hx hb dX11_odds_105 (lv_at hl 5 rfl) ?_
      refine lv_iload hx hb dX11_odds_107 (lv_at hl 7 rfl) ?_
      obtain ⟨u_5, qu_5, h⟩ := zbn_some h
      refine zciR (zrunS E hZ v_X11_has kw_1922 (c_X11_has l g M  x7 x10 qu_5 _) rfl hl.1 rfl (Nat.le_of_ble_eq_true rfl) ⟨by decide, by decide⟩ ⟨by decide, by decide⟩ dX11_odds_109) hZ (fun H locs hZ => ?_)
      refine zif_eq (tgt := 126) h E dX11_odds_112 (by decide) (fun c_6 h => ?_) (fun c_6 h => ?_)
      · refine lv_bipush (v := 100) hx hb dX11_odds_126 (by decide) ?_
        refine lv_aload_n hx hb dX11_odds_128 rfl (lv_at hl 0 rfl) ?_
        refine zg (v := .ref (g.2.2 1)) E hZ (by decide) (re_0 _) kc_X11 1 (by decide) kw_1369 rfl rfl dX11_odds_129 ?_
        refine lv_bipush (v := 11) hx hb dX11_odds_132 (by decide) ?_
        refine zia h E hZ (by decide) re_1 dX11_odds_134 (fun h => ?_)
        refine lv_isub hx hb dX11_odds_135 ?_
        refine lv_i2l hx hb dX11_odds_136 rfl ?_
        exact lb_X11_odds_137 g  E hret M x1 x2 x3 x5 x7 x10 ((100 - (M 1 (11 : Int32).toNatClampNeg) : Int32).toInt64) x8 (fun x8 x10 => b_X11_odds_97 K71 M x1 x2 x3 x5 x7 n x8 x10) ih H locs ls h hZ (lv_sub hl [0, 1, 2, 3, 4, 5, 7] rfl)
      · refine lv_aload_n hx hb dX11_odds_115 rfl (lv_at hl 0 rfl) ?_
        refine zg (v := .ref (g.2.2 1)) E hZ (by decide) (re_0 _) kc_X11 1 (by decide) kw_1369 rfl rfl dX11_odds_116 ?_
        refine lv_bipush (v := 11) hx hb dX11_odds_119 (by decide) ?_
        refine zia h E hZ (by decide) re_1 dX11_odds_121 (fun h => ?_)
        refine lv_i2l hx hb dX11_odds_122 rfl ?_
        refine lv_goto (tgt := 137) hx hb dX11_odds_123 (by decide) ?_
        exact lb_X11_odds_137 g  E hret M x1 x2 x3 x5 x7 x10 ((M 1 (11 : Int32).toNatClampNeg : Int32).toInt64) x8 (fun x8 x10 => b_X11_odds_97 K71 M x1 x2 x3 x5 x7 n x8 x10) ih H locs ls h hZ (lv_sub hl [0, 1, 2, 3, 4, 5, 7] rfl)
def b_X11_odds_71  (M : zM) (x1 : Int32) (x2 : Int32) (x5 : Int64) : Nat → Int64 → Int32 → Option (Int32 × zM)
  | 0, _, _ => none
  | n + 1, x3, x7 =>
    if ((1 : Int32) <<< (x1 &&& 31)) ≤ x7 then (b_X11_odds_157  M x3 x5) else (zbn (f_J6_bitCount_0f7a4 x7) (fun u_8 => if x2 ≤ u_8 then (b_X11_odds_97 (fun x3 x7 => b_X11_odds_71  M x1 x2 x5 n x3 x7) M x1 x2 x3 x5 x7 6000 1 0) else (b_X11_odds_151 (fun x3 x7 => b_X11_odds_71  M x1 x2 x5 n x3 x7) M x1 x2 x3 x5 x7)))
set_option maxRecDepth 100000 in
set_option maxHeartbeats 4000000 in
theorem lb_X11_odds_71 (g : zG)  {r : Int32 × zM} (E : zX g p m c cX11_odds 11 s args (zWs yX11_odds cX11_odds 11 (some .int)) RX11) (hret : zRi g rE 15 p l e (zrm 3 0 0) s m args below meth c 0 0 Q cX11_odds .int (fun v M1 => r = (v, M1))) (M : zM) (x1 : Int32) (x2 : Int32) (x5 : Int64)  : ∀ (n : Nat) (x3 : Int64) (x7 : Int32) (H : Heap) (locs : List Loc) (ls : Array Slot), b_X11_odds_71  M x1 x2 x5 n x3 x7 = some r → zS g rE 15 s H locs M → lv_has ls 11 [(0, .ref (g.2.2 0)), (1, .int x1), (2, .int x2), (3, .long x3), (5, .long x5), (7, .int x7)] → W p l e (zrm 3 0 0) s m args below meth c H locs 0 0 Q (F0 m 71 ls []) := by
  have hx := E.1.1
  have hb := E.1.2.1
  intro n
  induction n with
  | zero => intro x3 x7 H locs ls h hZ hl; cases h
  | succ n ih =>
    intro x3 x7 H locs ls h hZ hl
    rw [b_X11_odds_71] at h
    refine lv_iload hx hb dX11_odds_71 (lv_at hl 5 rfl) ?_
    refine lv_iconst (v := 1) hx hb dX11_odds_73 (by decide) ?_
    refine lv_iload_n hx hb dX11_odds_74 rfl (lv_at hl 1 rfl) ?_
    refine lv_ishl hx hb dX11_odds_75 ?_
    refine zic_ge (tgt := 157) h E dX11_odds_76 (by decide) (fun c_10 h => ?_) (fun c_10 h => ?_)
    · exact lb_X11_odds_157 g  E hret M x3 x5  H locs ls h hZ (lv_sub hl [3, 4] rfl)
    · refine lv_iload hx hb dX11_odds_79 (lv_at hl 5 rfl) ?_
      obtain ⟨u_8, qu_8, h⟩ := zbn_some h
      refine zciR (zrunS E hZ v_J6_bitCount_0f7a4 kw_1844 (c_J6_bitCount_0f7a4 l g rE 15 M  x7 qu_8 _) rfl hl.1 rfl (Nat.le_of_ble_eq_true rfl) ⟨by decide, by decide⟩ ⟨by decide, by decide⟩ dX11_odds_81) hZ (fun H locs hZ => ?_)
      refine lv_iload_n hx hb dX11_odds_84 rfl (lv_at hl 2 rfl) ?_
      refine zic_ge (tgt := 91) h E dX11_odds_85 (by decide) (fun c_9 h => ?_) (fun c_9 h => ?_)
      · refine lv_lconst (v := 1) hx hb dX11_odds_91 (by decide) ?_
        refine lv_lstore (lv' := [(8, .long 1), (0, .ref (g.2.2 0)), (1, .int x1), (2, .int x2), (3, .long x3), (5, .long x5), (7, .int x7)]) hx hb dX11_odds_92 hl (by decide) rfl (fun ls hl => ?_)
        refine lv_iconst (v := 0) hx hb dX11_odds_94 (by decide) ?_
        refine lv_istore (lv' := [(10, .int 0), (8, .long 1), (0, .ref (g.2.2 0)), (1, .int x1), (2, .int x2), (3, .long x3), (5, .long x5), (7, .int x7)]) hx hb dX11_odds_95 hl (by decide) rfl (fun ls hl => ?_)
        exact lb_X11_odds_97 g  E hret M x1 x2 x3 x5 x7 (fun x3 x7 => b_X11_odds_71  M x1 x2 x5 n x3 x7) ih 6000 1 0 H locs ls h hZ (lv_sub hl [2, 3, 4, 5, 6, 7, 1, 0] rfl)
      · refine lv_goto (tgt := 151) hx hb dX11_odds_88 (by decide) ?_
        exact lb_X11_odds_151 g  E hret M x1 x2 x3 x5 x7 (fun x3 x7 => b_X11_odds_71  M x1 x2 x5 n x3 x7) ih H locs ls h hZ (lv_sub hl [0, 1, 2, 3, 4, 5] rfl)
def b_X11_odds_68  (M : zM) (x1 : Int32) (x2 : Int32) (x3 : Int64) (x5 : Int64) : Option (Int32 × zM) :=
  b_X11_odds_71  M x1 x2 x5 6000 x3 0
set_option maxRecDepth 100000 in
set_option maxHeartbeats 4000000 in
theorem lb_X11_odds_68 (g : zG)  {r : Int32 × zM} (E : zX g p m c cX11_odds 11 s args (zWs yX11_odds cX11_odds 11 (some .int)) RX11) (hret : zRi g rE 15 p l e (zrm 3 0 0) s m args below meth c 0 0 Q cX11_odds .int (fun v M1 => r = (v, M1))) (M : zM) (x1 : Int32) (x2 : Int32) (x3 : Int64) (x5 : Int64)  (H : Heap) (locs : List Loc) (ls : Array Slot) (h : b_X11_odds_68  M x1 x2 x3 x5 = some r) (hZ : zS g rE 15 s H locs M) (hl : lv_has ls 11 [(0, .ref (g.2.2 0)), (1, .int x1), (2, .int x2), (3, .long x3), (5, .long x5)]) : W p l e (zrm 3 0 0) s m args below meth c H locs 0 0 Q (F0 m 68 ls []) := by
  have hx := E.1.1
  have hb := E.1.2.1
  unfold b_X11_odds_68 at h
  refine lv_iconst (v := 0) hx hb dX11_odds_68 (by decide) ?_
  refine lv_istore (lv' := [(7, .int 0), (0, .ref (g.2.2 0)), (1, .int x1), (2, .int x2), (3, .long x3), (5, .long x5)]) hx hb dX11_odds_69 hl (by decide) rfl (fun ls hl => ?_)
  exact lb_X11_odds_71 g  E hret M x1 x2 x5  6000 x3 0 H locs ls h hZ (lv_sub hl [1, 2, 3, 4, 5, 0] rfl)
def b_X11_odds_48  (M : zM) (x1 : Int32) (x2 : Int32) (x3 : Int64) : Nat → Int64 → Int32 → Option (Int32 × zM)
  | 0, _, _ => none
  | n + 1, x5, x7 =>
    if x1 ≤ x7 then (b_X11_odds_68  M x1 x2 x3 x5) else (znm (x5 * 100) (fun x5_11 => znm (x7 + 1) (fun x7_12 => b_X11_odds_48  M x1 x2 x3 n x5_11 x7_12)))
set_option maxRecDepth 100000 in
set_option maxHeartbeats 4000000 in
theorem lb_X11_odds_48 (g : zG)  {r : Int32 × zM} (E : zX g p m c cX11_odds 11 s args (zWs yX11_odds cX11_odds 11 (some .int)) RX11) (hret : zRi g rE 15 p l e (zrm 3 0 0) s m args below meth c 0 0 Q cX11_odds .int (fun v M1 => r = (v, M1))) (M : zM) (x1 : Int32) (x2 : Int32) (x3 : Int64)  : ∀ (n : Nat) (x5 : Int64) (x7 : Int32) (H : Heap) (locs : List Loc) (ls : Array Slot), b_X11_odds_48  M x1 x2 x3 n x5 x7 = some r → zS g rE 15 s H locs M → lv_has ls 11 [(0, .ref (g.2.2 0)), (1, .int x1), (2, .int x2), (3, .long x3), (5, .long x5), (7, .int x7)] → W p l e (zrm 3 0 0) s m args below meth c H locs 0 0 Q (F0 m 48 ls []) := by
  have hx := E.1.1
  have hb := E.1.2.1
  intro n
  induction n with
  | zero => intro x5 x7 H locs ls h hZ hl; cases h
  | succ n ih =>
    intro x5 x7 H locs ls h hZ hl
    rw [b_X11_odds_48] at h
    refine lv_iload hx hb dX11_odds_48 (lv_at hl 5 rfl) ?_
    refine lv_iload_n hx hb dX11_odds_50 rfl (lv_at hl 1 rfl) ?_
    refine zic_ge (tgt := 68) h E dX11_odds_51 (by decide) (fun c_13 h => ?_) (fun c_13 h => ?_)
    · exact lb_X11_odds_68 g  E hret M x1 x2 x3 x5  H locs ls h hZ (lv_sub hl [0, 1, 2, 3, 4] rfl)
    · refine lv_lload hx hb dX11_odds_54 (lv_at hl 4 rfl) ?_
      refine lv_ldc2 (v := 100) hx hb E.1.2.2.2.1 (E.w kw_2017) dX11_odds_56 ?_
      refine lv_lmul hx hb dX11_odds_59 ?_
      refine znl h (fun x5_11 ex5_11 h => ?_)
      refine lv_lstore (lv' := [(5, .long x5_11), (0, .ref (g.2.2 0)), (1, .int x1), (2, .int x2), (3, .long x3), (7, .int x7)]) hx hb dX11_odds_60 hl (by decide) rfl (fun ls hl => ?_)
      obtain ⟨x7_12, ex7_12, h⟩ := znm_ex h
      refine lv_iinc (v := x7_12) (lv' := [(7, .int x7_12), (5, .long x5_11), (0, .ref (g.2.2 0)), (1, .int x1), (2, .int x2), (3, .long x3)]) hx hb dX11_odds_62 hl (k := 5) rfl (by rw [ex7_12]; rfl) (by decide) rfl (fun ls hl => ?_)
      refine lv_goto (tgt := 48) hx hb dX11_odds_65 (by decide) ?_
      exact ih x5_11 x7_12 H locs ls h hZ (lv_sub hl [2, 3, 4, 5, 1, 0] rfl)
def b_X11_odds_31  (M : zM) (x1 : Int32) (x2 : Int32) (t0 : Int32) : Option (Int32 × zM) :=
  zbn (f_X11_throwsIf M t0 1) (fun u_14 => if u_14.1 = 0 then (b_X11_odds_48  u_14.2 x1 x2 0 6000 1 0) else (some (0, u_14.2)))
set_option maxRecDepth 100000 in
set_option maxHeartbeats 4000000 in
theorem lb_X11_odds_31 (g : zG)  {r : Int32 × zM} (E : zX g p m c cX11_odds 11 s args (zWs yX11_odds cX11_odds 11 (some .int)) RX11) (hret : zRi g rE 15 p l e (zrm 3 0 0) s m args below meth c 0 0 Q cX11_odds .int (fun v M1 => r = (v, M1))) (M : zM) (x1 : Int32) (x2 : Int32) (t0 : Int32)  (H : Heap) (locs : List Loc) (ls : Array Slot) (h : b_X11_odds_31  M x1 x2 t0 = some r) (hZ : zS g rE 15 s H locs M) (hl : lv_has ls 11 [(0, .ref (g.2.2 0)), (1, .int x1), (2, .int x2)]) : W p l e (zrm 3 0 0) s m args below meth c H locs 0 0 Q (F0 m 31 ls [.int t0, .ref (g.2.2 0)]) := by
  have hx := E.1.1
  have hb := E.1.2.1
  unfold b_X11_odds_31 at h
  refine lv_iconst (v := 1) hx hb dX11_odds_31 (by decide) ?_
  obtain ⟨u_14, qu_14, h⟩ := zbn_some h
  refine zciS (zrunV E hZ (by decide) (re_0 _) rfl rfl v_X11_throwsIf kw_1651 (c_X11_throwsIf l g M  t0 1 qu_14 _) rfl hl.1 rfl (Nat.le_of_ble_eq_true rfl) ⟨by decide, by decide⟩ ⟨by decide, by decide⟩ dX11_odds_32) hZ (fun H locs hZ => ?_)
  refine zif_eq (tgt := 40) h E dX11_odds_35 (by decide) (fun c_15 h => ?_) (fun c_15 h => ?_)
  · refine lv_lconst (v := 0) hx hb dX11_odds_40 (by decide) ?_
    refine lv_lstore_n (lv' := [(3, .long 0), (0, .ref (g.2.2 0)), (1, .int x1), (2, .int x2)]) hx hb dX11_odds_41 rfl hl (by decide) rfl (fun ls hl => ?_)
    refine lv_lconst (v := 1) hx hb dX11_odds_42 (by decide) ?_
    refine lv_lstore (lv' := [(5, .long 1), (3, .long 0), (0, .ref (g.2.2 0)), (1, .int x1), (2, .int x2)]) hx hb dX11_odds_43 hl (by decide) rfl (fun ls hl => ?_)
    refine lv_iconst (v := 0) hx hb dX11_odds_45 (by decide) ?_
    refine lv_istore (lv' := [(7, .int 0), (5, .long 1), (3, .long 0), (0, .ref (g.2.2 0)), (1, .int x1), (2, .int x2)]) hx hb dX11_odds_46 hl (by decide) rfl (fun ls hl => ?_)
    exact lb_X11_odds_48 g  E hret u_14.2 x1 x2 0  6000 1 0 H locs ls h hZ (lv_sub hl [3, 4, 5, 2, 1, 0] rfl)
  · refine lv_iconst (v := 0) hx hb dX11_odds_38 (by decide) ?_
    exact hret _ _ _ _ _ _ (Option.some.inj h).symm rfl hZ dX11_odds_39
def b_X11_odds_26  (M : zM) (x1 : Int32) (x2 : Int32) : Option (Int32 × zM) :=
  b_X11_odds_31  M x1 x2 1
set_option maxRecDepth 100000 in
set_option maxHeartbeats 4000000 in
theorem lb_X11_odds_26 (g : zG)  {r : Int32 × zM} (E : zX g p m c cX11_odds 11 s args (zWs yX11_odds cX11_odds 11 (some .int)) RX11) (hret : zRi g rE 15 p l e (zrm 3 0 0) s m args below meth c 0 0 Q cX11_odds .int (fun v M1 => r = (v, M1))) (M : zM) (x1 : Int32) (x2 : Int32)  (H : Heap) (locs : List Loc) (ls : Array Slot) (h : b_X11_odds_26  M x1 x2 = some r) (hZ : zS g rE 15 s H locs M) (hl : lv_has ls 11 [(0, .ref (g.2.2 0)), (1, .int x1), (2, .int x2)]) : W p l e (zrm 3 0 0) s m args below meth c H locs 0 0 Q (F0 m 26 ls [.ref (g.2.2 0)]) := by
  have hx := E.1.1
  have hb := E.1.2.1
  unfold b_X11_odds_26 at h
  refine lv_iconst (v := 1) hx hb dX11_odds_26 (by decide) ?_
  refine lv_goto (tgt := 31) hx hb dX11_odds_27 (by decide) ?_
  exact lb_X11_odds_31 g  E hret M x1 x2 1  H locs ls h hZ (lv_sub hl [0, 1, 2] rfl)
def f_X11_odds (M : zM) (x1 : Int32) (x2 : Int32) : Option (Int32 × zM) :=
  znm (zu M 0 0 0) (fun M_16 => zbn (f_X11_in M_16 x1 0 6) (fun u_17 => if u_17 = 0 then (b_X11_odds_26  M_16 x1 x2) else (zbn (f_X11_in M_16 x2 0 6) (fun u_18 => if u_18 = 0 then (b_X11_odds_26  M_16 x1 x2) else (b_X11_odds_31  M_16 x1 x2 0)))))
set_option maxRecDepth 100000 in
set_option maxHeartbeats 4000000 in
theorem w_X11_odds (g : zG)  {r : Int32 × zM} (E : zX g p m c cX11_odds 11 s args (zWs yX11_odds cX11_odds 11 (some .int)) RX11) (hret : zRi g rE 15 p l e (zrm 3 0 0) s m args below meth c 0 0 Q cX11_odds .int (fun v M1 => r = (v, M1))) (M : zM) (x1 : Int32) (x2 : Int32) (H : Heap) (locs : List Loc) (ls : Array Slot) (h : f_X11_odds M x1 x2 = some r) (hZ : zS g rE 15 s H locs M) (hl : lv_has ls 11 [(0, .ref (g.2.2 0)), (1, .int x1), (2, .int x2)]) : W p l e (zrm 3 0 0) s m args below meth c H locs 0 0 Q (F0 m 0 ls []) := by
  have hx := E.1.1
  have hb := E.1.2.1
  unfold f_X11_odds at h
  refine lv_aload_n hx hb dX11_odds_0 rfl (lv_at hl 0 rfl) ?_
  refine lv_iconst (v := 0) hx hb dX11_odds_1 (by decide) ?_
  refine zp h E hZ (by decide) (re_0 _) ((re_0 _).trans (congrArg (fun z => Sum.inr (10, z)) (fs_X11_0 g _ _ _))) kc_X11 (by decide) kw_1368 rfl rfl rfl (Nat.le_of_ble_eq_true rfl) dX11_odds_2 (fun M_16 H locs eM_16 h hZ => ?_)
  refine lv_aload_n hx hb dX11_odds_5 rfl (lv_at hl 0 rfl) ?_
  refine lv_iload_n hx hb dX11_odds_6 rfl (lv_at hl 1 rfl) ?_
  refine lv_iconst (v := 0) hx hb dX11_odds_7 (by decide) ?_
  refine lv_bipush (v := 6) hx hb dX11_odds_8 (by decide) ?_
  obtain ⟨u_17, qu_17, h⟩ := zbn_some h
  refine zciR (zrunS E hZ v_X11_in kw_1666 (c_X11_in l g M_16  x1 0 6 qu_17 _) rfl hl.1 rfl (Nat.le_of_ble_eq_true rfl) ⟨by decide, by decide⟩ ⟨by decide, by decide⟩ dX11_odds_10) hZ (fun H locs hZ => ?_)
  refine zif_eq (tgt := 26) h E dX11_odds_13 (by decide) (fun c_20 h => ?_) (fun c_20 h => ?_)
  · exact lb_X11_odds_26 g  E hret M_16 x1 x2  H locs ls h hZ (lv_sub hl [0, 1, 2] rfl)
  · refine lv_iload_n hx hb dX11_odds_16 rfl (lv_at hl 2 rfl) ?_
    refine lv_iconst (v := 0) hx hb dX11_odds_17 (by decide) ?_
    refine lv_bipush (v := 6) hx hb dX11_odds_18 (by decide) ?_
    obtain ⟨u_18, qu_18, h⟩ := zbn_some h
    refine zciR (zrunS E hZ v_X11_in kw_1666 (c_X11_in l g M_16  x2 0 6 qu_18 _) rfl hl.1 rfl (Nat.le_of_ble_eq_true rfl) ⟨by decide, by decide⟩ ⟨by decide, by decide⟩ dX11_odds_20) hZ (fun H locs hZ => ?_)
    refine zif_ne (tgt := 30) h E dX11_odds_23 (by decide) (fun c_19 h => ?_) (fun c_19 h => ?_)
    · refine lv_iconst (v := 0) hx hb dX11_odds_30 (by decide) ?_
      exact lb_X11_odds_31 g  E hret M_16 x1 x2 0  H locs ls h hZ (lv_sub hl [0, 1, 2] rfl)
    · exact lb_X11_odds_26 g  E hret M_16 x1 x2  H locs ls h hZ (lv_sub hl [0, 1, 2] rfl)
theorem c_X11_odds (l : Launch) (g : zG) (M : zM)  (x1 : Int32) (x2 : Int32) {r : Int32 × zM} (h : f_X11_odds M x1 x2 = some r) : zMi l g rE 15 yX11_odds (zWs yX11_odds cX11_odds 11 (some .int)) 3 [.ref (g.2.2 0), .int x1, .int x2] M (fun v M1 => r = (v, M1)) :=
  zMi_of (by decide +kernel) (Nat.le_of_ble_eq_true rfl) (fun p e s m args below meth c Q ls E hret hZ hl => w_X11_odds g  E hret M x1 x2 _ _ ls h hZ hl)
theorem v_X11_odds : zYV yX11_odds cX11_odds 11 (some .int) 2 := ⟨kw_2016, kw_15, kw_2014, kw_2015, by decide +kernel⟩

def b_X11_trial_53  (M : zM) (t0 : Int32) : Option (Int32 × zM) :=
  zbn (f_X11_bringsBack M ) (fun u_1 => some (t0, u_1))
set_option maxRecDepth 100000 in
set_option maxHeartbeats 4000000 in
theorem lb_X11_trial_53 (g : zG)  {r : Int32 × zM} (E : zX g p m c cX11_trial 5 s args (zWs yX11_trial cX11_trial 5 (some .int)) RX11) (hret : zRi g rE 15 p l e (zrm 15 0 0) s m args below meth c 0 0 Q cX11_trial .int (fun v M1 => r = (v, M1))) (M : zM) (t0 : Int32)  (H : Heap) (locs : List Loc) (ls : Array Slot) (h : b_X11_trial_53  M t0 = some r) (hZ : zS g rE 15 s H locs M) (hl : lv_has ls 5 [(0, .ref (g.2.2 0))]) : W p l e (zrm 15 0 0) s m args below meth c H locs 0 0 Q (F0 m 53 ls [.int t0]) := by
  have hx := E.1.1
  have hb := E.1.2.1
  unfold b_X11_trial_53 at h
  refine lv_istore (lv' := [(4, .int t0), (0, .ref (g.2.2 0))]) hx hb dX11_trial_53 hl (by decide) rfl (fun ls hl => ?_)
  refine lv_aload_n hx hb dX11_trial_55 rfl (lv_at hl 1 rfl) ?_
  obtain ⟨u_1, qu_1, h⟩ := zbn_some h
  refine zcvS (zrunV E hZ (by decide) (re_0 _) rfl rfl v_X11_bringsBack kw_1883 (c_X11_bringsBack l g M   qu_1 _) rfl hl.1 rfl (Nat.le_of_ble_eq_true rfl) ⟨by decide, by decide⟩ ⟨by decide, by decide⟩ dX11_trial_56) hZ (fun H locs hZ => ?_)
  refine lv_iload hx hb dX11_trial_59 (lv_at hl 0 rfl) ?_
  exact hret _ _ _ _ _ _ (Option.some.inj h).symm rfl hZ dX11_trial_61
def b_X11_trial_21  (M : zM) (x1 : Int32) (x2 : Int32) (t0 : Int32) : Option (Int32 × zM) :=
  zbn (f_X11_throwsIf M t0 1) (fun u_2 => if u_2.1 = 0 then (zbn (f_X11_keepsAll u_2.2 ) (fun u_3 => zbn (f_X11_goesBy u_3 x1 0) (fun u_4 => if x2 = 0 then (b_X11_trial_53  u_4.2 u_4.1) else (zbn (f_X11_drownedOnes u_4.2 ) (fun u_5 => b_X11_trial_53  u_4.2 u_5))))) else (some (0, u_2.2)))
set_option maxRecDepth 100000 in
set_option maxHeartbeats 4000000 in
theorem lb_X11_trial_21 (g : zG)  {r : Int32 × zM} (E : zX g p m c cX11_trial 5 s args (zWs yX11_trial cX11_trial 5 (some .int)) RX11) (hret : zRi g rE 15 p l e (zrm 15 0 0) s m args below meth c 0 0 Q cX11_trial .int (fun v M1 => r = (v, M1))) (M : zM) (x1 : Int32) (x2 : Int32) (t0 : Int32)  (H : Heap) (locs : List Loc) (ls : Array Slot) (h : b_X11_trial_21  M x1 x2 t0 = some r) (hZ : zS g rE 15 s H locs M) (hl : lv_has ls 5 [(0, .ref (g.2.2 0)), (1, .int x1), (2, .int x2)]) : W p l e (zrm 15 0 0) s m args below meth c H locs 0 0 Q (F0 m 21 ls [.int t0, .ref (g.2.2 0)]) := by
  have hx := E.1.1
  have hb := E.1.2.1
  unfold b_X11_trial_21 at h
  refine lv_iconst (v := 1) hx hb dX11_trial_21 (by decide) ?_
  obtain ⟨u_2, qu_2, h⟩ := zbn_some h
  refine zciS (zrunV E hZ (by decide) (re_0 _) rfl rfl v_X11_throwsIf kw_1651 (c_X11_throwsIf l g M  t0 1 qu_2 _) rfl hl.1 rfl (Nat.le_of_ble_eq_true rfl) ⟨by decide, by decide⟩ ⟨by decide, by decide⟩ dX11_trial_22) hZ (fun H locs hZ => ?_)
  refine zif_eq (tgt := 30) h E dX11_trial_25 (by decide) (fun c_7 h => ?_) (fun c_7 h => ?_)
  · refine lv_aload_n hx hb dX11_trial_30 rfl (lv_at hl 0 rfl) ?_
    obtain ⟨u_3, qu_3, h⟩ := zbn_some h
    refine zcvS (zrunV E hZ (by decide) (re_0 _) rfl rfl v_X11_keepsAll kw_1879 (c_X11_keepsAll l g u_2.2   qu_3 _) rfl hl.1 rfl (Nat.le_of_ble_eq_true rfl) ⟨by decide, by decide⟩ ⟨by decide, by decide⟩ dX11_trial_31) hZ (fun H locs hZ => ?_)
    refine lv_aload_n hx hb dX11_trial_34 rfl (lv_at hl 0 rfl) ?_
    refine lv_iload_n hx hb dX11_trial_35 rfl (lv_at hl 1 rfl) ?_
    refine lv_iconst (v := 0) hx hb dX11_trial_36 (by decide) ?_
    obtain ⟨u_4, qu_4, h⟩ := zbn_some h
    refine zciS (zrunV E hZ (by decide) (re_0 _) rfl rfl v_X11_goesBy kw_1836 (c_X11_goesBy l g u_3  x1 0 qu_4 _) rfl hl.1 rfl (Nat.le_of_ble_eq_true rfl) ⟨by decide, by decide⟩ ⟨by decide, by decide⟩ dX11_trial_37) hZ (fun H locs hZ => ?_)
    refine lv_istore_n (lv' := [(3, .int u_4.1), (0, .ref (g.2.2 0)), (1, .int x1), (2, .int x2)]) hx hb dX11_trial_40 rfl hl (by decide) rfl (fun ls hl => ?_)
    refine lv_iload_n hx hb dX11_trial_41 rfl (lv_at hl 3 rfl) ?_
    refine zif_eq (tgt := 52) h E dX11_trial_42 (by decide) (fun c_6 h => ?_) (fun c_6 h => ?_)
    · refine lv_iload_n hx hb dX11_trial_52 rfl (lv_at hl 0 rfl) ?_
      exact lb_X11_trial_53 g  E hret u_4.2 u_4.1  H locs ls h hZ (lv_sub hl [1] rfl)
    · refine lv_aload_n hx hb dX11_trial_45 rfl (lv_at hl 1 rfl) ?_
      obtain ⟨u_5, qu_5, h⟩ := zbn_some h
      refine zciR (zrunV E hZ (by decide) (re_0 _) rfl rfl v_X11_drownedOnes kw_1891 (c_X11_drownedOnes l g u_4.2   qu_5 _) rfl hl.1 rfl (Nat.le_of_ble_eq_true rfl) ⟨by decide, by decide⟩ ⟨by decide, by decide⟩ dX11_trial_46) hZ (fun H locs hZ => ?_)
      refine lv_goto (tgt := 53) hx hb dX11_trial_49 (by decide) ?_
      exact lb_X11_trial_53 g  E hret u_4.2 u_5  H locs ls h hZ (lv_sub hl [1] rfl)
  · refine lv_iconst (v := 0) hx hb dX11_trial_28 (by decide) ?_
    exact hret _ _ _ _ _ _ (Option.some.inj h).symm rfl hZ dX11_trial_29
def f_X11_trial (M : zM) (x1 : Int32) (x2 : Int32) : Option (Int32 × zM) :=
  znm (zu M 0 0 0) (fun M_8 => zbn (f_X11_in M_8 x1 0 100) (fun u_9 => if u_9 = 0 then (b_X11_trial_21  M_8 x1 x2 1) else (b_X11_trial_21  M_8 x1 x2 0)))
set_option maxRecDepth 100000 in
set_option maxHeartbeats 4000000 in
theorem w_X11_trial (g : zG)  {r : Int32 × zM} (E : zX g p m c cX11_trial 5 s args (zWs yX11_trial cX11_trial 5 (some .int)) RX11) (hret : zRi g rE 15 p l e (zrm 15 0 0) s m args below meth c 0 0 Q cX11_trial .int (fun v M1 => r = (v, M1))) (M : zM) (x1 : Int32) (x2 : Int32) (H : Heap) (locs : List Loc) (ls : Array Slot) (h : f_X11_trial M x1 x2 = some r) (hZ : zS g rE 15 s H locs M) (hl : lv_has ls 5 [(0, .ref (g.2.2 0)), (1, .int x1), (2, .int x2)]) : W p l e (zrm 15 0 0) s m args below meth c H locs 0 0 Q (F0 m 0 ls []) := by
  have hx := E.1.1
  have hb := E.1.2.1
  unfold f_X11_trial at h
  refine lv_aload_n hx hb dX11_trial_0 rfl (lv_at hl 0 rfl) ?_
  refine lv_iconst (v := 0) hx hb dX11_trial_1 (by decide) ?_
  refine zp h E hZ (by decide) (re_0 _) ((re_0 _).trans (congrArg (fun z => Sum.inr (10, z)) (fs_X11_0 g _ _ _))) kc_X11 (by decide) kw_1368 rfl rfl rfl (Nat.le_of_ble_eq_true rfl) dX11_trial_2 (fun M_8 H locs eM_8 h hZ => ?_)
  refine lv_aload_n hx hb dX11_trial_5 rfl (lv_at hl 0 rfl) ?_
  refine lv_iload_n hx hb dX11_trial_6 rfl (lv_at hl 1 rfl) ?_
  refine lv_iconst (v := 0) hx hb dX11_trial_7 (by decide) ?_
  refine lv_bipush (v := 100) hx hb dX11_trial_8 (by decide) ?_
  obtain ⟨u_9, qu_9, h⟩ := zbn_some h
  refine zciR (zrunS E hZ v_X11_in kw_1666 (c_X11_in l g M_8  x1 0 100 qu_9 _) rfl hl.1 rfl (Nat.le_of_ble_eq_true rfl) ⟨by decide, by decide⟩ ⟨by decide, by decide⟩ dX11_trial_10) hZ (fun H locs hZ => ?_)
  refine zif_ne (tgt := 20) h E dX11_trial_13 (by decide) (fun c_10 h => ?_) (fun c_10 h => ?_)
  · refine lv_iconst (v := 0) hx hb dX11_trial_20 (by decide) ?_
    exact lb_X11_trial_21 g  E hret M_8 x1 x2 0  H locs ls h hZ (lv_sub hl [0, 1, 2] rfl)
  · refine lv_iconst (v := 1) hx hb dX11_trial_16 (by decide) ?_
    refine lv_goto (tgt := 21) hx hb dX11_trial_17 (by decide) ?_
    exact lb_X11_trial_21 g  E hret M_8 x1 x2 1  H locs ls h hZ (lv_sub hl [0, 1, 2] rfl)
theorem c_X11_trial (l : Launch) (g : zG) (M : zM)  (x1 : Int32) (x2 : Int32) {r : Int32 × zM} (h : f_X11_trial M x1 x2 = some r) : zMi l g rE 15 yX11_trial (zWs yX11_trial cX11_trial 5 (some .int)) 15 [.ref (g.2.2 0), .int x1, .int x2] M (fun v M1 => r = (v, M1)) :=
  zMi_of (by decide +kernel) (Nat.le_of_ble_eq_true rfl) (fun p e s m args below meth c Q ls E hret hZ hl => w_X11_trial g  E hret M x1 x2 _ _ ls h hZ hl)
theorem v_X11_trial : zYV yX11_trial cX11_trial 5 (some .int) 2 := ⟨kw_2022, kw_15, kw_2020, kw_2021, by decide +kernel⟩

def b_X11_span_95 (K39 : zM → Int32 → Int32 → Option (Int32 × zM)) (M : zM) (x1 : Int32) (x2 : Int32) (x4 : Int32) (t0 : Int32) : Option (Int32 × zM) :=
  znm (x4 + 1) (fun x4_1 => K39 M t0 x4_1)
set_option maxRecDepth 100000 in
set_option maxHeartbeats 4000000 in
theorem lb_X11_span_95 (g : zG)  {r : Int32 × zM} (E : zX g p m c cX11_span 6 s args (zWs yX11_span cX11_span 6 (some .int)) RX11) (hret : zRi g rE 15 p l e (zrm 15 0 0) s m args below meth c 0 0 Q cX11_span .int (fun v M1 => r = (v, M1))) (M : zM) (x1 : Int32) (x2 : Int32) (x4 : Int32) (t0 : Int32) (K39 : zM → Int32 → Int32 → Option (Int32 × zM)) (hK39 : ∀ (M : zM) (x3 : Int32) (x4 : Int32) (H : Heap) (locs : List Loc) (ls : Array Slot), K39 M x3 x4 = some r → zS g rE 15 s H locs M → lv_has ls 6 [(0, .ref (g.2.2 0)), (1, .int x1), (2, .int x2), (3, .int x3), (4, .int x4)] → W p l e (zrm 15 0 0) s m args below meth c H locs 0 0 Q (F0 m 39 ls [])) (H : Heap) (locs : List Loc) (ls : Array Slot) (h : b_X11_span_95 K39 M x1 x2 x4 t0 = some r) (hZ : zS g rE 15 s H locs M) (hl : lv_has ls 6 [(0, .ref (g.2.2 0)), (1, .int x1), (2, .int x2), (4, .int x4)]) : W p l e (zrm 15 0 0) s m args below meth c H locs 0 0 Q (F0 m 95 ls [.int t0]) := by
  have hx := E.1.1
  have hb := E.1.2.1
  unfold b_X11_span_95 at h
  refine lv_istore_n (lv' := [(3, .int t0), (0, .ref (g.2.2 0)), (1, .int x1), (2, .int x2), (4, .int x4)]) hx hb dX11_span_95 rfl hl (by decide) rfl (fun ls hl => ?_)
  obtain ⟨x4_1, ex4_1, h⟩ := znm_ex h
  refine lv_iinc (v := x4_1) (lv' := [(4, .int x4_1), (3, .int t0), (0, .ref (g.2.2 0)), (1, .int x1), (2, .int x2)]) hx hb dX11_span_96 hl (k := 4) rfl (by rw [ex4_1]; rfl) (by decide) rfl (fun ls hl => ?_)
  refine lv_goto (tgt := 39) hx hb dX11_span_99 (by decide) ?_
  exact hK39 M t0 x4_1 H locs ls h hZ (lv_sub hl [2, 3, 4, 1, 0] rfl)
def b_X11_span_39  (x1 : Int32) (x2 : Int32) : Nat → zM → Int32 → Int32 → Option (Int32 × zM)
  | 0, _, _, _ => none
  | n + 1, M, x3, x4 =>
    if 6 < x4 then (some (x3, M)) else (zck (zin 13 2030) (znm (zu M 1 (13 : Int32).toNatClampNeg x4) (fun M_2 => zbn (f_X11_goesBy M_2 x1 0) (fun u_3 => zbn (f_X11_bringsBack u_3.2 ) (fun u_4 => if 0 ≤ x3 then (if x2 = 0 then (znm (if u_3.1 < x3 then u_3.1 else x3) (fun v_5 => b_X11_span_95 (fun M x3 x4 => b_X11_span_39  x1 x2 n M x3 x4) u_4 x1 x2 x4 v_5)) else (znm (if x3 < u_3.1 then u_3.1 else x3) (fun v_6 => b_X11_span_95 (fun M x3 x4 => b_X11_span_39  x1 x2 n M x3 x4) u_4 x1 x2 x4 v_6))) else (b_X11_span_95 (fun M x3 x4 => b_X11_span_39  x1 x2 n M x3 x4) u_4 x1 x2 x4 u_3.1))))))
set_option maxRecDepth 100000 in
set_option maxHeartbeats 4000000 in
theorem lb_X11_span_39 (g : zG)  {r : Int32 × zM} (E : zX g p m c cX11_span 6 s args (zWs yX11_span cX11_span 6 (some .int)) RX11) (hret : zRi g rE 15 p l e (zrm 15 0 0) s m args below meth c 0 0 Q cX11_span .int (fun v M1 => r = (v, M1))) (x1 : Int32) (x2 : Int32)  : ∀ (n : Nat) (M : zM) (x3 : Int32) (x4 : Int32) (H : Heap) (locs : List Loc) (ls : Array Slot), b_X11_span_39  x1 x2 n M x3 x4 = some r → zS g rE 15 s H locs M → lv_has ls 6 [(0, .ref (g.2.2 0)), (1, .int x1), (2, .int x2), (3, .int x3), (4, .int x4)] → W p l e (zrm 15 0 0) s m args below meth c H locs 0 0 Q (F0 m 39 ls []) := by
  have hx := E.1.1
  have hb := E.1.2.1
  intro n
  induction n with
  | zero => intro M x3 x4 H locs ls h hZ hl; cases h
  | succ n ih =>
    intro M x3 x4 H locs ls h hZ hl
    rw [b_X11_span_39] at h
    refine lv_iload hx hb dX11_span_39 (lv_at hl 4 rfl) ?_
    refine lv_bipush (v := 6) hx hb dX11_span_41 (by decide) ?_
    refine zic_gt (tgt := 102) h E dX11_span_43 (by decide) (fun c_9 h => ?_) (fun c_9 h => ?_)
    · refine lv_iload_n hx hb dX11_span_102 rfl (lv_at hl 3 rfl) ?_
      exact hret _ _ _ _ _ _ (Option.some.inj h).symm rfl hZ dX11_span_103
    · refine lv_aload_n hx hb dX11_span_46 rfl (lv_at hl 0 rfl) ?_
      refine zg (v := .ref (g.2.2 1)) E hZ (by decide) (re_0 _) kc_X11 1 (by decide) kw_1369 rfl rfl dX11_span_47 ?_
      refine lv_bipush (v := 13) hx hb dX11_span_50 (by decide) ?_
      refine lv_iload hx hb dX11_span_52 (lv_at hl 4 rfl) ?_
      refine zis h E hZ (by decide) re_1 dX11_span_54 (fun M_2 H locs eM_2 h hZ => ?_)
      refine lv_aload_n hx hb dX11_span_55 rfl (lv_at hl 0 rfl) ?_
      refine lv_iload_n hx hb dX11_span_56 rfl (lv_at hl 1 rfl) ?_
      refine lv_iconst (v := 0) hx hb dX11_span_57 (by decide) ?_
      obtain ⟨u_3, qu_3, h⟩ := zbn_some h
      refine zciS (zrunV E hZ (by decide) (re_0 _) rfl rfl v_X11_goesBy kw_1836 (c_X11_goesBy l g M_2  x1 0 qu_3 _) rfl hl.1 rfl (Nat.le_of_ble_eq_true rfl) ⟨by decide, by decide⟩ ⟨by decide, by decide⟩ dX11_span_58) hZ (fun H locs hZ => ?_)
      refine lv_istore (lv' := [(5, .int u_3.1), (0, .ref (g.2.2 0)), (1, .int x1), (2, .int x2), (3, .int x3), (4, .int x4)]) hx hb dX11_span_61 hl (by decide) rfl (fun ls hl => ?_)
      refine lv_aload_n hx hb dX11_span_63 rfl (lv_at hl 1 rfl) ?_
      obtain ⟨u_4, qu_4, h⟩ := zbn_some h
      refine zcvS (zrunV E hZ (by decide) (re_0 _) rfl rfl v_X11_bringsBack kw_1883 (c_X11_bringsBack l g u_3.2   qu_4 _) rfl hl.1 rfl (Nat.le_of_ble_eq_true rfl) ⟨by decide, by decide⟩ ⟨by decide, by decide⟩ dX11_span_64) hZ (fun H locs hZ => ?_)
      refine lv_iload_n hx hb dX11_span_67 rfl (lv_at hl 4 rfl) ?_
      refine zif_ge (tgt := 76) h E dX11_span_68 (by decide) (fun c_8 h => ?_) (fun c_8 h => ?_)
      · refine lv_iload_n hx hb dX11_span_76 rfl (lv_at hl 3 rfl) ?_
        refine zif_eq (tgt := 89) h E dX11_span_77 (by decide) (fun c_7 h => ?_) (fun c_7 h => ?_)
        · refine lv_iload_n hx hb dX11_span_89 rfl (lv_at hl 4 rfl) ?_
          refine lv_iload hx hb dX11_span_90 (lv_at hl 0 rfl) ?_
          refine va_mmin hx hb (E.1.2.2.1.trans hl.1.symm) E.1.2.2.2.1 (E.w kw_1862) (E.w kw_540) (E.w kw_16) (E.w kw_541) (Nat.le_of_ble_eq_true rfl) (Nat.le_of_ble_eq_true rfl) (Nat.le_of_ble_eq_true rfl) (Nat.le_of_ble_eq_true rfl) dX11_span_92 ?_
          refine zni h (fun v_5 ev_5 h => ?_)
          exact lb_X11_span_95 g  E hret u_4 x1 x2 x4 v_5 (fun M x3 x4 => b_X11_span_39  x1 x2 n M x3 x4) ih H locs ls h hZ (lv_sub hl [1, 2, 3, 5] rfl)
        · refine lv_iload_n hx hb dX11_span_80 rfl (lv_at hl 4 rfl) ?_
          refine lv_iload hx hb dX11_span_81 (lv_at hl 0 rfl) ?_
          refine va_mmax hx hb (E.1.2.2.1.trans hl.1.symm) E.1.2.2.2.1 (E.w kw_1697) (E.w kw_453) (E.w kw_16) (E.w kw_454) (Nat.le_of_ble_eq_true rfl) (Nat.le_of_ble_eq_true rfl) (Nat.le_of_ble_eq_true rfl) (Nat.le_of_ble_eq_true rfl) dX11_span_83 ?_
          refine zni h (fun v_6 ev_6 h => ?_)
          refine lv_goto (tgt := 95) hx hb dX11_span_86 (by decide) ?_
          exact lb_X11_span_95 g  E hret u_4 x1 x2 x4 v_6 (fun M x3 x4 => b_X11_span_39  x1 x2 n M x3 x4) ih H locs ls h hZ (lv_sub hl [1, 2, 3, 5] rfl)
      · refine lv_iload hx hb dX11_span_71 (lv_at hl 0 rfl) ?_
        refine lv_goto (tgt := 95) hx hb dX11_span_73 (by decide) ?_
        exact lb_X11_span_95 g  E hret u_4 x1 x2 x4 u_3.1 (fun M x3 x4 => b_X11_span_39  x1 x2 n M x3 x4) ih H locs ls h hZ (lv_sub hl [1, 2, 3, 5] rfl)
def b_X11_span_21  (M : zM) (x1 : Int32) (x2 : Int32) (t0 : Int32) : Option (Int32 × zM) :=
  zbn (f_X11_throwsIf M t0 1) (fun u_10 => if u_10.1 = 0 then (zbn (f_X11_keepsAll u_10.2 ) (fun u_11 => b_X11_span_39  x1 x2 6000 u_11 ((-1)) 1)) else (some (0, u_10.2)))
set_option maxRecDepth 100000 in
set_option maxHeartbeats 4000000 in
theorem lb_X11_span_21 (g : zG)  {r : Int32 × zM} (E : zX g p m c cX11_span 6 s args (zWs yX11_span cX11_span 6 (some .int)) RX11) (hret : zRi g rE 15 p l e (zrm 15 0 0) s m args below meth c 0 0 Q cX11_span .int (fun v M1 => r = (v, M1))) (M : zM) (x1 : Int32) (x2 : Int32) (t0 : Int32)  (H : Heap) (locs : List Loc) (ls : Array Slot) (h : b_X11_span_21  M x1 x2 t0 = some r) (hZ : zS g rE 15 s H locs M) (hl : lv_has ls 6 [(0, .ref (g.2.2 0)), (1, .int x1), (2, .int x2)]) : W p l e (zrm 15 0 0) s m args below meth c H locs 0 0 Q (F0 m 21 ls [.int t0, .ref (g.2.2 0)]) := by
  have hx := E.1.1
  have hb := E.1.2.1
  unfold b_X11_span_21 at h
  refine lv_iconst (v := 1) hx hb dX11_span_21 (by decide) ?_
  obtain ⟨u_10, qu_10, h⟩ := zbn_some h
  refine zciS (zrunV E hZ (by decide) (re_0 _) rfl rfl v_X11_throwsIf kw_1651 (c_X11_throwsIf l g M  t0 1 qu_10 _) rfl hl.1 rfl (Nat.le_of_ble_eq_true rfl) ⟨by decide, by decide⟩ ⟨by decide, by decide⟩ dX11_span_22) hZ (fun H locs hZ => ?_)
  refine zif_eq (tgt := 30) h E dX11_span_25 (by decide) (fun c_12 h => ?_) (fun c_12 h => ?_)
  · refine lv_aload_n hx hb dX11_span_30 rfl (lv_at hl 0 rfl) ?_
    obtain ⟨u_11, qu_11, h⟩ := zbn_some h
    refine zcvS (zrunV E hZ (by decide) (re_0 _) rfl rfl v_X11_keepsAll kw_1879 (c_X11_keepsAll l g u_10.2   qu_11 _) rfl hl.1 rfl (Nat.le_of_ble_eq_true rfl) ⟨by decide, by decide⟩ ⟨by decide, by decide⟩ dX11_span_31) hZ (fun H locs hZ => ?_)
    refine lv_iconst (v := (-1)) hx hb dX11_span_34 (by decide) ?_
    refine lv_istore_n (lv' := [(3, .int ((-1))), (0, .ref (g.2.2 0)), (1, .int x1), (2, .int x2)]) hx hb dX11_span_35 rfl hl (by decide) rfl (fun ls hl => ?_)
    refine lv_iconst (v := 1) hx hb dX11_span_36 (by decide) ?_
    refine lv_istore (lv' := [(4, .int 1), (3, .int ((-1))), (0, .ref (g.2.2 0)), (1, .int x1), (2, .int x2)]) hx hb dX11_span_37 hl (by decide) rfl (fun ls hl => ?_)
    exact lb_X11_span_39 g  E hret x1 x2  6000 u_11 ((-1)) 1 H locs ls h hZ (lv_sub hl [2, 3, 4, 1, 0] rfl)
  · refine lv_iconst (v := 0) hx hb dX11_span_28 (by decide) ?_
    exact hret _ _ _ _ _ _ (Option.some.inj h).symm rfl hZ dX11_span_29
def f_X11_span (M : zM) (x1 : Int32) (x2 : Int32) : Option (Int32 × zM) :=
  znm (zu M 0 0 0) (fun M_13 => zbn (f_X11_in M_13 x1 0 100) (fun u_14 => if u_14 = 0 then (b_X11_span_21  M_13 x1 x2 1) else (b_X11_span_21  M_13 x1 x2 0)))
set_option maxRecDepth 100000 in
set_option maxHeartbeats 4000000 in
theorem w_X11_span (g : zG)  {r : Int32 × zM} (E : zX g p m c cX11_span 6 s args (zWs yX11_span cX11_span 6 (some .int)) RX11) (hret : zRi g rE 15 p l e (zrm 15 0 0) s m args below meth c 0 0 Q cX11_span .int (fun v M1 => r = (v, M1))) (M : zM) (x1 : Int32) (x2 : Int32) (H : Heap) (locs : List Loc) (ls : Array Slot) (h : f_X11_span M x1 x2 = some r) (hZ : zS g rE 15 s H locs M) (hl : lv_has ls 6 [(0, .ref (g.2.2 0)), (1, .int x1), (2, .int x2)]) : W p l e (zrm 15 0 0) s m args below meth c H locs 0 0 Q (F0 m 0 ls []) := by
  have hx := E.1.1
  have hb := E.1.2.1
  unfold f_X11_span at h
  refine lv_aload_n hx hb dX11_span_0 rfl (lv_at hl 0 rfl) ?_
  refine lv_iconst (v := 0) hx hb dX11_span_1 (by decide) ?_
  refine zp h E hZ (by decide) (re_0 _) ((re_0 _).trans (congrArg (fun z => Sum.inr (10, z)) (fs_X11_0 g _ _ _))) kc_X11 (by decide) kw_1368 rfl rfl rfl (Nat.le_of_ble_eq_true rfl) dX11_span_2 (fun M_13 H locs eM_13 h hZ => ?_)
  refine lv_aload_n hx hb dX11_span_5 rfl (lv_at hl 0 rfl) ?_
  refine lv_iload_n hx hb dX11_span_6 rfl (lv_at hl 1 rfl) ?_
  refine lv_iconst (v := 0) hx hb dX11_span_7 (by decide) ?_
  refine lv_bipush (v := 100) hx hb dX11_span_8 (by decide) ?_
  obtain ⟨u_14, qu_14, h⟩ := zbn_some h
  refine zciR (zrunS E hZ v_X11_in kw_1666 (c_X11_in l g M_13  x1 0 100 qu_14 _) rfl hl.1 rfl (Nat.le_of_ble_eq_true rfl) ⟨by decide, by decide⟩ ⟨by decide, by decide⟩ dX11_span_10) hZ (fun H locs hZ => ?_)
  refine zif_ne (tgt := 20) h E dX11_span_13 (by decide) (fun c_15 h => ?_) (fun c_15 h => ?_)
  · refine lv_iconst (v := 0) hx hb dX11_span_20 (by decide) ?_
    exact lb_X11_span_21 g  E hret M_13 x1 x2 0  H locs ls h hZ (lv_sub hl [0, 1, 2] rfl)
  · refine lv_iconst (v := 1) hx hb dX11_span_16 (by decide) ?_
    refine lv_goto (tgt := 21) hx hb dX11_span_17 (by decide) ?_
    exact lb_X11_span_21 g  E hret M_13 x1 x2 1  H locs ls h hZ (lv_sub hl [0, 1, 2] rfl)
theorem c_X11_span (l : Launch) (g : zG) (M : zM)  (x1 : Int32) (x2 : Int32) {r : Int32 × zM} (h : f_X11_span M x1 x2 = some r) : zMi l g rE 15 yX11_span (zWs yX11_span cX11_span 6 (some .int)) 15 [.ref (g.2.2 0), .int x1, .int x2] M (fun v M1 => r = (v, M1)) :=
  zMi_of (by decide +kernel) (Nat.le_of_ble_eq_true rfl) (fun p e s m args below meth c Q ls E hret hZ hl => w_X11_span g  E hret M x1 x2 _ _ ls h hZ hl)
theorem v_X11_span : zYV yX11_span cX11_span 6 (some .int) 2 := ⟨kw_2026, kw_15, kw_2024, kw_2025, by decide +kernel⟩

def f_X11_ofLog (M : zM) (x1 : Int32) (x2 : Int32) : Option (Int32) :=
  zck (zin ((92 + (4 * x1)) + x2) 2030) (some (M 1 ((92 + (4 * x1)) + x2 : Int32).toNatClampNeg))
set_option maxRecDepth 100000 in
set_option maxHeartbeats 4000000 in
theorem w_X11_ofLog (g : zG)  {r : Int32} {M0 : zM} (E : zX g p m c cX11_ofLog 3 s args (zWs yX11_ofLog cX11_ofLog 3 (some .int)) RX11) (hret : zRi g rE 15 p l e (zrm 2 0 0) s m args below meth c 0 0 Q cX11_ofLog .int (fun v M1 => v = r ∧ M1 = M0)) (M : zM) (hM : M = M0) (x1 : Int32) (x2 : Int32) (H : Heap) (locs : List Loc) (ls : Array Slot) (h : f_X11_ofLog M x1 x2 = some r) (hZ : zS g rE 15 s H locs M) (hl : lv_has ls 3 [(0, .ref (g.2.2 0)), (1, .int x1), (2, .int x2)]) : W p l e (zrm 2 0 0) s m args below meth c H locs 0 0 Q (F0 m 0 ls []) := by
  have hx := E.1.1
  have hb := E.1.2.1
  unfold f_X11_ofLog at h
  refine lv_aload_n hx hb dX11_ofLog_0 rfl (lv_at hl 0 rfl) ?_
  refine zg (v := .ref (g.2.2 1)) E hZ (by decide) (re_0 _) kc_X11 1 (by decide) kw_1369 rfl rfl dX11_ofLog_1 ?_
  refine lv_bipush (v := 92) hx hb dX11_ofLog_4 (by decide) ?_
  refine lv_iconst (v := 4) hx hb dX11_ofLog_6 (by decide) ?_
  refine lv_iload_n hx hb dX11_ofLog_7 rfl (lv_at hl 1 rfl) ?_
  refine lv_imul hx hb dX11_ofLog_8 ?_
  refine lv_iadd hx hb dX11_ofLog_9 ?_
  refine lv_iload_n hx hb dX11_ofLog_10 rfl (lv_at hl 2 rfl) ?_
  refine lv_iadd hx hb dX11_ofLog_11 ?_
  refine zia h E hZ (by decide) re_1 dX11_ofLog_12 (fun h => ?_)
  exact hret _ _ _ _ _ _ ⟨Option.some.inj h, hM⟩ rfl hZ dX11_ofLog_13
theorem c_X11_ofLog (l : Launch) (g : zG) (M : zM)  (x1 : Int32) (x2 : Int32) {r : Int32} (h : f_X11_ofLog M x1 x2 = some r) : zMi l g rE 15 yX11_ofLog (zWs yX11_ofLog cX11_ofLog 3 (some .int)) 2 [.ref (g.2.2 0), .int x1, .int x2] M (fun v M1 => v = r ∧ M1 = M) :=
  zMi_of (by decide +kernel) (Nat.le_of_ble_eq_true rfl) (fun p e s m args below meth c Q ls E hret hZ hl => w_X11_ofLog g  E hret M rfl x1 x2 _ _ ls h hZ hl)
theorem v_X11_ofLog : zYV yX11_ofLog cX11_ofLog 3 (some .int) 2 := ⟨kw_2034, kw_15, kw_2033, kp_115, by decide +kernel⟩

def b_X11_led_72  (M : zM) (x2 : Int32) (x3 : Int32) (x4 : Int32) : Option (Int32 × zM) :=
  if x2 = 0 then (some (x3, M)) else (some (x4, M))
set_option maxRecDepth 100000 in
set_option maxHeartbeats 4000000 in
theorem lb_X11_led_72 (g : zG)  {r : Int32 × zM} (E : zX g p m c cX11_led 6 s args (zWs yX11_led cX11_led 6 (some .int)) RX11) (hret : zRi g rE 15 p l e (zrm 4 0 0) s m args below meth c 0 0 Q cX11_led .int (fun v M1 => r = (v, M1))) (M : zM) (x2 : Int32) (x3 : Int32) (x4 : Int32)  (H : Heap) (locs : List Loc) (ls : Array Slot) (h : b_X11_led_72  M x2 x3 x4 = some r) (hZ : zS g rE 15 s H locs M) (hl : lv_has ls 6 [(2, .int x2), (3, .int x3), (4, .int x4)]) : W p l e (zrm 4 0 0) s m args below meth c H locs 0 0 Q (F0 m 72 ls []) := by
  have hx := E.1.1
  have hb := E.1.2.1
  unfold b_X11_led_72 at h
  refine lv_iload_n hx hb dX11_led_72 rfl (lv_at hl 0 rfl) ?_
  refine zif_eq (tgt := 81) h E dX11_led_73 (by decide) (fun c_1 h => ?_) (fun c_1 h => ?_)
  · refine lv_iload_n hx hb dX11_led_81 rfl (lv_at hl 1 rfl) ?_
    exact hret _ _ _ _ _ _ (Option.some.inj h).symm rfl hZ dX11_led_82
  · refine lv_iload hx hb dX11_led_76 (lv_at hl 2 rfl) ?_
    refine lv_goto (tgt := 82) hx hb dX11_led_78 (by decide) ?_
    exact hret _ _ _ _ _ _ (Option.some.inj h).symm rfl hZ dX11_led_82
def b_X11_led_66 (K35 : Int32 → Int32 → Int32 → Option (Int32 × zM)) (M : zM) (x1 : Int32) (x2 : Int32) (x3 : Int32) (x4 : Int32) (x5 : Int32) : Option (Int32 × zM) :=
  znm (x5 + (-1)) (fun x5_2 => K35 x3 x4 x5_2)
set_option maxRecDepth 100000 in
set_option maxHeartbeats 4000000 in
theorem lb_X11_led_66 (g : zG)  {r : Int32 × zM} (E : zX g p m c cX11_led 6 s args (zWs yX11_led cX11_led 6 (some .int)) RX11) (hret : zRi g rE 15 p l e (zrm 4 0 0) s m args below meth c 0 0 Q cX11_led .int (fun v M1 => r = (v, M1))) (M : zM) (x1 : Int32) (x2 : Int32) (x3 : Int32) (x4 : Int32) (x5 : Int32) (K35 : Int32 → Int32 → Int32 → Option (Int32 × zM)) (hK35 : ∀ (x3 : Int32) (x4 : Int32) (x5 : Int32) (H : Heap) (locs : List Loc) (ls : Array Slot), K35 x3 x4 x5 = some r → zS g rE 15 s H locs M → lv_has ls 6 [(0, .ref (g.2.2 0)), (1, .int x1), (2, .int x2), (3, .int x3), (4, .int x4), (5, .int x5)] → W p l e (zrm 4 0 0) s m args below meth c H locs 0 0 Q (F0 m 35 ls [])) (H : Heap) (locs : List Loc) (ls : Array Slot) (h : b_X11_led_66 K35 M x1 x2 x3 x4 x5 = some r) (hZ : zS g rE 15 s H locs M) (hl : lv_has ls 6 [(0, .ref (g.2.2 0)), (1, .int x1), (2, .int x2), (3, .int x3), (4, .int x4), (5, .int x5)]) : W p l e (zrm 4 0 0) s m args below meth c H locs 0 0 Q (F0 m 66 ls []) := by
  have hx := E.1.1
  have hb := E.1.2.1
  unfold b_X11_led_66 at h
  obtain ⟨x5_2, ex5_2, h⟩ := znm_ex h
  refine lv_iinc (v := x5_2) (lv' := [(5, .int x5_2), (0, .ref (g.2.2 0)), (1, .int x1), (2, .int x2), (3, .int x3), (4, .int x4)]) hx hb dX11_led_66 hl (k := 5) rfl (by rw [ex5_2]; rfl) (by decide) rfl (fun ls hl => ?_)
  refine lv_goto (tgt := 35) hx hb dX11_led_69 (by decide) ?_
  exact hK35 x3 x4 x5_2 H locs ls h hZ (lv_sub hl [1, 2, 3, 4, 5, 0] rfl)
def b_X11_led_35  (M : zM) (x1 : Int32) (x2 : Int32) : Nat → Int32 → Int32 → Int32 → Option (Int32 × zM)
  | 0, _, _, _ => none
  | n + 1, x3, x4, x5 =>
    if x5 < 0 then (b_X11_led_72  M x2 x3 x4) else (zbn (f_X11_ofLog M x5 3) (fun u_3 => if u_3 = x1 then (znm (x3 + 1) (fun x3_4 => zbn (f_X11_ofLog M x5 0) (fun u_5 => b_X11_led_66 (fun x3 x4 x5 => b_X11_led_35  M x1 x2 n x3 x4 x5) M x1 x2 x3_4 u_5 x5))) else (b_X11_led_66 (fun x3 x4 x5 => b_X11_led_35  M x1 x2 n x3 x4 x5) M x1 x2 x3 x4 x5)))
set_option maxRecDepth 100000 in
set_option maxHeartbeats 4000000 in
theorem lb_X11_led_35 (g : zG)  {r : Int32 × zM} (E : zX g p m c cX11_led 6 s args (zWs yX11_led cX11_led 6 (some .int)) RX11) (hret : zRi g rE 15 p l e (zrm 4 0 0) s m args below meth c 0 0 Q cX11_led .int (fun v M1 => r = (v, M1))) (M : zM) (x1 : Int32) (x2 : Int32)  : ∀ (n : Nat) (x3 : Int32) (x4 : Int32) (x5 : Int32) (H : Heap) (locs : List Loc) (ls : Array Slot), b_X11_led_35  M x1 x2 n x3 x4 x5 = some r → zS g rE 15 s H locs M → lv_has ls 6 [(0, .ref (g.2.2 0)), (1, .int x1), (2, .int x2), (3, .int x3), (4, .int x4), (5, .int x5)] → W p l e (zrm 4 0 0) s m args below meth c H locs 0 0 Q (F0 m 35 ls []) := by
  have hx := E.1.1
  have hb := E.1.2.1
  intro n
  induction n with
  | zero => intro x3 x4 x5 H locs ls h hZ hl; cases h
  | succ n ih =>
    intro x3 x4 x5 H locs ls h hZ hl
    rw [b_X11_led_35] at h
    refine lv_iload hx hb dX11_led_35 (lv_at hl 5 rfl) ?_
    refine zif_lt (tgt := 72) h E dX11_led_37 (by decide) (fun c_7 h => ?_) (fun c_7 h => ?_)
    · exact lb_X11_led_72 g  E hret M x2 x3 x4  H locs ls h hZ (lv_sub hl [2, 3, 4] rfl)
    · refine lv_aload_n hx hb dX11_led_40 rfl (lv_at hl 0 rfl) ?_
      refine lv_iload hx hb dX11_led_41 (lv_at hl 5 rfl) ?_
      refine lv_iconst (v := 3) hx hb dX11_led_43 (by decide) ?_
      obtain ⟨u_3, qu_3, h⟩ := zbn_some h
      refine zciR (zrunV E hZ (by decide) (re_0 _) rfl rfl v_X11_ofLog kw_2031 (c_X11_ofLog l g M  x5 3 qu_3 _) rfl hl.1 rfl (Nat.le_of_ble_eq_true rfl) ⟨by decide, by decide⟩ ⟨by decide, by decide⟩ dX11_led_44) hZ (fun H locs hZ => ?_)
      refine lv_iload_n hx hb dX11_led_47 rfl (lv_at hl 1 rfl) ?_
      refine zic_eq (tgt := 54) h E dX11_led_48 (by decide) (fun c_6 h => ?_) (fun c_6 h => ?_)
      · obtain ⟨x3_4, ex3_4, h⟩ := znm_ex h
        refine lv_iinc (v := x3_4) (lv' := [(3, .int x3_4), (0, .ref (g.2.2 0)), (1, .int x1), (2, .int x2), (4, .int x4), (5, .int x5)]) hx hb dX11_led_54 hl (k := 3) rfl (by rw [ex3_4]; rfl) (by decide) rfl (fun ls hl => ?_)
        refine lv_aload_n hx hb dX11_led_57 rfl (lv_at hl 1 rfl) ?_
        refine lv_iload hx hb dX11_led_58 (lv_at hl 5 rfl) ?_
        refine lv_iconst (v := 0) hx hb dX11_led_60 (by decide) ?_
        obtain ⟨u_5, qu_5, h⟩ := zbn_some h
        refine zciR (zrunV E hZ (by decide) (re_0 _) rfl rfl v_X11_ofLog kw_2031 (c_X11_ofLog l g M  x5 0 qu_5 _) rfl hl.1 rfl (Nat.le_of_ble_eq_true rfl) ⟨by decide, by decide⟩ ⟨by decide, by decide⟩ dX11_led_61) hZ (fun H locs hZ => ?_)
        refine lv_istore (lv' := [(4, .int u_5), (3, .int x3_4), (0, .ref (g.2.2 0)), (1, .int x1), (2, .int x2), (5, .int x5)]) hx hb dX11_led_64 hl (by decide) rfl (fun ls hl => ?_)
        exact lb_X11_led_66 g  E hret M x1 x2 x3_4 u_5 x5 (fun x3 x4 x5 => b_X11_led_35  M x1 x2 n x3 x4 x5) ih H locs ls h hZ (lv_sub hl [2, 3, 4, 1, 0, 5] rfl)
      · refine lv_goto (tgt := 66) hx hb dX11_led_51 (by decide) ?_
        exact lb_X11_led_66 g  E hret M x1 x2 x3 x4 x5 (fun x3 x4 x5 => b_X11_led_35  M x1 x2 n x3 x4 x5) ih H locs ls h hZ (lv_sub hl [0, 1, 2, 3, 4, 5] rfl)
def f_X11_led (M : zM) (x1 : Int32) (x2 : Int32) : Option (Int32 × zM) :=
  znm (zu M 0 0 0) (fun M_8 => zbn (f_X11_noPlace M_8 x1) (fun u_9 => zbn (f_X11_throwsIf M_8 u_9 1) (fun u_10 => if u_10.1 = 0 then (zck (zin 12 2030) (znm ((u_10.2 1 (12 : Int32).toNatClampNeg) - 1) (fun x5_11 => b_X11_led_35  u_10.2 x1 x2 6000 0 ((-1)) x5_11))) else (some (0, u_10.2)))))
set_option maxRecDepth 100000 in
set_option maxHeartbeats 4000000 in
theorem w_X11_led (g : zG)  {r : Int32 × zM} (E : zX g p m c cX11_led 6 s args (zWs yX11_led cX11_led 6 (some .int)) RX11) (hret : zRi g rE 15 p l e (zrm 4 0 0) s m args below meth c 0 0 Q cX11_led .int (fun v M1 => r = (v, M1))) (M : zM) (x1 : Int32) (x2 : Int32) (H : Heap) (locs : List Loc) (ls : Array Slot) (h : f_X11_led M x1 x2 = some r) (hZ : zS g rE 15 s H locs M) (hl : lv_has ls 6 [(0, .ref (g.2.2 0)), (1, .int x1), (2, .int x2)]) : W p l e (zrm 4 0 0) s m args below meth c H locs 0 0 Q (F0 m 0 ls []) := by
  have hx := E.1.1
  have hb := E.1.2.1
  unfold f_X11_led at h
  refine lv_aload_n hx hb dX11_led_0 rfl (lv_at hl 0 rfl) ?_
  refine lv_iconst (v := 0) hx hb dX11_led_1 (by decide) ?_
  refine zp h E hZ (by decide) (re_0 _) ((re_0 _).trans (congrArg (fun z => Sum.inr (10, z)) (fs_X11_0 g _ _ _))) kc_X11 (by decide) kw_1368 rfl rfl rfl (Nat.le_of_ble_eq_true rfl) dX11_led_2 (fun M_8 H locs eM_8 h hZ => ?_)
  refine lv_aload_n hx hb dX11_led_5 rfl (lv_at hl 0 rfl) ?_
  refine lv_iload_n hx hb dX11_led_6 rfl (lv_at hl 1 rfl) ?_
  obtain ⟨u_9, qu_9, h⟩ := zbn_some h
  refine zciR (zrunS E hZ v_X11_noPlace kw_1663 (c_X11_noPlace l g M_8  x1 qu_9 _) rfl hl.1 rfl (Nat.le_of_ble_eq_true rfl) ⟨by decide, by decide⟩ ⟨by decide, by decide⟩ dX11_led_7) hZ (fun H locs hZ => ?_)
  refine lv_iconst (v := 1) hx hb dX11_led_10 (by decide) ?_
  obtain ⟨u_10, qu_10, h⟩ := zbn_some h
  refine zciS (zrunV E hZ (by decide) (re_0 _) rfl rfl v_X11_throwsIf kw_1651 (c_X11_throwsIf l g M_8  u_9 1 qu_10 _) rfl hl.1 rfl (Nat.le_of_ble_eq_true rfl) ⟨by decide, by decide⟩ ⟨by decide, by decide⟩ dX11_led_11) hZ (fun H locs hZ => ?_)
  refine zif_eq (tgt := 19) h E dX11_led_14 (by decide) (fun c_12 h => ?_) (fun c_12 h => ?_)
  · refine lv_iconst (v := 0) hx hb dX11_led_19 (by decide) ?_
    refine lv_istore_n (lv' := [(3, .int 0), (0, .ref (g.2.2 0)), (1, .int x1), (2, .int x2)]) hx hb dX11_led_20 rfl hl (by decide) rfl (fun ls hl => ?_)
    refine lv_iconst (v := (-1)) hx hb dX11_led_21 (by decide) ?_
    refine lv_istore (lv' := [(4, .int ((-1))), (3, .int 0), (0, .ref (g.2.2 0)), (1, .int x1), (2, .int x2)]) hx hb dX11_led_22 hl (by decide) rfl (fun ls hl => ?_)
    refine lv_aload_n hx hb dX11_led_24 rfl (lv_at hl 2 rfl) ?_
    refine zg (v := .ref (g.2.2 1)) E hZ (by decide) (re_0 _) kc_X11 1 (by decide) kw_1369 rfl rfl dX11_led_25 ?_
    refine lv_bipush (v := 12) hx hb dX11_led_28 (by decide) ?_
    refine zia h E hZ (by decide) re_1 dX11_led_30 (fun h => ?_)
    refine lv_iconst (v := 1) hx hb dX11_led_31 (by decide) ?_
    refine lv_isub hx hb dX11_led_32 ?_
    refine zni h (fun x5_11 ex5_11 h => ?_)
    refine lv_istore (lv' := [(5, .int x5_11), (4, .int ((-1))), (3, .int 0), (0, .ref (g.2.2 0)), (1, .int x1), (2, .int x2)]) hx hb dX11_led_33 hl (by decide) rfl (fun ls hl => ?_)
    exact lb_X11_led_35 g  E hret u_10.2 x1 x2  6000 0 ((-1)) x5_11 H locs ls h hZ (lv_sub hl [3, 4, 5, 2, 1, 0] rfl)
  · refine lv_iconst (v := 0) hx hb dX11_led_17 (by decide) ?_
    exact hret _ _ _ _ _ _ (Option.some.inj h).symm rfl hZ dX11_led_18
theorem c_X11_led (l : Launch) (g : zG) (M : zM)  (x1 : Int32) (x2 : Int32) {r : Int32 × zM} (h : f_X11_led M x1 x2 = some r) : zMi l g rE 15 yX11_led (zWs yX11_led cX11_led 6 (some .int)) 4 [.ref (g.2.2 0), .int x1, .int x2] M (fun v M1 => r = (v, M1)) :=
  zMi_of (by decide +kernel) (Nat.le_of_ble_eq_true rfl) (fun p e s m args below meth c Q ls E hret hZ hl => w_X11_led g  E hret M x1 x2 _ _ ls h hZ hl)
theorem v_X11_led : zYV yX11_led cX11_led 6 (some .int) 2 := ⟨kw_2030, kw_15, kw_2028, kw_2029, by decide +kernel⟩

def b_X11_log_20  (M : zM) (x1 : Int32) (x2 : Int32) (t0 : Int32) : Option (Int32 × zM) :=
  zbn (f_X11_throwsIf M t0 1) (fun u_1 => if u_1.1 = 0 then (zck (zin 12 2030) (zbn (f_X11_in u_1.2 x1 0 ((u_1.2 1 (12 : Int32).toNatClampNeg) - 1)) (fun u_2 => if u_2 = 0 then (some ((-1), u_1.2)) else (zbn (f_X11_ofLog u_1.2 x1 x2) (fun u_3 => some (u_3, u_1.2)))))) else (some (0, u_1.2)))
set_option maxRecDepth 100000 in
set_option maxHeartbeats 4000000 in
theorem lb_X11_log_20 (g : zG)  {r : Int32 × zM} (E : zX g p m c cX11_log 3 s args (zWs yX11_log cX11_log 3 (some .int)) RX11) (hret : zRi g rE 15 p l e (zrm 3 0 0) s m args below meth c 0 0 Q cX11_log .int (fun v M1 => r = (v, M1))) (M : zM) (x1 : Int32) (x2 : Int32) (t0 : Int32)  (H : Heap) (locs : List Loc) (ls : Array Slot) (h : b_X11_log_20  M x1 x2 t0 = some r) (hZ : zS g rE 15 s H locs M) (hl : lv_has ls 3 [(0, .ref (g.2.2 0)), (1, .int x1), (2, .int x2)]) : W p l e (zrm 3 0 0) s m args below meth c H locs 0 0 Q (F0 m 20 ls [.int t0, .ref (g.2.2 0)]) := by
  have hx := E.1.1
  have hb := E.1.2.1
  unfold b_X11_log_20 at h
  refine lv_iconst (v := 1) hx hb dX11_log_20 (by decide) ?_
  obtain ⟨u_1, qu_1, h⟩ := zbn_some h
  refine zciS (zrunV E hZ (by decide) (re_0 _) rfl rfl v_X11_throwsIf kw_1651 (c_X11_throwsIf l g M  t0 1 qu_1 _) rfl hl.1 rfl (Nat.le_of_ble_eq_true rfl) ⟨by decide, by decide⟩ ⟨by decide, by decide⟩ dX11_log_21) hZ (fun H locs hZ => ?_)
  refine zif_eq (tgt := 29) h E dX11_log_24 (by decide) (fun c_5 h => ?_) (fun c_5 h => ?_)
  · refine lv_iload_n hx hb dX11_log_29 rfl (lv_at hl 1 rfl) ?_
    refine lv_iconst (v := 0) hx hb dX11_log_30 (by decide) ?_
    refine lv_aload_n hx hb dX11_log_31 rfl (lv_at hl 0 rfl) ?_
    refine zg (v := .ref (g.2.2 1)) E hZ (by decide) (re_0 _) kc_X11 1 (by decide) kw_1369 rfl rfl dX11_log_32 ?_
    refine lv_bipush (v := 12) hx hb dX11_log_35 (by decide) ?_
    refine zia h E hZ (by decide) re_1 dX11_log_37 (fun h => ?_)
    refine lv_iconst (v := 1) hx hb dX11_log_38 (by decide) ?_
    refine lv_isub hx hb dX11_log_39 ?_
    obtain ⟨u_2, qu_2, h⟩ := zbn_some h
    refine zciR (zrunS E hZ v_X11_in kw_1666 (c_X11_in l g u_1.2  x1 0 ((u_1.2 1 (12 : Int32).toNatClampNeg) - 1) qu_2 _) rfl hl.1 rfl (Nat.le_of_ble_eq_true rfl) ⟨by decide, by decide⟩ ⟨by decide, by decide⟩ dX11_log_40) hZ (fun H locs hZ => ?_)
    refine zif_eq (tgt := 55) h E dX11_log_43 (by decide) (fun c_4 h => ?_) (fun c_4 h => ?_)
    · refine lv_iconst (v := (-1)) hx hb dX11_log_55 (by decide) ?_
      exact hret _ _ _ _ _ _ (Option.some.inj h).symm rfl hZ dX11_log_56
    · refine lv_aload_n hx hb dX11_log_46 rfl (lv_at hl 0 rfl) ?_
      refine lv_iload_n hx hb dX11_log_47 rfl (lv_at hl 1 rfl) ?_
      refine lv_iload_n hx hb dX11_log_48 rfl (lv_at hl 2 rfl) ?_
      obtain ⟨u_3, qu_3, h⟩ := zbn_some h
      refine zciR (zrunV E hZ (by decide) (re_0 _) rfl rfl v_X11_ofLog kw_2031 (c_X11_ofLog l g u_1.2  x1 x2 qu_3 _) rfl hl.1 rfl (Nat.le_of_ble_eq_true rfl) ⟨by decide, by decide⟩ ⟨by decide, by decide⟩ dX11_log_49) hZ (fun H locs hZ => ?_)
      refine lv_goto (tgt := 56) hx hb dX11_log_52 (by decide) ?_
      exact hret _ _ _ _ _ _ (Option.some.inj h).symm rfl hZ dX11_log_56
  · refine lv_iconst (v := 0) hx hb dX11_log_27 (by decide) ?_
    exact hret _ _ _ _ _ _ (Option.some.inj h).symm rfl hZ dX11_log_28
def f_X11_log (M : zM) (x1 : Int32) (x2 : Int32) : Option (Int32 × zM) :=
  znm (zu M 0 0 0) (fun M_6 => zbn (f_X11_in M_6 x2 0 3) (fun u_7 => if u_7 = 0 then (b_X11_log_20  M_6 x1 x2 1) else (b_X11_log_20  M_6 x1 x2 0)))
set_option maxRecDepth 100000 in
set_option maxHeartbeats 4000000 in
theorem w_X11_log (g : zG)  {r : Int32 × zM} (E : zX g p m c cX11_log 3 s args (zWs yX11_log cX11_log 3 (some .int)) RX11) (hret : zRi g rE 15 p l e (zrm 3 0 0) s m args below meth c 0 0 Q cX11_log .int (fun v M1 => r = (v, M1))) (M : zM) (x1 : Int32) (x2 : Int32) (H : Heap) (locs : List Loc) (ls : Array Slot) (h : f_X11_log M x1 x2 = some r) (hZ : zS g rE 15 s H locs M) (hl : lv_has ls 3 [(0, .ref (g.2.2 0)), (1, .int x1), (2, .int x2)]) : W p l e (zrm 3 0 0) s m args below meth c H locs 0 0 Q (F0 m 0 ls []) := by
  have hx := E.1.1
  have hb := E.1.2.1
  unfold f_X11_log at h
  refine lv_aload_n hx hb dX11_log_0 rfl (lv_at hl 0 rfl) ?_
  refine lv_iconst (v := 0) hx hb dX11_log_1 (by decide) ?_
  refine zp h E hZ (by decide) (re_0 _) ((re_0 _).trans (congrArg (fun z => Sum.inr (10, z)) (fs_X11_0 g _ _ _))) kc_X11 (by decide) kw_1368 rfl rfl rfl (Nat.le_of_ble_eq_true rfl) dX11_log_2 (fun M_6 H locs eM_6 h hZ => ?_)
  refine lv_aload_n hx hb dX11_log_5 rfl (lv_at hl 0 rfl) ?_
  refine lv_iload_n hx hb dX11_log_6 rfl (lv_at hl 2 rfl) ?_
  refine lv_iconst (v := 0) hx hb dX11_log_7 (by decide) ?_
  refine lv_iconst (v := 3) hx hb dX11_log_8 (by decide) ?_
  obtain ⟨u_7, qu_7, h⟩ := zbn_some h
  refine zciR (zrunS E hZ v_X11_in kw_1666 (c_X11_in l g M_6  x2 0 3 qu_7 _) rfl hl.1 rfl (Nat.le_of_ble_eq_true rfl) ⟨by decide, by decide⟩ ⟨by decide, by decide⟩ dX11_log_9) hZ (fun H locs hZ => ?_)
  refine zif_ne (tgt := 19) h E dX11_log_12 (by decide) (fun c_8 h => ?_) (fun c_8 h => ?_)
  · refine lv_iconst (v := 0) hx hb dX11_log_19 (by decide) ?_
    exact lb_X11_log_20 g  E hret M_6 x1 x2 0  H locs ls h hZ (lv_sub hl [0, 1, 2] rfl)
  · refine lv_iconst (v := 1) hx hb dX11_log_15 (by decide) ?_
    refine lv_goto (tgt := 20) hx hb dX11_log_16 (by decide) ?_
    exact lb_X11_log_20 g  E hret M_6 x1 x2 1  H locs ls h hZ (lv_sub hl [0, 1, 2] rfl)
theorem c_X11_log (l : Launch) (g : zG) (M : zM)  (x1 : Int32) (x2 : Int32) {r : Int32 × zM} (h : f_X11_log M x1 x2 = some r) : zMi l g rE 15 yX11_log (zWs yX11_log cX11_log 3 (some .int)) 3 [.ref (g.2.2 0), .int x1, .int x2] M (fun v M1 => r = (v, M1)) :=
  zMi_of (by decide +kernel) (Nat.le_of_ble_eq_true rfl) (fun p e s m args below meth c Q ls E hret hZ hl => w_X11_log g  E hret M x1 x2 _ _ ls h hZ hl)
theorem v_X11_log : zYV yX11_log cX11_log 3 (some .int) 2 := ⟨kw_2038, kw_15, kw_2036, kw_2037, by decide +kernel⟩

def f_X11_seed (M : zM) (x1 : Int32) : Option (Int32 × zM) :=
  znm (zu M 0 0 0) (fun M_1 => zck (zin 13 2030) (znm (M_1 1 (13 : Int32).toNatClampNeg) (fun x2_2 => zck (zin 13 2030) (znm (zu M_1 1 (13 : Int32).toNatClampNeg x1) (fun M_3 => some (x2_2, M_3))))))
set_option maxRecDepth 100000 in
set_option maxHeartbeats 4000000 in
theorem w_X11_seed (g : zG)  {r : Int32 × zM} (E : zX g p m c cX11_seed 3 s args (zWs yX11_seed cX11_seed 3 (some .int)) RX11) (hret : zRi g rE 15 p l e (zrm 2 0 0) s m args below meth c 0 0 Q cX11_seed .int (fun v M1 => r = (v, M1))) (M : zM) (x1 : Int32) (H : Heap) (locs : List Loc) (ls : Array Slot) (h : f_X11_seed M x1 = some r) (hZ : zS g rE 15 s H locs M) (hl : lv_has ls 3 [(0, .ref (g.2.2 0)), (1, .int x1)]) : W p l e (zrm 2 0 0) s m args below meth c H locs 0 0 Q (F0 m 0 ls []) := by
  have hx := E.1.1
  have hb := E.1.2.1
  unfold f_X11_seed at h
  refine lv_aload_n hx hb dX11_seed_0 rfl (lv_at hl 0 rfl) ?_
  refine lv_iconst (v := 0) hx hb dX11_seed_1 (by decide) ?_
  refine zp h E hZ (by decide) (re_0 _) ((re_0 _).trans (congrArg (fun z => Sum.inr (10, z)) (fs_X11_0 g _ _ _))) kc_X11 (by decide) kw_1368 rfl rfl rfl (Nat.le_of_ble_eq_true rfl) dX11_seed_2 (fun M_1 H locs eM_1 h hZ => ?_)
  refine lv_aload_n hx hb dX11_seed_5 rfl (lv_at hl 0 rfl) ?_
  refine zg (v := .ref (g.2.2 1)) E hZ (by decide) (re_0 _) kc_X11 1 (by decide) kw_1369 rfl rfl dX11_seed_6 ?_
  refine lv_bipush (v := 13) hx hb dX11_seed_9 (by decide) ?_
  refine zia h E hZ (by decide) re_1 dX11_seed_11 (fun h => ?_)
  refine zni h (fun x2_2 ex2_2 h => ?_)
  refine lv_istore_n (lv' := [(2, .int x2_2), (0, .ref (g.2.2 0)), (1, .int x1)]) hx hb dX11_seed_12 rfl hl (by decide) rfl (fun ls hl => ?_)
  refine lv_aload_n hx hb dX11_seed_13 rfl (lv_at hl 1 rfl) ?_
  refine zg (v := .ref (g.2.2 1)) E hZ (by decide) (re_0 _) kc_X11 1 (by decide) kw_1369 rfl rfl dX11_seed_14 ?_
  refine lv_bipush (v := 13) hx hb dX11_seed_17 (by decide) ?_
  refine lv_iload_n hx hb dX11_seed_19 rfl (lv_at hl 2 rfl) ?_
  refine zis h E hZ (by decide) re_1 dX11_seed_20 (fun M_3 H locs eM_3 h hZ => ?_)
  refine lv_iload_n hx hb dX11_seed_21 rfl (lv_at hl 0 rfl) ?_
  exact hret _ _ _ _ _ _ (Option.some.inj h).symm rfl hZ dX11_seed_22
theorem c_X11_seed (l : Launch) (g : zG) (M : zM)  (x1 : Int32) {r : Int32 × zM} (h : f_X11_seed M x1 = some r) : zMi l g rE 15 yX11_seed (zWs yX11_seed cX11_seed 3 (some .int)) 2 [.ref (g.2.2 0), .int x1] M (fun v M1 => r = (v, M1)) :=
  zMi_of (by decide +kernel) (Nat.le_of_ble_eq_true rfl) (fun p e s m args below meth c Q ls E hret hZ hl => w_X11_seed g  E hret M x1 _ _ ls h hZ hl)
theorem v_X11_seed : zYV yX11_seed cX11_seed 3 (some .int) 1 := ⟨kw_2042, kw_15, kw_2040, kw_2041, by decide +kernel⟩

def b_X11_count_138  (M : zM) (x1 : Int32) : Option (Int32 × zM) :=
  zbn (f_X11_in M x1 0 11) (fun u_1 => if u_1 = 0 then (some ((-1), M)) else (zck (zin x1 2030) (some (M 1 (x1 : Int32).toNatClampNeg, M))))
set_option maxRecDepth 100000 in
set_option maxHeartbeats 4000000 in
theorem lb_X11_count_138 (g : zG)  {r : Int32 × zM} (E : zX g p m c cX11_count 2 s args (zWs yX11_count cX11_count 2 (some .int)) RX11) (hret : zRi g rE 15 p l e (zrm 6 0 0) s m args below meth c 0 0 Q cX11_count .int (fun v M1 => r = (v, M1))) (M : zM) (x1 : Int32)  (H : Heap) (locs : List Loc) (ls : Array Slot) (h : b_X11_count_138  M x1 = some r) (hZ : zS g rE 15 s H locs M) (hl : lv_has ls 2 [(0, .ref (g.2.2 0)), (1, .int x1)]) : W p l e (zrm 6 0 0) s m args below meth c H locs 0 0 Q (F0 m 138 ls []) := by
  have hx := E.1.1
  have hb := E.1.2.1
  unfold b_X11_count_138 at h
  refine lv_iload_n hx hb dX11_count_138 rfl (lv_at hl 1 rfl) ?_
  refine lv_iconst (v := 0) hx hb dX11_count_139 (by decide) ?_
  refine lv_bipush (v := 11) hx hb dX11_count_140 (by decide) ?_
  obtain ⟨u_1, qu_1, h⟩ := zbn_some h
  refine zciR (zrunS E hZ v_X11_in kw_1666 (c_X11_in l g M  x1 0 11 qu_1 _) rfl hl.1 rfl (Nat.le_of_ble_eq_true rfl) ⟨by decide, by decide⟩ ⟨by decide, by decide⟩ dX11_count_142) hZ (fun H locs hZ => ?_)
  refine zif_eq (tgt := 157) h E dX11_count_145 (by decide) (fun c_2 h => ?_) (fun c_2 h => ?_)
  · refine lv_iconst (v := (-1)) hx hb dX11_count_157 (by decide) ?_
    exact hret _ _ _ _ _ _ (Option.some.inj h).symm rfl hZ dX11_count_158
  · refine lv_aload_n hx hb dX11_count_148 rfl (lv_at hl 0 rfl) ?_
    refine zg (v := .ref (g.2.2 1)) E hZ (by decide) (re_0 _) kc_X11 1 (by decide) kw_1369 rfl rfl dX11_count_149 ?_
    refine lv_iload_n hx hb dX11_count_152 rfl (lv_at hl 1 rfl) ?_
    refine zia h E hZ (by decide) re_1 dX11_count_153 (fun h => ?_)
    refine lv_goto (tgt := 158) hx hb dX11_count_154 (by decide) ?_
    exact hret _ _ _ _ _ _ (Option.some.inj h).symm rfl hZ dX11_count_158
def f_X11_count (M : zM) (x1 : Int32) : Option (Int32 × zM) :=
  znm (zu M 0 0 0) (fun M_3 => if x1 = 3 then (zck (zin 3 2030) (if (M_3 1 (3 : Int32).toNatClampNeg) = 1 then (zck (zin 332 2030) (some (M_3 1 (332 : Int32).toNatClampNeg, M_3))) else (some ((-1), M_3)))) else if x1 = 9 then (zck (zin 9 2030) (some ((M_3 1 (9 : Int32).toNatClampNeg) + 5, M_3))) else if x1 = 10 then (zck (zin 10 2030) (some ((M_3 1 (10 : Int32).toNatClampNeg) + 3, M_3))) else if x1 = 12 then (zbn (f_X11_keptOnes M_3 ) (fun u_5 => some (u_5, M_3))) else if x1 = 13 then (zbn (f_X11_drownedOnes M_3 ) (fun u_6 => some (u_6, M_3))) else if x1 = 14 then (zck (zin 12 2030) (some (M_3 1 (12 : Int32).toNatClampNeg, M_3))) else if x1 = 15 then (some (M_3 0 7, M_3)) else (b_X11_count_138  M_3 x1))
set_option maxRecDepth 100000 in
set_option maxHeartbeats 4000000 in
theorem w_X11_count (g : zG)  {r : Int32 × zM} (E : zX g p m c cX11_count 2 s args (zWs yX11_count cX11_count 2 (some .int)) RX11) (hret : zRi g rE 15 p l e (zrm 6 0 0) s m args below meth c 0 0 Q cX11_count .int (fun v M1 => r = (v, M1))) (M : zM) (x1 : Int32) (H : Heap) (locs : List Loc) (ls : Array Slot) (h : f_X11_count M x1 = some r) (hZ : zS g rE 15 s H locs M) (hl : lv_has ls 2 [(0, .ref (g.2.2 0)), (1, .int x1)]) : W p l e (zrm 6 0 0) s m args below meth c H locs 0 0 Q (F0 m 0 ls []) := by
  have hx := E.1.1
  have hb := E.1.2.1
  unfold f_X11_count at h
  refine lv_aload_n hx hb dX11_count_0 rfl (lv_at hl 0 rfl) ?_
  refine lv_iconst (v := 0) hx hb dX11_count_1 (by decide) ?_
  refine zp h E hZ (by decide) (re_0 _) ((re_0 _).trans (congrArg (fun z => Sum.inr (10, z)) (fs_X11_0 g _ _ _))) kc_X11 (by decide) kw_1368 rfl rfl rfl (Nat.le_of_ble_eq_true rfl) dX11_count_2 (fun M_3 H locs eM_3 h hZ => ?_)
  refine lv_iload_n hx hb dX11_count_5 rfl (lv_at hl 1 rfl) ?_
  rcases zsp h with ⟨c_7, h⟩ | ⟨c_7, h⟩
  · refine lv_tableIn (tgt := 72) hx hb dX11_count_6 (by rw [c_7]; decide) (by rw [c_7]; decide) (by rw [c_7]; rfl) (by decide) ?_
    refine lv_aload_n hx hb dX11_count_72 rfl (lv_at hl 0 rfl) ?_
    refine zg (v := .ref (g.2.2 1)) E hZ (by decide) (re_0 _) kc_X11 1 (by decide) kw_1369 rfl rfl dX11_count_73 ?_
    refine lv_iconst (v := 3) hx hb dX11_count_76 (by decide) ?_
    refine zia h E hZ (by decide) re_1 dX11_count_77 (fun h => ?_)
    refine lv_iconst (v := 1) hx hb dX11_count_78 (by decide) ?_
    refine zic_ne (tgt := 93) h E dX11_count_79 (by decide) (fun c_4 h => ?_) (fun c_4 h => ?_)
    · refine lv_iconst (v := (-1)) hx hb dX11_count_93 (by decide) ?_
      exact hret _ _ _ _ _ _ (Option.some.inj h).symm rfl hZ dX11_count_94
    · refine lv_aload_n hx hb dX11_count_82 rfl (lv_at hl 0 rfl) ?_
      refine zg (v := .ref (g.2.2 1)) E hZ (by decide) (re_0 _) kc_X11 1 (by decide) kw_1369 rfl rfl dX11_count_83 ?_
      refine lv_sipush (v := 332) hx hb dX11_count_86 (by decide) ?_
      refine zia h E hZ (by decide) re_1 dX11_count_89 (fun h => ?_)
      refine lv_goto (tgt := 94) hx hb dX11_count_90 (by decide) ?_
      exact hret _ _ _ _ _ _ (Option.some.inj h).symm rfl hZ dX11_count_94
  rcases zsp h with ⟨c_8, h⟩ | ⟨c_8, h⟩
  · refine lv_tableIn (tgt := 95) hx hb dX11_count_6 (by rw [c_8]; decide) (by rw [c_8]; decide) (by rw [c_8]; rfl) (by decide) ?_
    refine lv_aload_n hx hb dX11_count_95 rfl (lv_at hl 0 rfl) ?_
    refine zg (v := .ref (g.2.2 1)) E hZ (by decide) (re_0 _) kc_X11 1 (by decide) kw_1369 rfl rfl dX11_count_96 ?_
    refine lv_bipush (v := 9) hx hb dX11_count_99 (by decide) ?_
    refine zia h E hZ (by decide) re_1 dX11_count_101 (fun h => ?_)
    refine lv_iconst (v := 5) hx hb dX11_count_102 (by decide) ?_
    refine lv_iadd hx hb dX11_count_103 ?_
    exact hret _ _ _ _ _ _ (Option.some.inj h).symm rfl hZ dX11_count_104
  rcases zsp h with ⟨c_9, h⟩ | ⟨c_9, h⟩
  · refine lv_tableIn (tgt := 105) hx hb dX11_count_6 (by rw [c_9]; decide) (by rw [c_9]; decide) (by rw [c_9]; rfl) (by decide) ?_
    refine lv_aload_n hx hb dX11_count_105 rfl (lv_at hl 0 rfl) ?_
    refine zg (v := .ref (g.2.2 1)) E hZ (by decide) (re_0 _) kc_X11 1 (by decide) kw_1369 rfl rfl dX11_count_106 ?_
    refine lv_bipush (v := 10) hx hb dX11_count_109 (by decide) ?_
    refine zia h E hZ (by decide) re_1 dX11_count_111 (fun h => ?_)
    refine lv_iconst (v := 3) hx hb dX11_count_112 (by decide) ?_
    refine lv_iadd hx hb dX11_count_113 ?_
    exact hret _ _ _ _ _ _ (Option.some.inj h).symm rfl hZ dX11_count_114
  rcases zsp h with ⟨c_10, h⟩ | ⟨c_10, h⟩
  · refine lv_tableIn (tgt := 115) hx hb dX11_count_6 (by rw [c_10]; decide) (by rw [c_10]; decide) (by rw [c_10]; rfl) (by decide) ?_
    refine lv_aload_n hx hb dX11_count_115 rfl (lv_at hl 0 rfl) ?_
    obtain ⟨u_5, qu_5, h⟩ := zbn_some h
    refine zciR (zrunV E hZ (by decide) (re_0 _) rfl rfl v_X11_keptOnes kw_1840 (c_X11_keptOnes l g M_3   qu_5 _) rfl hl.1 rfl (Nat.le_of_ble_eq_true rfl) ⟨by decide, by decide⟩ ⟨by decide, by decide⟩ dX11_count_116) hZ (fun H locs hZ => ?_)
    exact hret _ _ _ _ _ _ (Option.some.inj h).symm rfl hZ dX11_count_119
  rcases zsp h with ⟨c_11, h⟩ | ⟨c_11, h⟩
  · refine lv_tableIn (tgt := 120) hx hb dX11_count_6 (by rw [c_11]; decide) (by rw [c_11]; decide) (by rw [c_11]; rfl) (by decide) ?_
    refine lv_aload_n hx hb dX11_count_120 rfl (lv_at hl 0 rfl) ?_
    obtain ⟨u_6, qu_6, h⟩ := zbn_some h
    refine zciR (zrunV E hZ (by decide) (re_0 _) rfl rfl v_X11_drownedOnes kw_1891 (c_X11_drownedOnes l g M_3   qu_6 _) rfl hl.1 rfl (Nat.le_of_ble_eq_true rfl) ⟨by decide, by decide⟩ ⟨by decide, by decide⟩ dX11_count_121) hZ (fun H locs hZ => ?_)
    exact hret _ _ _ _ _ _ (Option.some.inj h).symm rfl hZ dX11_count_124
  rcases zsp h with ⟨c_12, h⟩ | ⟨c_12, h⟩
  · refine lv_tableIn (tgt := 125) hx hb dX11_count_6 (by rw [c_12]; decide) (by rw [c_12]; decide) (by rw [c_12]; rfl) (by decide) ?_
    refine lv_aload_n hx hb dX11_count_125 rfl (lv_at hl 0 rfl) ?_
    refine zg (v := .ref (g.2.2 1)) E hZ (by decide) (re_0 _) kc_X11 1 (by decide) kw_1369 rfl rfl dX11_count_126 ?_
    refine lv_bipush (v := 12) hx hb dX11_count_129 (by decide) ?_
    refine zia h E hZ (by decide) re_1 dX11_count_131 (fun h => ?_)
    exact hret _ _ _ _ _ _ (Option.some.inj h).symm rfl hZ dX11_count_132
  rcases zsp h with ⟨c_13, h⟩ | ⟨c_13, h⟩
  · refine lv_tableIn (tgt := 133) hx hb dX11_count_6 (by rw [c_13]; decide) (by rw [c_13]; decide) (by rw [c_13]; rfl) (by decide) ?_
    refine lv_aload_n hx hb dX11_count_133 rfl (lv_at hl 0 rfl) ?_
    refine zg (v := .int (M_3 0 7)) E hZ (by decide) (re_0 _) kc_X11 7 (by decide) kw_1375 rfl rfl dX11_count_134 ?_
    exact hret _ _ _ _ _ _ (Option.some.inj h).symm rfl hZ dX11_count_137
  have hdf : W p l e (zrm 6 0 0) s m args below meth c H locs 0 0 Q (F0 m 138 ls []) := by
    exact lb_X11_count_138 g  E hret M_3 x1  H locs ls h hZ (lv_sub hl [0, 1] rfl)
  rcases zsw_in (x := x1) (lo := 3) (hi := 15) [3, 4, 5, 6, 7, 8, 9, 10, 11, 12, 13, 14, 15] (by decide) with hsw | hsw
  · exact lv_tableOut (tgt := 138) hx hb dX11_count_6 hsw (by decide) hdf
  · simp only [List.mem_cons, List.not_mem_nil, or_false, c_7, c_8, c_9, c_10, c_11, c_12, c_13, false_or] at hsw
    rcases hsw with hsw | hsw | hsw | hsw | hsw | hsw
    · exact lv_tableIn (tgt := 138) hx hb dX11_count_6 (by rw [hsw]; decide) (by rw [hsw]; decide) (by rw [hsw]; rfl) (by decide) hdf
    · exact lv_tableIn (tgt := 138) hx hb dX11_count_6 (by rw [hsw]; decide) (by rw [hsw]; decide) (by rw [hsw]; rfl) (by decide) hdf
    · exact lv_tableIn (tgt := 138) hx hb dX11_count_6 (by rw [hsw]; decide) (by rw [hsw]; decide) (by rw [hsw]; rfl) (by decide) hdf
    · exact lv_tableIn (tgt := 138) hx hb dX11_count_6 (by rw [hsw]; decide) (by rw [hsw]; decide) (by rw [hsw]; rfl) (by decide) hdf
    · exact lv_tableIn (tgt := 138) hx hb dX11_count_6 (by rw [hsw]; decide) (by rw [hsw]; decide) (by rw [hsw]; rfl) (by decide) hdf
    · exact lv_tableIn (tgt := 138) hx hb dX11_count_6 (by rw [hsw]; decide) (by rw [hsw]; decide) (by rw [hsw]; rfl) (by decide) hdf
theorem c_X11_count (l : Launch) (g : zG) (M : zM)  (x1 : Int32) {r : Int32 × zM} (h : f_X11_count M x1 = some r) : zMi l g rE 15 yX11_count (zWs yX11_count cX11_count 2 (some .int)) 6 [.ref (g.2.2 0), .int x1] M (fun v M1 => r = (v, M1)) :=
  zMi_of (by decide +kernel) (Nat.le_of_ble_eq_true rfl) (fun p e s m args below meth c Q ls E hret hZ hl => w_X11_count g  E hret M x1 _ _ ls h hZ hl)
theorem v_X11_count : zYV yX11_count cX11_count 2 (some .int) 1 := ⟨kw_2046, kw_15, kw_2044, kw_2045, by decide +kernel⟩

end
