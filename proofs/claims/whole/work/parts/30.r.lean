section
variable {p : Program} {l : Launch} {e : Env} {s : State} {m : MethodId} {args : Array Value} {below : List Frame} {meth : Method} {c : Code} {Q : State → Prop}
def f_X11_thrown (M : zM)  : Option (Int32) :=
  some (M 0 0)
set_option maxRecDepth 100000 in
set_option maxHeartbeats 4000000 in
theorem w_X11_thrown (g : zG)  {r : Int32} {M0 : zM} (E : zX g p m c cX11_thrown 1 s args (zWs yX11_thrown cX11_thrown 1 (some .int)) RX11) (hret : zRi g rE 15 p l e (zrm 2 0 0) s m args below meth c 0 0 Q cX11_thrown .int (fun v M1 => v = r ∧ M1 = M0)) (M : zM) (hM : M = M0)  (H : Heap) (locs : List Loc) (ls : Array Slot) (h : f_X11_thrown M  = some r) (hZ : zS g rE 15 s H locs M) (hl : lv_has ls 1 [(0, .ref (g.2.2 0))]) : W p l e (zrm 2 0 0) s m args below meth c H locs 0 0 Q (F0 m 0 ls []) := by
  have hx := E.1.1
  have hb := E.1.2.1
  unfold f_X11_thrown at h
  refine lv_aload_n hx hb dX11_thrown_0 rfl (lv_at hl 0 rfl) ?_
  refine zg (v := .int (M 0 0)) E hZ (by decide) (re_0 _) kc_X11 0 (by decide) kw_1368 rfl rfl dX11_thrown_1 ?_
  exact hret _ _ _ _ _ _ ⟨Option.some.inj h, hM⟩ rfl hZ dX11_thrown_4
theorem c_X11_thrown (l : Launch) (g : zG) (M : zM)   {r : Int32} (h : f_X11_thrown M  = some r) : zMi l g rE 15 yX11_thrown (zWs yX11_thrown cX11_thrown 1 (some .int)) 2 [.ref (g.2.2 0)] M (fun v M1 => v = r ∧ M1 = M) :=
  zMi_of (by decide +kernel) (Nat.le_of_ble_eq_true rfl) (fun p e s m args below meth c Q ls E hret hZ hl => w_X11_thrown g  E hret M rfl  _ _ ls h hZ hl)
theorem v_X11_thrown : zYV yX11_thrown cX11_thrown 1 (some .int) 0 := ⟨kw_1361, kw_15, kw_1359, kw_1360, by decide +kernel⟩

def f_X11_throwsIf (M : zM) (x1 : Int32) (x2 : Int32) : Option (Int32 × zM) :=
  if x1 = 0 then (zck (zbl x1) (some (x1, M))) else (znm (zu M 0 0 x2) (fun M_1 => zck (zbl x1) (some (x1, M_1))))
set_option maxRecDepth 100000 in
set_option maxHeartbeats 4000000 in
theorem w_X11_throwsIf (g : zG)  {r : Int32 × zM} (E : zX g p m c cX11_throwsIf 3 s args (zWs yX11_throwsIf cX11_throwsIf 3 (some .boolean)) RX11) (hret : zRi g rE 15 p l e (zrm 2 0 0) s m args below meth c 0 0 Q cX11_throwsIf .boolean (fun v M1 => r = (v, M1))) (M : zM) (x1 : Int32) (x2 : Int32) (H : Heap) (locs : List Loc) (ls : Array Slot) (h : f_X11_throwsIf M x1 x2 = some r) (hZ : zS g rE 15 s H locs M) (hl : lv_has ls 3 [(0, .ref (g.2.2 0)), (1, .int x1), (2, .int x2)]) : W p l e (zrm 2 0 0) s m args below meth c H locs 0 0 Q (F0 m 0 ls []) := by
  have hx := E.1.1
  have hb := E.1.2.1
  unfold f_X11_throwsIf at h
  refine lv_iload_n hx hb dX11_throwsIf_0 rfl (lv_at hl 1 rfl) ?_
  refine zif_eq (tgt := 9) h E dX11_throwsIf_1 (by decide) (fun c_2 h => ?_) (fun c_2 h => ?_)
  · refine lv_iload_n hx hb dX11_throwsIf_9 rfl (lv_at hl 1 rfl) ?_
    obtain ⟨hbl, h⟩ := zck_some h
    exact hret _ _ _ _ _ _ (Option.some.inj h).symm (zbl_n hbl) hZ dX11_throwsIf_10
  · refine lv_aload_n hx hb dX11_throwsIf_4 rfl (lv_at hl 0 rfl) ?_
    refine lv_iload_n hx hb dX11_throwsIf_5 rfl (lv_at hl 2 rfl) ?_
    refine zp h E hZ (by decide) (re_0 _) ((re_0 _).trans (congrArg (fun z => Sum.inr (10, z)) (fs_X11_0 g _ _ _))) kc_X11 (by decide) kw_1368 rfl rfl rfl (Nat.le_of_ble_eq_true rfl) dX11_throwsIf_6 (fun M_1 H locs eM_1 h hZ => ?_)
    refine lv_iload_n hx hb dX11_throwsIf_9 rfl (lv_at hl 1 rfl) ?_
    obtain ⟨hbl, h⟩ := zck_some h
    exact hret _ _ _ _ _ _ (Option.some.inj h).symm (zbl_n hbl) hZ dX11_throwsIf_10
theorem c_X11_throwsIf (l : Launch) (g : zG) (M : zM)  (x1 : Int32) (x2 : Int32) {r : Int32 × zM} (h : f_X11_throwsIf M x1 x2 = some r) : zMi l g rE 15 yX11_throwsIf (zWs yX11_throwsIf cX11_throwsIf 3 (some .boolean)) 2 [.ref (g.2.2 0), .int x1, .int x2] M (fun v M1 => r = (v, M1)) :=
  zMi_of (by decide +kernel) (Nat.le_of_ble_eq_true rfl) (fun p e s m args below meth c Q ls E hret hZ hl => w_X11_throwsIf g  E hret M x1 x2 _ _ ls h hZ hl)
theorem v_X11_throwsIf : zYV yX11_throwsIf cX11_throwsIf 3 (some .boolean) 2 := ⟨kw_1654, kw_15, kw_1653, kp_69, by decide +kernel⟩

def f_X11_in (M : zM) (x0 : Int32) (x1 : Int32) (x2 : Int32) : Option (Int32) :=
  if x0 < x1 then (some 0) else (if x2 < x0 then (some 0) else (some 1))
set_option maxRecDepth 100000 in
set_option maxHeartbeats 4000000 in
theorem w_X11_in (g : zG)  {r : Int32} {M0 : zM} (E : zX g p m c cX11_in 3 s args (zWs yX11_in cX11_in 3 (some .boolean)) RX11) (hret : zRi g rE 15 p l e (zrm 2 0 0) s m args below meth c 0 0 Q cX11_in .boolean (fun v M1 => v = r ∧ M1 = M0)) (M : zM) (hM : M = M0) (x0 : Int32) (x1 : Int32) (x2 : Int32) (H : Heap) (locs : List Loc) (ls : Array Slot) (h : f_X11_in M x0 x1 x2 = some r) (hZ : zS g rE 15 s H locs M) (hl : lv_has ls 3 [(0, .int x0), (1, .int x1), (2, .int x2)]) : W p l e (zrm 2 0 0) s m args below meth c H locs 0 0 Q (F0 m 0 ls []) := by
  have hx := E.1.1
  have hb := E.1.2.1
  unfold f_X11_in at h
  refine lv_iload_n hx hb dX11_in_0 rfl (lv_at hl 0 rfl) ?_
  refine lv_iload_n hx hb dX11_in_1 rfl (lv_at hl 1 rfl) ?_
  refine zic_lt (tgt := 14) h E dX11_in_2 (by decide) (fun c_2 h => ?_) (fun c_2 h => ?_)
  · refine lv_iconst (v := 0) hx hb dX11_in_14 (by decide) ?_
    exact hret _ _ _ _ _ _ ⟨Option.some.inj h, hM⟩ rfl hZ dX11_in_15
  · refine lv_iload_n hx hb dX11_in_5 rfl (lv_at hl 0 rfl) ?_
    refine lv_iload_n hx hb dX11_in_6 rfl (lv_at hl 2 rfl) ?_
    refine zic_gt (tgt := 14) h E dX11_in_7 (by decide) (fun c_1 h => ?_) (fun c_1 h => ?_)
    · refine lv_iconst (v := 0) hx hb dX11_in_14 (by decide) ?_
      exact hret _ _ _ _ _ _ ⟨Option.some.inj h, hM⟩ rfl hZ dX11_in_15
    · refine lv_iconst (v := 1) hx hb dX11_in_10 (by decide) ?_
      refine lv_goto (tgt := 15) hx hb dX11_in_11 (by decide) ?_
      exact hret _ _ _ _ _ _ ⟨Option.some.inj h, hM⟩ rfl hZ dX11_in_15
theorem c_X11_in (l : Launch) (g : zG) (M : zM)  (x0 : Int32) (x1 : Int32) (x2 : Int32) {r : Int32} (h : f_X11_in M x0 x1 x2 = some r) : zMi l g rE 15 yX11_in (zWs yX11_in cX11_in 3 (some .boolean)) 2 [.int x0, .int x1, .int x2] M (fun v M1 => v = r ∧ M1 = M) :=
  zMi_of (by decide +kernel) (Nat.le_of_ble_eq_true rfl) (fun p e s m args below meth c Q ls E hret hZ hl => w_X11_in g  E hret M rfl x0 x1 x2 _ _ ls h hZ hl)
theorem v_X11_in : zYS yX11_in cX11_in 3 (some .boolean) 3 := ⟨kw_1668, kw_15, kw_1667, by decide +kernel⟩

def f_X11_has (M : zM) (x0 : Int32) (x1 : Int32) : Option (Int32) :=
  if ((x0 >>> (x1 &&& 31)) &&& 1) = 1 then (some 1) else (some 0)
set_option maxRecDepth 100000 in
set_option maxHeartbeats 4000000 in
theorem w_X11_has (g : zG)  {r : Int32} {M0 : zM} (E : zX g p m c cX11_has 2 s args (zWs yX11_has cX11_has 2 (some .boolean)) RX11) (hret : zRi g rE 15 p l e (zrm 2 0 0) s m args below meth c 0 0 Q cX11_has .boolean (fun v M1 => v = r ∧ M1 = M0)) (M : zM) (hM : M = M0) (x0 : Int32) (x1 : Int32) (H : Heap) (locs : List Loc) (ls : Array Slot) (h : f_X11_has M x0 x1 = some r) (hZ : zS g rE 15 s H locs M) (hl : lv_has ls 2 [(0, .int x0), (1, .int x1)]) : W p l e (zrm 2 0 0) s m args below meth c H locs 0 0 Q (F0 m 0 ls []) := by
  have hx := E.1.1
  have hb := E.1.2.1
  unfold f_X11_has at h
  refine lv_iload_n hx hb dX11_has_0 rfl (lv_at hl 0 rfl) ?_
  refine lv_iload_n hx hb dX11_has_1 rfl (lv_at hl 1 rfl) ?_
  refine lv_ishr hx hb dX11_has_2 ?_
  refine lv_iconst (v := 1) hx hb dX11_has_3 (by decide) ?_
  refine lv_iand hx hb dX11_has_4 ?_
  refine lv_iconst (v := 1) hx hb dX11_has_5 (by decide) ?_
  refine zic_ne (tgt := 13) h E dX11_has_6 (by decide) (fun c_1 h => ?_) (fun c_1 h => ?_)
  · refine lv_iconst (v := 0) hx hb dX11_has_13 (by decide) ?_
    exact hret _ _ _ _ _ _ ⟨Option.some.inj h, hM⟩ rfl hZ dX11_has_14
  · refine lv_iconst (v := 1) hx hb dX11_has_9 (by decide) ?_
    refine lv_goto (tgt := 14) hx hb dX11_has_10 (by decide) ?_
    exact hret _ _ _ _ _ _ ⟨Option.some.inj h, hM⟩ rfl hZ dX11_has_14
theorem c_X11_has (l : Launch) (g : zG) (M : zM)  (x0 : Int32) (x1 : Int32) {r : Int32} (h : f_X11_has M x0 x1 = some r) : zMi l g rE 15 yX11_has (zWs yX11_has cX11_has 2 (some .boolean)) 2 [.int x0, .int x1] M (fun v M1 => v = r ∧ M1 = M) :=
  zMi_of (by decide +kernel) (Nat.le_of_ble_eq_true rfl) (fun p e s m args below meth c Q ls E hret hZ hl => w_X11_has g  E hret M rfl x0 x1 _ _ ls h hZ hl)
theorem v_X11_has : zYS yX11_has cX11_has 2 (some .boolean) 2 := ⟨kw_1924, kw_15, kw_1923, by decide +kernel⟩

def b_X11_image_32  (M : zM) : Option (zM) :=
  znm (zu M 0 6 1) (fun M_1 => some M_1)
set_option maxRecDepth 100000 in
set_option maxHeartbeats 4000000 in
theorem lb_X11_image_32 (g : zG)  {r : zM} (E : zX g p m c cX11_image 2 s args (zWs yX11_image cX11_image 2 none) RX11) (hret : zRv g rE 15 p l e (zrm 2 0 0) s m args below meth c 0 0 Q cX11_image (fun M1 => M1 = r)) (M : zM)  (H : Heap) (locs : List Loc) (ls : Array Slot) (h : b_X11_image_32  M = some r) (hZ : zS g rE 15 s H locs M) (hl : lv_has ls 2 [(0, .ref (g.2.2 0))]) : W p l e (zrm 2 0 0) s m args below meth c H locs 0 0 Q (F0 m 32 ls []) := by
  have hx := E.1.1
  have hb := E.1.2.1
  unfold b_X11_image_32 at h
  refine lv_aload_n hx hb dX11_image_32 rfl (lv_at hl 0 rfl) ?_
  refine lv_iconst (v := 1) hx hb dX11_image_33 (by decide) ?_
  refine zp h E hZ (by decide) (re_0 _) ((re_0 _).trans (congrArg (fun z => Sum.inr (10, z)) (fs_X11_6 g _ _ _))) kc_X11 (by decide) kw_1374 rfl rfl rfl (Nat.le_of_ble_eq_true rfl) dX11_image_34 (fun M_1 H locs eM_1 h hZ => ?_)
  exact hret _ _ _ _ _ (Option.some.inj h) hZ dX11_image_37
def b_X11_image_7   : Nat → zM → Int32 → Option (zM)
  | 0, _, _ => none
  | n + 1, M, x1 =>
    if 1181 ≤ x1 then (b_X11_image_32  M) else (zck (zin x1 2030) (zck (zin x1 1181) (znm (zu M 2 (x1 : Int32).toNatClampNeg (M 1 (x1 : Int32).toNatClampNeg)) (fun M_2 => znm (x1 + 1) (fun x1_3 => b_X11_image_7   n M_2 x1_3)))))
set_option maxRecDepth 100000 in
set_option maxHeartbeats 4000000 in
theorem lb_X11_image_7 (g : zG)  {r : zM} (E : zX g p m c cX11_image 2 s args (zWs yX11_image cX11_image 2 none) RX11) (hret : zRv g rE 15 p l e (zrm 2 0 0) s m args below meth c 0 0 Q cX11_image (fun M1 => M1 = r))   : ∀ (n : Nat) (M : zM) (x1 : Int32) (H : Heap) (locs : List Loc) (ls : Array Slot), b_X11_image_7   n M x1 = some r → zS g rE 15 s H locs M → lv_has ls 2 [(0, .ref (g.2.2 0)), (1, .int x1)] → W p l e (zrm 2 0 0) s m args below meth c H locs 0 0 Q (F0 m 7 ls []) := by
  have hx := E.1.1
  have hb := E.1.2.1
  intro n
  induction n with
  | zero => intro M x1 H locs ls h hZ hl; cases h
  | succ n ih =>
    intro M x1 H locs ls h hZ hl
    rw [b_X11_image_7] at h
    refine lv_iload_n hx hb dX11_image_7 rfl (lv_at hl 1 rfl) ?_
    refine lv_sipush (v := 1181) hx hb dX11_image_8 (by decide) ?_
    refine zic_ge (tgt := 32) h E dX11_image_11 (by decide) (fun c_4 h => ?_) (fun c_4 h => ?_)
    · exact lb_X11_image_32 g  E hret M  H locs ls h hZ (lv_sub hl [0] rfl)
    · refine lv_aload_n hx hb dX11_image_14 rfl (lv_at hl 0 rfl) ?_
      refine zg (v := .ref (g.2.2 2)) E hZ (by decide) (re_0 _) kc_X11 2 (by decide) kw_1370 rfl rfl dX11_image_15 ?_
      refine lv_iload_n hx hb dX11_image_18 rfl (lv_at hl 1 rfl) ?_
      refine lv_aload_n hx hb dX11_image_19 rfl (lv_at hl 0 rfl) ?_
      refine zg (v := .ref (g.2.2 1)) E hZ (by decide) (re_0 _) kc_X11 1 (by decide) kw_1369 rfl rfl dX11_image_20 ?_
      refine lv_iload_n hx hb dX11_image_23 rfl (lv_at hl 1 rfl) ?_
      refine zia h E hZ (by decide) re_1 dX11_image_24 (fun h => ?_)
      refine zis h E hZ (by decide) re_2 dX11_image_25 (fun M_2 H locs eM_2 h hZ => ?_)
      obtain ⟨x1_3, ex1_3, h⟩ := znm_ex h
      refine lv_iinc (v := x1_3) (lv' := [(1, .int x1_3), (0, .ref (g.2.2 0))]) hx hb dX11_image_26 hl (k := 1) rfl (by rw [ex1_3]; rfl) (by decide) rfl (fun ls hl => ?_)
      refine lv_goto (tgt := 7) hx hb dX11_image_29 (by decide) ?_
      exact ih M_2 x1_3 H locs ls h hZ (lv_sub hl [1, 0] rfl)
def f_X11_image (M : zM)  : Option (zM) :=
  znm (zu M 0 0 0) (fun M_5 => b_X11_image_7   6000 M_5 0)
set_option maxRecDepth 100000 in
set_option maxHeartbeats 4000000 in
theorem w_X11_image (g : zG)  {r : zM} (E : zX g p m c cX11_image 2 s args (zWs yX11_image cX11_image 2 none) RX11) (hret : zRv g rE 15 p l e (zrm 2 0 0) s m args below meth c 0 0 Q cX11_image (fun M1 => M1 = r)) (M : zM)  (H : Heap) (locs : List Loc) (ls : Array Slot) (h : f_X11_image M  = some r) (hZ : zS g rE 15 s H locs M) (hl : lv_has ls 2 [(0, .ref (g.2.2 0))]) : W p l e (zrm 2 0 0) s m args below meth c H locs 0 0 Q (F0 m 0 ls []) := by
  have hx := E.1.1
  have hb := E.1.2.1
  unfold f_X11_image at h
  refine lv_aload_n hx hb dX11_image_0 rfl (lv_at hl 0 rfl) ?_
  refine lv_iconst (v := 0) hx hb dX11_image_1 (by decide) ?_
  refine zp h E hZ (by decide) (re_0 _) ((re_0 _).trans (congrArg (fun z => Sum.inr (10, z)) (fs_X11_0 g _ _ _))) kc_X11 (by decide) kw_1368 rfl rfl rfl (Nat.le_of_ble_eq_true rfl) dX11_image_2 (fun M_5 H locs eM_5 h hZ => ?_)
  refine lv_iconst (v := 0) hx hb dX11_image_5 (by decide) ?_
  refine lv_istore_n (lv' := [(1, .int 0), (0, .ref (g.2.2 0))]) hx hb dX11_image_6 rfl hl (by decide) rfl (fun ls hl => ?_)
  exact lb_X11_image_7 g  E hret   6000 M_5 0 H locs ls h hZ (lv_sub hl [1, 0] rfl)
theorem c_X11_image (l : Launch) (g : zG) (M : zM)   {r : zM} (h : f_X11_image M  = some r) : zMv l g rE 15 yX11_image (zWs yX11_image cX11_image 2 none) 2 [.ref (g.2.2 0)] M (fun M1 => M1 = r) :=
  zMv_of (by decide +kernel) (Nat.le_of_ble_eq_true rfl) (fun p e s m args below meth c Q ls E hret hZ hl => w_X11_image g  E hret M  _ _ ls h hZ hl)
theorem v_X11_image : zYV yX11_image cX11_image 2 none 0 := ⟨kw_1447, kw_15, kw_1445, kw_1446, by decide +kernel⟩

def b_X11_back_41  (M : zM) : Option (Int32 × zM) :=
  znm (zu M 0 7 0) (fun M_1 => some (1, M_1))
set_option maxRecDepth 100000 in
set_option maxHeartbeats 4000000 in
theorem lb_X11_back_41 (g : zG)  {r : Int32 × zM} (E : zX g p m c cX11_back 2 s args (zWs yX11_back cX11_back 2 (some .boolean)) RX11) (hret : zRi g rE 15 p l e (zrm 2 0 0) s m args below meth c 0 0 Q cX11_back .boolean (fun v M1 => r = (v, M1))) (M : zM)  (H : Heap) (locs : List Loc) (ls : Array Slot) (h : b_X11_back_41  M = some r) (hZ : zS g rE 15 s H locs M) (hl : lv_has ls 2 [(0, .ref (g.2.2 0))]) : W p l e (zrm 2 0 0) s m args below meth c H locs 0 0 Q (F0 m 41 ls []) := by
  have hx := E.1.1
  have hb := E.1.2.1
  unfold b_X11_back_41 at h
  refine lv_aload_n hx hb dX11_back_41 rfl (lv_at hl 0 rfl) ?_
  refine lv_iconst (v := 0) hx hb dX11_back_42 (by decide) ?_
  refine zp h E hZ (by decide) (re_0 _) ((re_0 _).trans (congrArg (fun z => Sum.inr (10, z)) (fs_X11_7 g _ _ _))) kc_X11 (by decide) kw_1375 rfl rfl rfl (Nat.le_of_ble_eq_true rfl) dX11_back_43 (fun M_1 H locs eM_1 h hZ => ?_)
  refine lv_iconst (v := 1) hx hb dX11_back_46 (by decide) ?_
  exact hret _ _ _ _ _ _ (Option.some.inj h).symm rfl hZ dX11_back_47
def b_X11_back_16   : Nat → zM → Int32 → Option (Int32 × zM)
  | 0, _, _ => none
  | n + 1, M, x1 =>
    if 1181 ≤ x1 then (b_X11_back_41  M) else (zck (zin x1 1181) (zck (zin x1 2030) (znm (zu M 1 (x1 : Int32).toNatClampNeg (M 2 (x1 : Int32).toNatClampNeg)) (fun M_2 => znm (x1 + 1) (fun x1_3 => b_X11_back_16   n M_2 x1_3)))))
set_option maxRecDepth 100000 in
set_option maxHeartbeats 4000000 in
theorem lb_X11_back_16 (g : zG)  {r : Int32 × zM} (E : zX g p m c cX11_back 2 s args (zWs yX11_back cX11_back 2 (some .boolean)) RX11) (hret : zRi g rE 15 p l e (zrm 2 0 0) s m args below meth c 0 0 Q cX11_back .boolean (fun v M1 => r = (v, M1)))   : ∀ (n : Nat) (M : zM) (x1 : Int32) (H : Heap) (locs : List Loc) (ls : Array Slot), b_X11_back_16   n M x1 = some r → zS g rE 15 s H locs M → lv_has ls 2 [(0, .ref (g.2.2 0)), (1, .int x1)] → W p l e (zrm 2 0 0) s m args below meth c H locs 0 0 Q (F0 m 16 ls []) := by
  have hx := E.1.1
  have hb := E.1.2.1
  intro n
  induction n with
  | zero => intro M x1 H locs ls h hZ hl; cases h
  | succ n ih =>
    intro M x1 H locs ls h hZ hl
    rw [b_X11_back_16] at h
    refine lv_iload_n hx hb dX11_back_16 rfl (lv_at hl 1 rfl) ?_
    refine lv_sipush (v := 1181) hx hb dX11_back_17 (by decide) ?_
    refine zic_ge (tgt := 41) h E dX11_back_20 (by decide) (fun c_4 h => ?_) (fun c_4 h => ?_)
    · exact lb_X11_back_41 g  E hret M  H locs ls h hZ (lv_sub hl [0] rfl)
    · refine lv_aload_n hx hb dX11_back_23 rfl (lv_at hl 0 rfl) ?_
      refine zg (v := .ref (g.2.2 1)) E hZ (by decide) (re_0 _) kc_X11 1 (by decide) kw_1369 rfl rfl dX11_back_24 ?_
      refine lv_iload_n hx hb dX11_back_27 rfl (lv_at hl 1 rfl) ?_
      refine lv_aload_n hx hb dX11_back_28 rfl (lv_at hl 0 rfl) ?_
      refine zg (v := .ref (g.2.2 2)) E hZ (by decide) (re_0 _) kc_X11 2 (by decide) kw_1370 rfl rfl dX11_back_29 ?_
      refine lv_iload_n hx hb dX11_back_32 rfl (lv_at hl 1 rfl) ?_
      refine zia h E hZ (by decide) re_2 dX11_back_33 (fun h => ?_)
      refine zis h E hZ (by decide) re_1 dX11_back_34 (fun M_2 H locs eM_2 h hZ => ?_)
      obtain ⟨x1_3, ex1_3, h⟩ := znm_ex h
      refine lv_iinc (v := x1_3) (lv' := [(1, .int x1_3), (0, .ref (g.2.2 0))]) hx hb dX11_back_35 hl (k := 1) rfl (by rw [ex1_3]; rfl) (by decide) rfl (fun ls hl => ?_)
      refine lv_goto (tgt := 16) hx hb dX11_back_38 (by decide) ?_
      exact ih M_2 x1_3 H locs ls h hZ (lv_sub hl [1, 0] rfl)
def f_X11_back (M : zM)  : Option (Int32 × zM) :=
  znm (zu M 0 0 0) (fun M_5 => if (M_5 0 6) = 0 then (some (0, M_5)) else (b_X11_back_16   6000 M_5 0))
set_option maxRecDepth 100000 in
set_option maxHeartbeats 4000000 in
theorem w_X11_back (g : zG)  {r : Int32 × zM} (E : zX g p m c cX11_back 2 s args (zWs yX11_back cX11_back 2 (some .boolean)) RX11) (hret : zRi g rE 15 p l e (zrm 2 0 0) s m args below meth c 0 0 Q cX11_back .boolean (fun v M1 => r = (v, M1))) (M : zM)  (H : Heap) (locs : List Loc) (ls : Array Slot) (h : f_X11_back M  = some r) (hZ : zS g rE 15 s H locs M) (hl : lv_has ls 2 [(0, .ref (g.2.2 0))]) : W p l e (zrm 2 0 0) s m args below meth c H locs 0 0 Q (F0 m 0 ls []) := by
  have hx := E.1.1
  have hb := E.1.2.1
  unfold f_X11_back at h
  refine lv_aload_n hx hb dX11_back_0 rfl (lv_at hl 0 rfl) ?_
  refine lv_iconst (v := 0) hx hb dX11_back_1 (by decide) ?_
  refine zp h E hZ (by decide) (re_0 _) ((re_0 _).trans (congrArg (fun z => Sum.inr (10, z)) (fs_X11_0 g _ _ _))) kc_X11 (by decide) kw_1368 rfl rfl rfl (Nat.le_of_ble_eq_true rfl) dX11_back_2 (fun M_5 H locs eM_5 h hZ => ?_)
  refine lv_aload_n hx hb dX11_back_5 rfl (lv_at hl 0 rfl) ?_
  refine zg (v := .int (M_5 0 6)) E hZ (by decide) (re_0 _) kc_X11 6 (by decide) kw_1374 rfl rfl dX11_back_6 ?_
  refine zif_ne (tgt := 14) h E dX11_back_9 (by decide) (fun c_6 h => ?_) (fun c_6 h => ?_)
  · refine lv_iconst (v := 0) hx hb dX11_back_14 (by decide) ?_
    refine lv_istore_n (lv' := [(1, .int 0), (0, .ref (g.2.2 0))]) hx hb dX11_back_15 rfl hl (by decide) rfl (fun ls hl => ?_)
    exact lb_X11_back_16 g  E hret   6000 M_5 0 H locs ls h hZ (lv_sub hl [1, 0] rfl)
  · refine lv_iconst (v := 0) hx hb dX11_back_12 (by decide) ?_
    exact hret _ _ _ _ _ _ (Option.some.inj h).symm rfl hZ dX11_back_13
theorem c_X11_back (l : Launch) (g : zG) (M : zM)   {r : Int32 × zM} (h : f_X11_back M  = some r) : zMi l g rE 15 yX11_back (zWs yX11_back cX11_back 2 (some .boolean)) 2 [.ref (g.2.2 0)] M (fun v M1 => r = (v, M1)) :=
  zMi_of (by decide +kernel) (Nat.le_of_ble_eq_true rfl) (fun p e s m args below meth c Q ls E hret hZ hl => w_X11_back g  E hret M  _ _ ls h hZ hl)
theorem v_X11_back : zYV yX11_back cX11_back 2 (some .boolean) 0 := ⟨kw_1451, kw_15, kw_1449, kw_1450, by decide +kernel⟩

def b_X11_remembers_55   : Nat → zM → Int32 → Option (zM)
  | 0, _, _ => none
  | n + 1, M, x1 =>
    if 332 ≤ x1 then (some M) else (zck (zin x1 2030) (zck (zin ((332 * ((M 0 7) - 1)) + x1) 3984) (znm (zu M 5 ((332 * ((M 0 7) - 1)) + x1 : Int32).toNatClampNeg (M 1 (x1 : Int32).toNatClampNeg)) (fun M_1 => znm (x1 + 1) (fun x1_2 => b_X11_remembers_55   n M_1 x1_2)))))
set_option maxRecDepth 100000 in
set_option maxHeartbeats 4000000 in
theorem lb_X11_remembers_55 (g : zG)  {r : zM} (E : zX g p m c cX11_remembers 2 s args (zWs yX11_remembers cX11_remembers 2 none) RX11) (hret : zRv g rE 15 p l e (zrm 2 0 0) s m args below meth c 0 0 Q cX11_remembers (fun M1 => M1 = r))   : ∀ (n : Nat) (M : zM) (x1 : Int32) (H : Heap) (locs : List Loc) (ls : Array Slot), b_X11_remembers_55   n M x1 = some r → zS g rE 15 s H locs M → lv_has ls 2 [(0, .ref (g.2.2 0)), (1, .int x1)] → W p l e (zrm 2 0 0) s m args below meth c H locs 0 0 Q (F0 m 55 ls []) := by
  have hx := E.1.1
  have hb := E.1.2.1
  intro n
  induction n with
  | zero => intro M x1 H locs ls h hZ hl; cases h
  | succ n ih =>
    intro M x1 H locs ls h hZ hl
    rw [b_X11_remembers_55] at h
    refine lv_iload_n hx hb dX11_remembers_55 rfl (lv_at hl 1 rfl) ?_
    refine lv_sipush (v := 332) hx hb dX11_remembers_56 (by decide) ?_
    refine zic_ge (tgt := 91) h E dX11_remembers_59 (by decide) (fun c_3 h => ?_) (fun c_3 h => ?_)
    · exact hret _ _ _ _ _ (Option.some.inj h) hZ dX11_remembers_91
    · refine lv_aload_n hx hb dX11_remembers_62 rfl (lv_at hl 0 rfl) ?_
      refine zg (v := .ref (g.2.2 5)) E hZ (by decide) (re_0 _) kc_X11 5 (by decide) kw_1373 rfl rfl dX11_remembers_63 ?_
      refine lv_sipush (v := 332) hx hb dX11_remembers_66 (by decide) ?_
      refine lv_aload_n hx hb dX11_remembers_69 rfl (lv_at hl 0 rfl) ?_
      refine zg (v := .int (M 0 7)) E hZ (by decide) (re_0 _) kc_X11 7 (by decide) kw_1375 rfl rfl dX11_remembers_70 ?_
      refine lv_iconst (v := 1) hx hb dX11_remembers_73 (by decide) ?_
      refine lv_isub hx hb dX11_remembers_74 ?_
      refine lv_imul hx hb dX11_remembers_75 ?_
      refine lv_iload_n hx hb dX11_remembers_76 rfl (lv_at hl 1 rfl) ?_
      refine lv_iadd hx hb dX11_remembers_77 ?_
      refine lv_aload_n hx hb dX11_remembers_78 rfl (lv_at hl 0 rfl) ?_
      refine zg (v := .ref (g.2.2 1)) E hZ (by decide) (re_0 _) kc_X11 1 (by decide) kw_1369 rfl rfl dX11_remembers_79 ?_
      refine lv_iload_n hx hb dX11_remembers_82 rfl (lv_at hl 1 rfl) ?_
      refine zia h E hZ (by decide) re_1 dX11_remembers_83 (fun h => ?_)
      refine zis h E hZ (by decide) re_5 dX11_remembers_84 (fun M_1 H locs eM_1 h hZ => ?_)
      obtain ⟨x1_2, ex1_2, h⟩ := znm_ex h
      refine lv_iinc (v := x1_2) (lv' := [(1, .int x1_2), (0, .ref (g.2.2 0))]) hx hb dX11_remembers_85 hl (k := 1) rfl (by rw [ex1_2]; rfl) (by decide) rfl (fun ls hl => ?_)
      refine lv_goto (tgt := 55) hx hb dX11_remembers_88 (by decide) ?_
      exact ih M_1 x1_2 H locs ls h hZ (lv_sub hl [1, 0] rfl)
def b_X11_remembers_53  (M : zM) : Option (zM) :=
  b_X11_remembers_55   6000 M 0
set_option maxRecDepth 100000 in
set_option maxHeartbeats 4000000 in
theorem lb_X11_remembers_53 (g : zG)  {r : zM} (E : zX g p m c cX11_remembers 2 s args (zWs yX11_remembers cX11_remembers 2 none) RX11) (hret : zRv g rE 15 p l e (zrm 2 0 0) s m args below meth c 0 0 Q cX11_remembers (fun M1 => M1 = r)) (M : zM)  (H : Heap) (locs : List Loc) (ls : Array Slot) (h : b_X11_remembers_53  M = some r) (hZ : zS g rE 15 s H locs M) (hl : lv_has ls 2 [(0, .ref (g.2.2 0))]) : W p l e (zrm 2 0 0) s m args below meth c H locs 0 0 Q (F0 m 53 ls []) := by
  have hx := E.1.1
  have hb := E.1.2.1
  unfold b_X11_remembers_53 at h
  refine lv_iconst (v := 0) hx hb dX11_remembers_53 (by decide) ?_
  refine lv_istore_n (lv' := [(1, .int 0), (0, .ref (g.2.2 0))]) hx hb dX11_remembers_54 rfl hl (by decide) rfl (fun ls hl => ?_)
  exact lb_X11_remembers_55 g  E hret   6000 M 0 H locs ls h hZ (lv_sub hl [1, 0] rfl)
def b_X11_remembers_40  (M : zM) : Option (zM) :=
  b_X11_remembers_53  M
set_option maxRecDepth 100000 in
set_option maxHeartbeats 4000000 in
theorem lb_X11_remembers_40 (g : zG)  {r : zM} (E : zX g p m c cX11_remembers 2 s args (zWs yX11_remembers cX11_remembers 2 none) RX11) (hret : zRv g rE 15 p l e (zrm 2 0 0) s m args below meth c 0 0 Q cX11_remembers (fun M1 => M1 = r)) (M : zM)  (H : Heap) (locs : List Loc) (ls : Array Slot) (h : b_X11_remembers_40  M = some r) (hZ : zS g rE 15 s H locs M) (hl : lv_has ls 2 [(0, .ref (g.2.2 0))]) : W p l e (zrm 2 0 0) s m args below meth c H locs 0 0 Q (F0 m 40 ls []) := by
  have hx := E.1.1
  have hb := E.1.2.1
  unfold b_X11_remembers_40 at h
  refine lv_goto (tgt := 53) hx hb dX11_remembers_40 (by decide) ?_
  exact lb_X11_remembers_53 g  E hret M  H locs ls h hZ (lv_sub hl [0] rfl)
def b_X11_remembers_11   : Nat → zM → Int32 → Option (zM)
  | 0, _, _ => none
  | n + 1, M, x1 =>
    if 3652 ≤ x1 then (b_X11_remembers_40  M) else (zck (zin (x1 + 332) 3984) (zck (zin x1 3984) (znm (zu M 5 (x1 : Int32).toNatClampNeg (M 5 (x1 + 332 : Int32).toNatClampNeg)) (fun M_4 => znm (x1 + 1) (fun x1_5 => b_X11_remembers_11   n M_4 x1_5)))))
set_option maxRecDepth 100000 in
set_option maxHeartbeats 4000000 in
theorem lb_X11_remembers_11 (g : zG)  {r : zM} (E : zX g p m c cX11_remembers 2 s args (zWs yX11_remembers cX11_remembers 2 none) RX11) (hret : zRv g rE 15 p l e (zrm 2 0 0) s m args below meth c 0 0 Q cX11_remembers (fun M1 => M1 = r))   : ∀ (n : Nat) (M : zM) (x1 : Int32) (H : Heap) (locs : List Loc) (ls : Array Slot), b_X11_remembers_11   n M x1 = some r → zS g rE 15 s H locs M → lv_has ls 2 [(0, .ref (g.2.2 0)), (1, .int x1)] → W p l e (zrm 2 0 0) s m args below meth c H locs 0 0 Q (F0 m 11 ls []) := by
  have hx := E.1.1
  have hb := E.1.2.1
  intro n
  induction n with
  | zero => intro M x1 H locs ls h hZ hl; cases h
  | succ n ih =>
    intro M x1 H locs ls h hZ hl
    rw [b_X11_remembers_11] at h
    refine lv_iload_n hx hb dX11_remembers_11 rfl (lv_at hl 1 rfl) ?_
    refine lv_sipush (v := 3652) hx hb dX11_remembers_12 (by decide) ?_
    refine zic_ge (tgt := 40) h E dX11_remembers_15 (by decide) (fun c_6 h => ?_) (fun c_6 h => ?_)
    · exact lb_X11_remembers_40 g  E hret M  H locs ls h hZ (lv_sub hl [0] rfl)
    · refine lv_aload_n hx hb dX11_remembers_18 rfl (lv_at hl 0 rfl) ?_
      refine zg (v := .ref (g.2.2 5)) E hZ (by decide) (re_0 _) kc_X11 5 (by decide) kw_1373 rfl rfl dX11_remembers_19 ?_
      refine lv_iload_n hx hb dX11_remembers_22 rfl (lv_at hl 1 rfl) ?_
      refine lv_aload_n hx hb dX11_remembers_23 rfl (lv_at hl 0 rfl) ?_
      refine zg (v := .ref (g.2.2 5)) E hZ (by decide) (re_0 _) kc_X11 5 (by decide) kw_1373 rfl rfl dX11_remembers_24 ?_
      refine lv_iload_n hx hb dX11_remembers_27 rfl (lv_at hl 1 rfl) ?_
      refine lv_sipush (v := 332) hx hb dX11_remembers_28 (by decide) ?_
      refine lv_iadd hx hb dX11_remembers_31 ?_
      refine zia h E hZ (by decide) re_5 dX11_remembers_32 (fun h => ?_)
      refine zis h E hZ (by decide) re_5 dX11_remembers_33 (fun M_4 H locs eM_4 h hZ => ?_)
      obtain ⟨x1_5, ex1_5, h⟩ := znm_ex h
      refine lv_iinc (v := x1_5) (lv' := [(1, .int x1_5), (0, .ref (g.2.2 0))]) hx hb dX11_remembers_34 hl (k := 1) rfl (by rw [ex1_5]; rfl) (by decide) rfl (fun ls hl => ?_)
      refine lv_goto (tgt := 11) hx hb dX11_remembers_37 (by decide) ?_
      exact ih M_4 x1_5 H locs ls h hZ (lv_sub hl [1, 0] rfl)
def f_X11_remembers (M : zM)  : Option (zM) :=
  if (M 0 7) = 12 then (b_X11_remembers_11   6000 M 0) else (znm (zu M 0 7 ((M 0 7) + 1)) (fun M_7 => b_X11_remembers_53  M_7))
set_option maxRecDepth 100000 in
set_option maxHeartbeats 4000000 in
theorem w_X11_remembers (g : zG)  {r : zM} (E : zX g p m c cX11_remembers 2 s args (zWs yX11_remembers cX11_remembers 2 none) RX11) (hret : zRv g rE 15 p l e (zrm 2 0 0) s m args below meth c 0 0 Q cX11_remembers (fun M1 => M1 = r)) (M : zM)  (H : Heap) (locs : List Loc) (ls : Array Slot) (h : f_X11_remembers M  = some r) (hZ : zS g rE 15 s H locs M) (hl : lv_has ls 2 [(0, .ref (g.2.2 0))]) : W p l e (zrm 2 0 0) s m args below meth c H locs 0 0 Q (F0 m 0 ls []) := by
  have hx := E.1.1
  have hb := E.1.2.1
  unfold f_X11_remembers at h
  refine lv_aload_n hx hb dX11_remembers_0 rfl (lv_at hl 0 rfl) ?_
  refine zg (v := .int (M 0 7)) E hZ (by decide) (re_0 _) kc_X11 7 (by decide) kw_1375 rfl rfl dX11_remembers_1 ?_
  refine lv_bipush (v := 12) hx hb dX11_remembers_4 (by decide) ?_
  refine zic_ne (tgt := 43) h E dX11_remembers_6 (by decide) (fun c_8 h => ?_) (fun c_8 h => ?_)
  · refine lv_aload_n hx hb dX11_remembers_43 rfl (lv_at hl 0 rfl) ?_
    refine lv_dup hx hb dX11_remembers_44 rfl ?_
    refine zg (v := .int (M 0 7)) E hZ (by decide) (re_0 _) kc_X11 7 (by decide) kw_1375 rfl rfl dX11_remembers_45 ?_
    refine lv_iconst (v := 1) hx hb dX11_remembers_48 (by decide) ?_
    refine lv_iadd hx hb dX11_remembers_49 ?_
    refine zp h E hZ (by decide) (re_0 _) ((re_0 _).trans (congrArg (fun z => Sum.inr (10, z)) (fs_X11_7 g _ _ _))) kc_X11 (by decide) kw_1375 rfl rfl rfl (Nat.le_of_ble_eq_true rfl) dX11_remembers_50 (fun M_7 H locs eM_7 h hZ => ?_)
    exact lb_X11_remembers_53 g  E hret M_7  H locs ls h hZ (lv_sub hl [0] rfl)
  · refine lv_iconst (v := 0) hx hb dX11_remembers_9 (by decide) ?_
    refine lv_istore_n (lv' := [(1, .int 0), (0, .ref (g.2.2 0))]) hx hb dX11_remembers_10 rfl hl (by decide) rfl (fun ls hl => ?_)
    exact lb_X11_remembers_11 g  E hret   6000 M 0 H locs ls h hZ (lv_sub hl [1, 0] rfl)
theorem c_X11_remembers (l : Launch) (g : zG) (M : zM)   {r : zM} (h : f_X11_remembers M  = some r) : zMv l g rE 15 yX11_remembers (zWs yX11_remembers cX11_remembers 2 none) 2 [.ref (g.2.2 0)] M (fun M1 => M1 = r) :=
  zMv_of (by decide +kernel) (Nat.le_of_ble_eq_true rfl) (fun p e s m args below meth c Q ls E hret hZ hl => w_X11_remembers g  E hret M  _ _ ls h hZ hl)
theorem v_X11_remembers : zYV yX11_remembers cX11_remembers 2 none 0 := ⟨kw_1804, kw_15, kw_1803, kp_88, by decide +kernel⟩

def b_X11_undo_26   : Nat → zM → Int32 → Option (Int32 × zM)
  | 0, _, _ => none
  | n + 1, M, x1 =>
    if 332 ≤ x1 then (some (1, M)) else (zck (zin ((332 * (M 0 7)) + x1) 3984) (zck (zin x1 2030) (znm (zu M 1 (x1 : Int32).toNatClampNeg (M 5 ((332 * (M 0 7)) + x1 : Int32).toNatClampNeg)) (fun M_1 => znm (x1 + 1) (fun x1_2 => b_X11_undo_26   n M_1 x1_2)))))
set_option maxRecDepth 100000 in
set_option maxHeartbeats 4000000 in
theorem lb_X11_undo_26 (g : zG)  {r : Int32 × zM} (E : zX g p m c cX11_undo 2 s args (zWs yX11_undo cX11_undo 2 (some .boolean)) RX11) (hret : zRi g rE 15 p l e (zrm 2 0 0) s m args below meth c 0 0 Q cX11_undo .boolean (fun v M1 => r = (v, M1)))   : ∀ (n : Nat) (M : zM) (x1 : Int32) (H : Heap) (locs : List Loc) (ls : Array Slot), b_X11_undo_26   n M x1 = some r → zS g rE 15 s H locs M → lv_has ls 2 [(0, .ref (g.2.2 0)), (1, .int x1)] → W p l e (zrm 2 0 0) s m args below meth c H locs 0 0 Q (F0 m 26 ls []) := by
  have hx := E.1.1
  have hb := E.1.2.1
  intro n
  induction n with
  | zero => intro M x1 H locs ls h hZ hl; cases h
  | succ n ih =>
    intro M x1 H locs ls h hZ hl
    rw [b_X11_undo_26] at h
    refine lv_iload_n hx hb dX11_undo_26 rfl (lv_at hl 1 rfl) ?_
    refine lv_sipush (v := 332) hx hb dX11_undo_27 (by decide) ?_
    refine zic_ge (tgt := 60) h E dX11_undo_30 (by decide) (fun c_3 h => ?_) (fun c_3 h => ?_)
    · refine lv_iconst (v := 1) hx hb dX11_undo_60 (by decide) ?_
      exact hret _ _ _ _ _ _ (Option.some.inj h).symm rfl hZ dX11_undo_61
    · refine lv_aload_n hx hb dX11_undo_33 rfl (lv_at hl 0 rfl) ?_
      refine zg (v := .ref (g.2.2 1)) E hZ (by decide) (re_0 _) kc_X11 1 (by decide) kw_1369 rfl rfl dX11_undo_34 ?_
      refine lv_iload_n hx hb dX11_undo_37 rfl (lv_at hl 1 rfl) ?_
      refine lv_aload_n hx hb dX11_undo_38 rfl (lv_at hl 0 rfl) ?_
      refine zg (v := .ref (g.2.2 5)) E hZ (by decide) (re_0 _) kc_X11 5 (by decide) kw_1373 rfl rfl dX11_undo_39 ?_
      refine lv_sipush (v := 332) hx hb dX11_undo_42 (by decide) ?_
      refine lv_aload_n hx hb dX11_undo_45 rfl (lv_at hl 0 rfl) ?_
      refine zg (v := .int (M 0 7)) E hZ (by decide) (re_0 _) kc_X11 7 (by decide) kw_1375 rfl rfl dX11_undo_46 ?_
      refine lv_imul hx hb dX11_undo_49 ?_
      refine lv_iload_n hx hb dX11_undo_50 rfl (lv_at hl 1 rfl) ?_
      refine lv_iadd hx hb dX11_undo_51 ?_
      refine zia h E hZ (by decide) re_5 dX11_undo_52 (fun h => ?_)
      refine zis h E hZ (by decide) re_1 dX11_undo_53 (fun M_1 H locs eM_1 h hZ => ?_)
      obtain ⟨x1_2, ex1_2, h⟩ := znm_ex h
      refine lv_iinc (v := x1_2) (lv' := [(1, .int x1_2), (0, .ref (g.2.2 0))]) hx hb dX11_undo_54 hl (k := 1) rfl (by rw [ex1_2]; rfl) (by decide) rfl (fun ls hl => ?_)
      refine lv_goto (tgt := 26) hx hb dX11_undo_57 (by decide) ?_
      exact ih M_1 x1_2 H locs ls h hZ (lv_sub hl [1, 0] rfl)
def f_X11_undo (M : zM)  : Option (Int32 × zM) :=
  znm (zu M 0 0 0) (fun M_4 => if (M_4 0 7) = 0 then (some (0, M_4)) else (znm (zu M_4 0 7 ((M_4 0 7) - 1)) (fun M_5 => b_X11_undo_26   6000 M_5 0)))
set_option maxRecDepth 100000 in
set_option maxHeartbeats 4000000 in
theorem w_X11_undo (g : zG)  {r : Int32 × zM} (E : zX g p m c cX11_undo 2 s args (zWs yX11_undo cX11_undo 2 (some .boolean)) RX11) (hret : zRi g rE 15 p l e (zrm 2 0 0) s m args below meth c 0 0 Q cX11_undo .boolean (fun v M1 => r = (v, M1))) (M : zM)  (H : Heap) (locs : List Loc) (ls : Array Slot) (h : f_X11_undo M  = some r) (hZ : zS g rE 15 s H locs M) (hl : lv_has ls 2 [(0, .ref (g.2.2 0))]) : W p l e (zrm 2 0 0) s m args below meth c H locs 0 0 Q (F0 m 0 ls []) := by
  have hx := E.1.1
  have hb := E.1.2.1
  unfold f_X11_undo at h
  refine lv_aload_n hx hb dX11_undo_0 rfl (lv_at hl 0 rfl) ?_
  refine lv_iconst (v := 0) hx hb dX11_undo_1 (by decide) ?_
  refine zp h E hZ (by decide) (re_0 _) ((re_0 _).trans (congrArg (fun z => Sum.inr (10, z)) (fs_X11_0 g _ _ _))) kc_X11 (by decide) kw_1368 rfl rfl rfl (Nat.le_of_ble_eq_true rfl) dX11_undo_2 (fun M_4 H locs eM_4 h hZ => ?_)
  refine lv_aload_n hx hb dX11_undo_5 rfl (lv_at hl 0 rfl) ?_
  refine zg (v := .int (M_4 0 7)) E hZ (by decide) (re_0 _) kc_X11 7 (by decide) kw_1375 rfl rfl dX11_undo_6 ?_
  refine zif_ne (tgt := 14) h E dX11_undo_9 (by decide) (fun c_6 h => ?_) (fun c_6 h => ?_)
  · refine lv_aload_n hx hb dX11_undo_14 rfl (lv_at hl 0 rfl) ?_
    refine lv_dup hx hb dX11_undo_15 rfl ?_
    refine zg (v := .int (M_4 0 7)) E hZ (by decide) (re_0 _) kc_X11 7 (by decide) kw_1375 rfl rfl dX11_undo_16 ?_
    refine lv_iconst (v := 1) hx hb dX11_undo_19 (by decide) ?_
    refine lv_isub hx hb dX11_undo_20 ?_
    refine zp h E hZ (by decide) (re_0 _) ((re_0 _).trans (congrArg (fun z => Sum.inr (10, z)) (fs_X11_7 g _ _ _))) kc_X11 (by decide) kw_1375 rfl rfl rfl (Nat.le_of_ble_eq_true rfl) dX11_undo_21 (fun M_5 H locs eM_5 h hZ => ?_)
    refine lv_iconst (v := 0) hx hb dX11_undo_24 (by decide) ?_
    refine lv_istore_n (lv' := [(1, .int 0), (0, .ref (g.2.2 0))]) hx hb dX11_undo_25 rfl hl (by decide) rfl (fun ls hl => ?_)
    exact lb_X11_undo_26 g  E hret   6000 M_5 0 H locs ls h hZ (lv_sub hl [1, 0] rfl)
  · refine lv_iconst (v := 0) hx hb dX11_undo_12 (by decide) ?_
    exact hret _ _ _ _ _ _ (Option.some.inj h).symm rfl hZ dX11_undo_13
theorem c_X11_undo (l : Launch) (g : zG) (M : zM)   {r : Int32 × zM} (h : f_X11_undo M  = some r) : zMi l g rE 15 yX11_undo (zWs yX11_undo cX11_undo 2 (some .boolean)) 2 [.ref (g.2.2 0)] M (fun v M1 => r = (v, M1)) :=
  zMi_of (by decide +kernel) (Nat.le_of_ble_eq_true rfl) (fun p e s m args below meth c Q ls E hret hZ hl => w_X11_undo g  E hret M  _ _ ls h hZ hl)
theorem v_X11_undo : zYV yX11_undo cX11_undo 2 (some .boolean) 0 := ⟨kw_1455, kw_15, kw_1453, kw_1454, by decide +kernel⟩

def f_X11_monks (M : zM)  : Option (Int32) :=
  zck (zin 0 2030) (some (M 1 (0 : Int32).toNatClampNeg))
set_option maxRecDepth 100000 in
set_option maxHeartbeats 4000000 in
theorem w_X11_monks (g : zG)  {r : Int32} {M0 : zM} (E : zX g p m c cX11_monks 1 s args (zWs yX11_monks cX11_monks 1 (some .int)) RX11) (hret : zRi g rE 15 p l e (zrm 2 0 0) s m args below meth c 0 0 Q cX11_monks .int (fun v M1 => v = r ∧ M1 = M0)) (M : zM) (hM : M = M0)  (H : Heap) (locs : List Loc) (ls : Array Slot) (h : f_X11_monks M  = some r) (hZ : zS g rE 15 s H locs M) (hl : lv_has ls 1 [(0, .ref (g.2.2 0))]) : W p l e (zrm 2 0 0) s m args below meth c H locs 0 0 Q (F0 m 0 ls []) := by
  have hx := E.1.1
  have hb := E.1.2.1
  unfold f_X11_monks at h
  refine lv_aload_n hx hb dX11_monks_0 rfl (lv_at hl 0 rfl) ?_
  refine zg (v := .ref (g.2.2 1)) E hZ (by decide) (re_0 _) kc_X11 1 (by decide) kw_1369 rfl rfl dX11_monks_1 ?_
  refine lv_iconst (v := 0) hx hb dX11_monks_4 (by decide) ?_
  refine zia h E hZ (by decide) re_1 dX11_monks_5 (fun h => ?_)
  exact hret _ _ _ _ _ _ ⟨Option.some.inj h, hM⟩ rfl hZ dX11_monks_6
theorem c_X11_monks (l : Launch) (g : zG) (M : zM)   {r : Int32} (h : f_X11_monks M  = some r) : zMi l g rE 15 yX11_monks (zWs yX11_monks cX11_monks 1 (some .int)) 2 [.ref (g.2.2 0)] M (fun v M1 => v = r ∧ M1 = M) :=
  zMi_of (by decide +kernel) (Nat.le_of_ble_eq_true rfl) (fun p e s m args below meth c Q ls E hret hZ hl => w_X11_monks g  E hret M rfl  _ _ ls h hZ hl)
theorem v_X11_monks : zYV yX11_monks cX11_monks 1 (some .int) 0 := ⟨kw_1565, kw_15, kw_1564, kp_54, by decide +kernel⟩

def f_X11_duties (M : zM)  : Option (Int32) :=
  zck (zin 1 2030) (some (M 1 (1 : Int32).toNatClampNeg))
set_option maxRecDepth 100000 in
set_option maxHeartbeats 4000000 in
theorem w_X11_duties (g : zG)  {r : Int32} {M0 : zM} (E : zX g p m c cX11_duties 1 s args (zWs yX11_duties cX11_duties 1 (some .int)) RX11) (hret : zRi g rE 15 p l e (zrm 2 0 0) s m args below meth c 0 0 Q cX11_duties .int (fun v M1 => v = r ∧ M1 = M0)) (M : zM) (hM : M = M0)  (H : Heap) (locs : List Loc) (ls : Array Slot) (h : f_X11_duties M  = some r) (hZ : zS g rE 15 s H locs M) (hl : lv_has ls 1 [(0, .ref (g.2.2 0))]) : W p l e (zrm 2 0 0) s m args below meth c H locs 0 0 Q (F0 m 0 ls []) := by
  have hx := E.1.1
  have hb := E.1.2.1
  unfold f_X11_duties at h
  refine lv_aload_n hx hb dX11_duties_0 rfl (lv_at hl 0 rfl) ?_
  refine zg (v := .ref (g.2.2 1)) E hZ (by decide) (re_0 _) kc_X11 1 (by decide) kw_1369 rfl rfl dX11_duties_1 ?_
  refine lv_iconst (v := 1) hx hb dX11_duties_4 (by decide) ?_
  refine zia h E hZ (by decide) re_1 dX11_duties_5 (fun h => ?_)
  exact hret _ _ _ _ _ _ ⟨Option.some.inj h, hM⟩ rfl hZ dX11_duties_6
theorem c_X11_duties (l : Launch) (g : zG) (M : zM)   {r : Int32} (h : f_X11_duties M  = some r) : zMi l g rE 15 yX11_duties (zWs yX11_duties cX11_duties 1 (some .int)) 2 [.ref (g.2.2 0)] M (fun v M1 => v = r ∧ M1 = M) :=
  zMi_of (by decide +kernel) (Nat.le_of_ble_eq_true rfl) (fun p e s m args below meth c Q ls E hret hZ hl => w_X11_duties g  E hret M rfl  _ _ ls h hZ hl)
theorem v_X11_duties : zYV yX11_duties cX11_duties 1 (some .int) 0 := ⟨kw_1583, kw_15, kw_1582, kp_57, by decide +kernel⟩

def f_X11_monkAt (M : zM) (x0 : Int32) (x1 : Int32) : Option (Int32) :=
  some ((38 + (5 * x0)) + x1)
set_option maxRecDepth 100000 in
set_option maxHeartbeats 4000000 in
theorem w_X11_monkAt (g : zG)  {r : Int32} {M0 : zM} (E : zX g p m c cX11_monkAt 2 s args (zWs yX11_monkAt cX11_monkAt 2 (some .int)) RX11) (hret : zRi g rE 15 p l e (zrm 2 0 0) s m args below meth c 0 0 Q cX11_monkAt .int (fun v M1 => v = r ∧ M1 = M0)) (M : zM) (hM : M = M0) (x0 : Int32) (x1 : Int32) (H : Heap) (locs : List Loc) (ls : Array Slot) (h : f_X11_monkAt M x0 x1 = some r) (hZ : zS g rE 15 s H locs M) (hl : lv_has ls 2 [(0, .int x0), (1, .int x1)]) : W p l e (zrm 2 0 0) s m args below meth c H locs 0 0 Q (F0 m 0 ls []) := by
  have hx := E.1.1
  have hb := E.1.2.1
  unfold f_X11_monkAt at h
  refine lv_bipush (v := 38) hx hb dX11_monkAt_0 (by decide) ?_
  refine lv_iconst (v := 5) hx hb dX11_monkAt_2 (by decide) ?_
  refine lv_iload_n hx hb dX11_monkAt_3 rfl (lv_at hl 0 rfl) ?_
  refine lv_imul hx hb dX11_monkAt_4 ?_
  refine lv_iadd hx hb dX11_monkAt_5 ?_
  refine lv_iload_n hx hb dX11_monkAt_6 rfl (lv_at hl 1 rfl) ?_
  refine lv_iadd hx hb dX11_monkAt_7 ?_
  exact hret _ _ _ _ _ _ ⟨Option.some.inj h, hM⟩ rfl hZ dX11_monkAt_8
theorem c_X11_monkAt (l : Launch) (g : zG) (M : zM)  (x0 : Int32) (x1 : Int32) {r : Int32} (h : f_X11_monkAt M x0 x1 = some r) : zMi l g rE 15 yX11_monkAt (zWs yX11_monkAt cX11_monkAt 2 (some .int)) 2 [.int x0, .int x1] M (fun v M1 => v = r ∧ M1 = M) :=
  zMi_of (by decide +kernel) (Nat.le_of_ble_eq_true rfl) (fun p e s m args below meth c Q ls E hret hZ hl => w_X11_monkAt g  E hret M rfl x0 x1 _ _ ls h hZ hl)
theorem v_X11_monkAt : zYS yX11_monkAt cX11_monkAt 2 (some .int) 2 := ⟨kw_1574, kw_15, kw_1573, by decide +kernel⟩

def f_X11_of (M : zM) (x1 : Int32) (x2 : Int32) : Option (Int32) :=
  zbn (f_X11_monkAt M x1 x2) (fun u_1 => zck (zin u_1 2030) (some (M 1 (u_1 : Int32).toNatClampNeg)))
set_option maxRecDepth 100000 in
set_option maxHeartbeats 4000000 in
theorem w_X11_of (g : zG)  {r : Int32} {M0 : zM} (E : zX g p m c cX11_of 3 s args (zWs yX11_of cX11_of 3 (some .int)) RX11) (hret : zRi g rE 15 p l e (zrm 3 0 0) s m args below meth c 0 0 Q cX11_of .int (fun v M1 => v = r ∧ M1 = M0)) (M : zM) (hM : M = M0) (x1 : Int32) (x2 : Int32) (H : Heap) (locs : List Loc) (ls : Array Slot) (h : f_X11_of M x1 x2 = some r) (hZ : zS g rE 15 s H locs M) (hl : lv_has ls 3 [(0, .ref (g.2.2 0)), (1, .int x1), (2, .int x2)]) : W p l e (zrm 3 0 0) s m args below meth c H locs 0 0 Q (F0 m 0 ls []) := by
  have hx := E.1.1
  have hb := E.1.2.1
  unfold f_X11_of at h
  refine lv_aload_n hx hb dX11_of_0 rfl (lv_at hl 0 rfl) ?_
  refine zg (v := .ref (g.2.2 1)) E hZ (by decide) (re_0 _) kc_X11 1 (by decide) kw_1369 rfl rfl dX11_of_1 ?_
  refine lv_iload_n hx hb dX11_of_4 rfl (lv_at hl 1 rfl) ?_
  refine lv_iload_n hx hb dX11_of_5 rfl (lv_at hl 2 rfl) ?_
  obtain ⟨u_1, qu_1, h⟩ := zbn_some h
  refine zciR (zrunS E hZ v_X11_monkAt kw_1572 (c_X11_monkAt l g M  x1 x2 qu_1 _) rfl hl.1 rfl (Nat.le_of_ble_eq_true rfl) ⟨by decide, by decide⟩ ⟨by decide, by decide⟩ dX11_of_6) hZ (fun H locs hZ => ?_)
  refine zia h E hZ (by decide) re_1 dX11_of_9 (fun h => ?_)
  exact hret _ _ _ _ _ _ ⟨Option.some.inj h, hM⟩ rfl hZ dX11_of_10
theorem c_X11_of (l : Launch) (g : zG) (M : zM)  (x1 : Int32) (x2 : Int32) {r : Int32} (h : f_X11_of M x1 x2 = some r) : zMi l g rE 15 yX11_of (zWs yX11_of cX11_of 3 (some .int)) 3 [.ref (g.2.2 0), .int x1, .int x2] M (fun v M1 => v = r ∧ M1 = M) :=
  zMi_of (by decide +kernel) (Nat.le_of_ble_eq_true rfl) (fun p e s m args below meth c Q ls E hret hZ hl => w_X11_of g  E hret M rfl x1 x2 _ _ ls h hZ hl)
theorem v_X11_of : zYV yX11_of cX11_of 3 (some .int) 2 := ⟨kw_1768, kw_15, kw_1767, kp_81, by decide +kernel⟩

def f_X11_isDrowned (M : zM) (x1 : Int32) : Option (Int32) :=
  zbn (f_X11_of M x1 4) (fun u_1 => if u_1 = 1 then (some 1) else (some 0))
set_option maxRecDepth 100000 in
set_option maxHeartbeats 4000000 in
theorem w_X11_isDrowned (g : zG)  {r : Int32} {M0 : zM} (E : zX g p m c cX11_isDrowned 2 s args (zWs yX11_isDrowned cX11_isDrowned 2 (some .boolean)) RX11) (hret : zRi g rE 15 p l e (zrm 4 0 0) s m args below meth c 0 0 Q cX11_isDrowned .boolean (fun v M1 => v = r ∧ M1 = M0)) (M : zM) (hM : M = M0) (x1 : Int32) (H : Heap) (locs : List Loc) (ls : Array Slot) (h : f_X11_isDrowned M x1 = some r) (hZ : zS g rE 15 s H locs M) (hl : lv_has ls 2 [(0, .ref (g.2.2 0)), (1, .int x1)]) : W p l e (zrm 4 0 0) s m args below meth c H locs 0 0 Q (F0 m 0 ls []) := by
  have hx := E.1.1
  have hb := E.1.2.1
  unfold f_X11_isDrowned at h
  refine lv_aload_n hx hb dX11_isDrowned_0 rfl (lv_at hl 0 rfl) ?_
  refine lv_iload_n hx hb dX11_isDrowned_1 rfl (lv_at hl 1 rfl) ?_
  refine lv_iconst (v := 4) hx hb dX11_isDrowned_2 (by decide) ?_
  obtain ⟨u_1, qu_1, h⟩ := zbn_some h
  refine zciR (zrunV E hZ (by decide) (re_0 _) rfl rfl v_X11_of kw_1765 (c_X11_of l g M  x1 4 qu_1 _) rfl hl.1 rfl (Nat.le_of_ble_eq_true rfl) ⟨by decide, by decide⟩ ⟨by decide, by decide⟩ dX11_isDrowned_3) hZ (fun H locs hZ => ?_)
  refine lv_iconst (v := 1) hx hb dX11_isDrowned_6 (by decide) ?_
  refine zic_ne (tgt := 14) h E dX11_isDrowned_7 (by decide) (fun c_2 h => ?_) (fun c_2 h => ?_)
  · refine lv_iconst (v := 0) hx hb dX11_isDrowned_14 (by decide) ?_
    exact hret _ _ _ _ _ _ ⟨Option.some.inj h, hM⟩ rfl hZ dX11_isDrowned_15
  · refine lv_iconst (v := 1) hx hb dX11_isDrowned_10 (by decide) ?_
    refine lv_goto (tgt := 15) hx hb dX11_isDrowned_11 (by decide) ?_
    exact hret _ _ _ _ _ _ ⟨Option.some.inj h, hM⟩ rfl hZ dX11_isDrowned_15
theorem c_X11_isDrowned (l : Launch) (g : zG) (M : zM)  (x1 : Int32) {r : Int32} (h : f_X11_isDrowned M x1 = some r) : zMi l g rE 15 yX11_isDrowned (zWs yX11_isDrowned cX11_isDrowned 2 (some .boolean)) 4 [.ref (g.2.2 0), .int x1] M (fun v M1 => v = r ∧ M1 = M) :=
  zMi_of (by decide +kernel) (Nat.le_of_ble_eq_true rfl) (fun p e s m args below meth c Q ls E hret hZ hl => w_X11_isDrowned g  E hret M rfl x1 _ _ ls h hZ hl)
theorem v_X11_isDrowned : zYV yX11_isDrowned cX11_isDrowned 2 (some .boolean) 1 := ⟨kw_1800, kw_15, kw_1799, kp_87, by decide +kernel⟩

def f_X11_dutyAt (M : zM) (x0 : Int32) (x1 : Int32) : Option (Int32) :=
  some ((68 + (4 * x0)) + x1)
set_option maxRecDepth 100000 in
set_option maxHeartbeats 4000000 in
theorem w_X11_dutyAt (g : zG)  {r : Int32} {M0 : zM} (E : zX g p m c cX11_dutyAt 2 s args (zWs yX11_dutyAt cX11_dutyAt 2 (some .int)) RX11) (hret : zRi g rE 15 p l e (zrm 2 0 0) s m args below meth c 0 0 Q cX11_dutyAt .int (fun v M1 => v = r ∧ M1 = M0)) (M : zM) (hM : M = M0) (x0 : Int32) (x1 : Int32) (H : Heap) (locs : List Loc) (ls : Array Slot) (h : f_X11_dutyAt M x0 x1 = some r) (hZ : zS g rE 15 s H locs M) (hl : lv_has ls 2 [(0, .int x0), (1, .int x1)]) : W p l e (zrm 2 0 0) s m args below meth c H locs 0 0 Q (F0 m 0 ls []) := by
  have hx := E.1.1
  have hb := E.1.2.1
  unfold f_X11_dutyAt at h
  refine lv_bipush (v := 68) hx hb dX11_dutyAt_0 (by decide) ?_
  refine lv_iconst (v := 4) hx hb dX11_dutyAt_2 (by decide) ?_
  refine lv_iload_n hx hb dX11_dutyAt_3 rfl (lv_at hl 0 rfl) ?_
  refine lv_imul hx hb dX11_dutyAt_4 ?_
  refine lv_iadd hx hb dX11_dutyAt_5 ?_
  refine lv_iload_n hx hb dX11_dutyAt_6 rfl (lv_at hl 1 rfl) ?_
  refine lv_iadd hx hb dX11_dutyAt_7 ?_
  exact hret _ _ _ _ _ _ ⟨Option.some.inj h, hM⟩ rfl hZ dX11_dutyAt_8
theorem c_X11_dutyAt (l : Launch) (g : zG) (M : zM)  (x0 : Int32) (x1 : Int32) {r : Int32} (h : f_X11_dutyAt M x0 x1 = some r) : zMi l g rE 15 yX11_dutyAt (zWs yX11_dutyAt cX11_dutyAt 2 (some .int)) 2 [.int x0, .int x1] M (fun v M1 => v = r ∧ M1 = M) :=
  zMi_of (by decide +kernel) (Nat.le_of_ble_eq_true rfl) (fun p e s m args below meth c Q ls E hret hZ hl => w_X11_dutyAt g  E hret M rfl x0 x1 _ _ ls h hZ hl)
theorem v_X11_dutyAt : zYS yX11_dutyAt cX11_dutyAt 2 (some .int) 2 := ⟨kw_1587, kw_15, kw_1586, by decide +kernel⟩

def f_X11_ofDuty (M : zM) (x1 : Int32) (x2 : Int32) : Option (Int32) :=
  zbn (f_X11_dutyAt M x1 x2) (fun u_1 => zck (zin u_1 2030) (some (M 1 (u_1 : Int32).toNatClampNeg)))
set_option maxRecDepth 100000 in
set_option maxHeartbeats 4000000 in
theorem w_X11_ofDuty (g : zG)  {r : Int32} {M0 : zM} (E : zX g p m c cX11_ofDuty 3 s args (zWs yX11_ofDuty cX11_ofDuty 3 (some .int)) RX11) (hret : zRi g rE 15 p l e (zrm 3 0 0) s m args below meth c 0 0 Q cX11_ofDuty .int (fun v M1 => v = r ∧ M1 = M0)) (M : zM) (hM : M = M0) (x1 : Int32) (x2 : Int32) (H : Heap) (locs : List Loc) (ls : Array Slot) (h : f_X11_ofDuty M x1 x2 = some r) (hZ : zS g rE 15 s H locs M) (hl : lv_has ls 3 [(0, .ref (g.2.2 0)), (1, .int x1), (2, .int x2)]) : W p l e (zrm 3 0 0) s m args below meth c H locs 0 0 Q (F0 m 0 ls []) := by
  have hx := E.1.1
  have hb := E.1.2.1
  unfold f_X11_ofDuty at h
  refine lv_aload_n hx hb dX11_ofDuty_0 rfl (lv_at hl 0 rfl) ?_
  refine zg (v := .ref (g.2.2 1)) E hZ (by decide) (re_0 _) kc_X11 1 (by decide) kw_1369 rfl rfl dX11_ofDuty_1 ?_
  refine lv_iload_n hx hb dX11_ofDuty_4 rfl (lv_at hl 1 rfl) ?_
  refine lv_iload_n hx hb dX11_ofDuty_5 rfl (lv_at hl 2 rfl) ?_
  obtain ⟨u_1, qu_1, h⟩ := zbn_some h
  refine zciR (zrunS E hZ v_X11_dutyAt kw_1585 (c_X11_dutyAt l g M  x1 x2 qu_1 _) rfl hl.1 rfl (Nat.le_of_ble_eq_true rfl) ⟨by decide, by decide⟩ ⟨by decide, by decide⟩ dX11_ofDuty_6) hZ (fun H locs hZ => ?_)
  refine zia h E hZ (by decide) re_1 dX11_ofDuty_9 (fun h => ?_)
  exact hret _ _ _ _ _ _ ⟨Option.some.inj h, hM⟩ rfl hZ dX11_ofDuty_10
theorem c_X11_ofDuty (l : Launch) (g : zG) (M : zM)  (x1 : Int32) (x2 : Int32) {r : Int32} (h : f_X11_ofDuty M x1 x2 = some r) : zMi l g rE 15 yX11_ofDuty (zWs yX11_ofDuty cX11_ofDuty 3 (some .int)) 3 [.ref (g.2.2 0), .int x1, .int x2] M (fun v M1 => v = r ∧ M1 = M) :=
  zMi_of (by decide +kernel) (Nat.le_of_ble_eq_true rfl) (fun p e s m args below meth c Q ls E hret hZ hl => w_X11_ofDuty g  E hret M rfl x1 x2 _ _ ls h hZ hl)
theorem v_X11_ofDuty : zYV yX11_ofDuty cX11_ofDuty 3 (some .int) 2 := ⟨kw_1792, kw_15, kw_1791, kp_86, by decide +kernel⟩

def f_X11_isKept (M : zM) (x1 : Int32) : Option (Int32) :=
  zbn (f_X11_ofDuty M x1 3) (fun u_1 => if u_1 = 1 then (some 1) else (some 0))
set_option maxRecDepth 100000 in
set_option maxHeartbeats 4000000 in
theorem w_X11_isKept (g : zG)  {r : Int32} {M0 : zM} (E : zX g p m c cX11_isKept 2 s args (zWs yX11_isKept cX11_isKept 2 (some .boolean)) RX11) (hret : zRi g rE 15 p l e (zrm 4 0 0) s m args below meth c 0 0 Q cX11_isKept .boolean (fun v M1 => v = r ∧ M1 = M0)) (M : zM) (hM : M = M0) (x1 : Int32) (H : Heap) (locs : List Loc) (ls : Array Slot) (h : f_X11_isKept M x1 = some r) (hZ : zS g rE 15 s H locs M) (hl : lv_has ls 2 [(0, .ref (g.2.2 0)), (1, .int x1)]) : W p l e (zrm 4 0 0) s m args below meth c H locs 0 0 Q (F0 m 0 ls []) := by
  have hx := E.1.1
  have hb := E.1.2.1
  unfold f_X11_isKept at h
  refine lv_aload_n hx hb dX11_isKept_0 rfl (lv_at hl 0 rfl) ?_
  refine lv_iload_n hx hb dX11_isKept_1 rfl (lv_at hl 1 rfl) ?_
  refine lv_iconst (v := 3) hx hb dX11_isKept_2 (by decide) ?_
  obtain ⟨u_1, qu_1, h⟩ := zbn_some h
  refine zciR (zrunV E hZ (by decide) (re_0 _) rfl rfl v_X11_ofDuty kw_1789 (c_X11_ofDuty l g M  x1 3 qu_1 _) rfl hl.1 rfl (Nat.le_of_ble_eq_true rfl) ⟨by decide, by decide⟩ ⟨by decide, by decide⟩ dX11_isKept_3) hZ (fun H locs hZ => ?_)
  refine lv_iconst (v := 1) hx hb dX11_isKept_6 (by decide) ?_
  refine zic_ne (tgt := 14) h E dX11_isKept_7 (by decide) (fun c_2 h => ?_) (fun c_2 h => ?_)
  · refine lv_iconst (v := 0) hx hb dX11_isKept_14 (by decide) ?_
    exact hret _ _ _ _ _ _ ⟨Option.some.inj h, hM⟩ rfl hZ dX11_isKept_15
  · refine lv_iconst (v := 1) hx hb dX11_isKept_10 (by decide) ?_
    refine lv_goto (tgt := 15) hx hb dX11_isKept_11 (by decide) ?_
    exact hret _ _ _ _ _ _ ⟨Option.some.inj h, hM⟩ rfl hZ dX11_isKept_15
theorem c_X11_isKept (l : Launch) (g : zG) (M : zM)  (x1 : Int32) {r : Int32} (h : f_X11_isKept M x1 = some r) : zMi l g rE 15 yX11_isKept (zWs yX11_isKept cX11_isKept 2 (some .boolean)) 4 [.ref (g.2.2 0), .int x1] M (fun v M1 => v = r ∧ M1 = M) :=
  zMi_of (by decide +kernel) (Nat.le_of_ble_eq_true rfl) (fun p e s m args below meth c Q ls E hret hZ hl => w_X11_isKept g  E hret M rfl x1 _ _ ls h hZ hl)
theorem v_X11_isKept : zYV yX11_isKept cX11_isKept 2 (some .boolean) 1 := ⟨kw_1831, kw_15, kw_1830, kp_89, by decide +kernel⟩

def f_X11_noMonk (M : zM) (x1 : Int32) : Option (Int32) :=
  zbn (f_X11_monks M ) (fun u_1 => zbn (f_X11_in M x1 0 (u_1 - 1)) (fun u_2 => if u_2 = 0 then (some 1) else (some 0)))
set_option maxRecDepth 100000 in
set_option maxHeartbeats 4000000 in
theorem w_X11_noMonk (g : zG)  {r : Int32} {M0 : zM} (E : zX g p m c cX11_noMonk 2 s args (zWs yX11_noMonk cX11_noMonk 2 (some .boolean)) RX11) (hret : zRi g rE 15 p l e (zrm 3 0 0) s m args below meth c 0 0 Q cX11_noMonk .boolean (fun v M1 => v = r ∧ M1 = M0)) (M : zM) (hM : M = M0) (x1 : Int32) (H : Heap) (locs : List Loc) (ls : Array Slot) (h : f_X11_noMonk M x1 = some r) (hZ : zS g rE 15 s H locs M) (hl : lv_has ls 2 [(0, .ref (g.2.2 0)), (1, .int x1)]) : W p l e (zrm 3 0 0) s m args below meth c H locs 0 0 Q (F0 m 0 ls []) := by
  have hx := E.1.1
  have hb := E.1.2.1
  unfold f_X11_noMonk at h
  refine lv_iload_n hx hb dX11_noMonk_0 rfl (lv_at hl 1 rfl) ?_
  refine lv_iconst (v := 0) hx hb dX11_noMonk_1 (by decide) ?_
  refine lv_aload_n hx hb dX11_noMonk_2 rfl (lv_at hl 0 rfl) ?_
  obtain ⟨u_1, qu_1, h⟩ := zbn_some h
  refine zciR (zrunV E hZ (by decide) (re_0 _) rfl rfl v_X11_monks kw_1562 (c_X11_monks l g M   qu_1 _) rfl hl.1 rfl (Nat.le_of_ble_eq_true rfl) ⟨by decide, by decide⟩ ⟨by decide, by decide⟩ dX11_noMonk_3) hZ (fun H locs hZ => ?_)
  refine lv_iconst (v := 1) hx hb dX11_noMonk_6 (by decide) ?_
  refine lv_isub hx hb dX11_noMonk_7 ?_
  obtain ⟨u_2, qu_2, h⟩ := zbn_some h
  refine zciR (zrunS E hZ v_X11_in kw_1666 (c_X11_in l g M  x1 0 (u_1 - 1) qu_2 _) rfl hl.1 rfl (Nat.le_of_ble_eq_true rfl) ⟨by decide, by decide⟩ ⟨by decide, by decide⟩ dX11_noMonk_8) hZ (fun H locs hZ => ?_)
  refine zif_ne (tgt := 18) h E dX11_noMonk_11 (by decide) (fun c_3 h => ?_) (fun c_3 h => ?_)
  · refine lv_iconst (v := 0) hx hb dX11_noMonk_18 (by decide) ?_
    exact hret _ _ _ _ _ _ ⟨Option.some.inj h, hM⟩ rfl hZ dX11_noMonk_19
  · refine lv_iconst (v := 1) hx hb dX11_noMonk_14 (by decide) ?_
    refine lv_goto (tgt := 19) hx hb dX11_noMonk_15 (by decide) ?_
    exact hret _ _ _ _ _ _ ⟨Option.some.inj h, hM⟩ rfl hZ dX11_noMonk_19
theorem c_X11_noMonk (l : Launch) (g : zG) (M : zM)  (x1 : Int32) {r : Int32} (h : f_X11_noMonk M x1 = some r) : zMi l g rE 15 yX11_noMonk (zWs yX11_noMonk cX11_noMonk 2 (some .boolean)) 3 [.ref (g.2.2 0), .int x1] M (fun v M1 => v = r ∧ M1 = M) :=
  zMi_of (by decide +kernel) (Nat.le_of_ble_eq_true rfl) (fun p e s m args below meth c Q ls E hret hZ hl => w_X11_noMonk g  E hret M rfl x1 _ _ ls h hZ hl)
theorem v_X11_noMonk : zYV yX11_noMonk cX11_noMonk 2 (some .boolean) 1 := ⟨kw_1748, kw_15, kw_1747, kp_76, by decide +kernel⟩

def f_X11_noDuty (M : zM) (x1 : Int32) : Option (Int32) :=
  zbn (f_X11_duties M ) (fun u_1 => zbn (f_X11_in M x1 0 (u_1 - 1)) (fun u_2 => if u_2 = 0 then (some 1) else (some 0)))
set_option maxRecDepth 100000 in
set_option maxHeartbeats 4000000 in
theorem w_X11_noDuty (g : zG)  {r : Int32} {M0 : zM} (E : zX g p m c cX11_noDuty 2 s args (zWs yX11_noDuty cX11_noDuty 2 (some .boolean)) RX11) (hret : zRi g rE 15 p l e (zrm 3 0 0) s m args below meth c 0 0 Q cX11_noDuty .boolean (fun v M1 => v = r ∧ M1 = M0)) (M : zM) (hM : M = M0) (x1 : Int32) (H : Heap) (locs : List Loc) (ls : Array Slot) (h : f_X11_noDuty M x1 = some r) (hZ : zS g rE 15 s H locs M) (hl : lv_has ls 2 [(0, .ref (g.2.2 0)), (1, .int x1)]) : W p l e (zrm 3 0 0) s m args below meth c H locs 0 0 Q (F0 m 0 ls []) := by
  have hx := E.1.1
  have hb := E.1.2.1
  unfold f_X11_noDuty at h
  refine lv_iload_n hx hb dX11_noDuty_0 rfl (lv_at hl 1 rfl) ?_
  refine lv_iconst (v := 0) hx hb dX11_noDuty_1 (by decide) ?_
  refine lv_aload_n hx hb dX11_noDuty_2 rfl (lv_at hl 0 rfl) ?_
  obtain ⟨u_1, qu_1, h⟩ := zbn_some h
  refine zciR (zrunV E hZ (by decide) (re_0 _) rfl rfl v_X11_duties kw_1580 (c_X11_duties l g M   qu_1 _) rfl hl.1 rfl (Nat.le_of_ble_eq_true rfl) ⟨by decide, by decide⟩ ⟨by decide, by decide⟩ dX11_noDuty_3) hZ (fun H locs hZ => ?_)
  refine lv_iconst (v := 1) hx hb dX11_noDuty_6 (by decide) ?_
  refine lv_isub hx hb dX11_noDuty_7 ?_
  obtain ⟨u_2, qu_2, h⟩ := zbn_some h
  refine zciR (zrunS E hZ v_X11_in kw_1666 (c_X11_in l g M  x1 0 (u_1 - 1) qu_2 _) rfl hl.1 rfl (Nat.le_of_ble_eq_true rfl) ⟨by decide, by decide⟩ ⟨by decide, by decide⟩ dX11_noDuty_8) hZ (fun H locs hZ => ?_)
  refine zif_ne (tgt := 18) h E dX11_noDuty_11 (by decide) (fun c_3 h => ?_) (fun c_3 h => ?_)
  · refine lv_iconst (v := 0) hx hb dX11_noDuty_18 (by decide) ?_
    exact hret _ _ _ _ _ _ ⟨Option.some.inj h, hM⟩ rfl hZ dX11_noDuty_19
  · refine lv_iconst (v := 1) hx hb dX11_noDuty_14 (by decide) ?_
    refine lv_goto (tgt := 19) hx hb dX11_noDuty_15 (by decide) ?_
    exact hret _ _ _ _ _ _ ⟨Option.some.inj h, hM⟩ rfl hZ dX11_noDuty_19
theorem c_X11_noDuty (l : Launch) (g : zG) (M : zM)  (x1 : Int32) {r : Int32} (h : f_X11_noDuty M x1 = some r) : zMi l g rE 15 yX11_noDuty (zWs yX11_noDuty cX11_noDuty 2 (some .boolean)) 3 [.ref (g.2.2 0), .int x1] M (fun v M1 => v = r ∧ M1 = M) :=
  zMi_of (by decide +kernel) (Nat.le_of_ble_eq_true rfl) (fun p e s m args below meth c Q ls E hret hZ hl => w_X11_noDuty g  E hret M rfl x1 _ _ ls h hZ hl)
theorem v_X11_noDuty : zYV yX11_noDuty cX11_noDuty 2 (some .boolean) 1 := ⟨kw_1788, kw_15, kw_1787, kp_85, by decide +kernel⟩

def f_X11_noPlace (M : zM) (x0 : Int32) : Option (Int32) :=
  zbn (f_X11_in M x0 0 11) (fun u_1 => if u_1 = 0 then (some 1) else (some 0))
set_option maxRecDepth 100000 in
set_option maxHeartbeats 4000000 in
theorem w_X11_noPlace (g : zG)  {r : Int32} {M0 : zM} (E : zX g p m c cX11_noPlace 1 s args (zWs yX11_noPlace cX11_noPlace 1 (some .boolean)) RX11) (hret : zRi g rE 15 p l e (zrm 3 0 0) s m args below meth c 0 0 Q cX11_noPlace .boolean (fun v M1 => v = r ∧ M1 = M0)) (M : zM) (hM : M = M0) (x0 : Int32) (H : Heap) (locs : List Loc) (ls : Array Slot) (h : f_X11_noPlace M x0 = some r) (hZ : zS g rE 15 s H locs M) (hl : lv_has ls 1 [(0, .int x0)]) : W p l e (zrm 3 0 0) s m args below meth c H locs 0 0 Q (F0 m 0 ls []) := by
  have hx := E.1.1
  have hb := E.1.2.1
  unfold f_X11_noPlace at h
  refine lv_iload_n hx hb dX11_noPlace_0 rfl (lv_at hl 0 rfl) ?_
  refine lv_iconst (v := 0) hx hb dX11_noPlace_1 (by decide) ?_
  refine lv_bipush (v := 11) hx hb dX11_noPlace_2 (by decide) ?_
  obtain ⟨u_1, qu_1, h⟩ := zbn_some h
  refine zciR (zrunS E hZ v_X11_in kw_1666 (c_X11_in l g M  x0 0 11 qu_1 _) rfl hl.1 rfl (Nat.le_of_ble_eq_true rfl) ⟨by decide, by decide⟩ ⟨by decide, by decide⟩ dX11_noPlace_4) hZ (fun H locs hZ => ?_)
  refine zif_ne (tgt := 14) h E dX11_noPlace_7 (by decide) (fun c_2 h => ?_) (fun c_2 h => ?_)
  · refine lv_iconst (v := 0) hx hb dX11_noPlace_14 (by decide) ?_
    exact hret _ _ _ _ _ _ ⟨Option.some.inj h, hM⟩ rfl hZ dX11_noPlace_15
  · refine lv_iconst (v := 1) hx hb dX11_noPlace_10 (by decide) ?_
    refine lv_goto (tgt := 15) hx hb dX11_noPlace_11 (by decide) ?_
    exact hret _ _ _ _ _ _ ⟨Option.some.inj h, hM⟩ rfl hZ dX11_noPlace_15
theorem c_X11_noPlace (l : Launch) (g : zG) (M : zM)  (x0 : Int32) {r : Int32} (h : f_X11_noPlace M x0 = some r) : zMi l g rE 15 yX11_noPlace (zWs yX11_noPlace cX11_noPlace 1 (some .boolean)) 3 [.int x0] M (fun v M1 => v = r ∧ M1 = M) :=
  zMi_of (by decide +kernel) (Nat.le_of_ble_eq_true rfl) (fun p e s m args below meth c Q ls E hret hZ hl => w_X11_noPlace g  E hret M rfl x0 _ _ ls h hZ hl)
theorem v_X11_noPlace : zYS yX11_noPlace cX11_noPlace 1 (some .boolean) 1 := ⟨kw_1665, kw_15, kw_1664, by decide +kernel⟩

def f_X11_noHour (M : zM) (x0 : Int32) : Option (Int32) :=
  zbn (f_X11_in M x0 0 9999) (fun u_1 => if u_1 = 0 then (some 1) else (some 0))
set_option maxRecDepth 100000 in
set_option maxHeartbeats 4000000 in
theorem w_X11_noHour (g : zG)  {r : Int32} {M0 : zM} (E : zX g p m c cX11_noHour 1 s args (zWs yX11_noHour cX11_noHour 1 (some .boolean)) RX11) (hret : zRi g rE 15 p l e (zrm 3 0 0) s m args below meth c 0 0 Q cX11_noHour .boolean (fun v M1 => v = r ∧ M1 = M0)) (M : zM) (hM : M = M0) (x0 : Int32) (H : Heap) (locs : List Loc) (ls : Array Slot) (h : f_X11_noHour M x0 = some r) (hZ : zS g rE 15 s H locs M) (hl : lv_has ls 1 [(0, .int x0)]) : W p l e (zrm 3 0 0) s m args below meth c H locs 0 0 Q (F0 m 0 ls []) := by
  have hx := E.1.1
  have hb := E.1.2.1
  unfold f_X11_noHour at h
  refine lv_iload_n hx hb dX11_noHour_0 rfl (lv_at hl 0 rfl) ?_
  refine lv_iconst (v := 0) hx hb dX11_noHour_1 (by decide) ?_
  refine lv_sipush (v := 9999) hx hb dX11_noHour_2 (by decide) ?_
  obtain ⟨u_1, qu_1, h⟩ := zbn_some h
  refine zciR (zrunS E hZ v_X11_in kw_1666 (c_X11_in l g M  x0 0 9999 qu_1 _) rfl hl.1 rfl (Nat.le_of_ble_eq_true rfl) ⟨by decide, by decide⟩ ⟨by decide, by decide⟩ dX11_noHour_5) hZ (fun H locs hZ => ?_)
  refine zif_ne (tgt := 15) h E dX11_noHour_8 (by decide) (fun c_2 h => ?_) (fun c_2 h => ?_)
  · refine lv_iconst (v := 0) hx hb dX11_noHour_15 (by decide) ?_
    exact hret _ _ _ _ _ _ ⟨Option.some.inj h, hM⟩ rfl hZ dX11_noHour_16
  · refine lv_iconst (v := 1) hx hb dX11_noHour_11 (by decide) ?_
    refine lv_goto (tgt := 16) hx hb dX11_noHour_12 (by decide) ?_
    exact hret _ _ _ _ _ _ ⟨Option.some.inj h, hM⟩ rfl hZ dX11_noHour_16
theorem c_X11_noHour (l : Launch) (g : zG) (M : zM)  (x0 : Int32) {r : Int32} (h : f_X11_noHour M x0 = some r) : zMi l g rE 15 yX11_noHour (zWs yX11_noHour cX11_noHour 1 (some .boolean)) 3 [.int x0] M (fun v M1 => v = r ∧ M1 = M) :=
  zMi_of (by decide +kernel) (Nat.le_of_ble_eq_true rfl) (fun p e s m args below meth c Q ls E hret hZ hl => w_X11_noHour g  E hret M rfl x0 _ _ ls h hZ hl)
theorem v_X11_noHour : zYS yX11_noHour cX11_noHour 1 (some .boolean) 1 := ⟨kw_1684, kw_15, kw_1683, by decide +kernel⟩

def f_X11_noTide (M : zM) (x0 : Int32) : Option (Int32) :=
  zbn (f_X11_in M x0 0 400) (fun u_1 => if u_1 = 0 then (some 1) else (some 0))
set_option maxRecDepth 100000 in
set_option maxHeartbeats 4000000 in
theorem w_X11_noTide (g : zG)  {r : Int32} {M0 : zM} (E : zX g p m c cX11_noTide 1 s args (zWs yX11_noTide cX11_noTide 1 (some .boolean)) RX11) (hret : zRi g rE 15 p l e (zrm 3 0 0) s m args below meth c 0 0 Q cX11_noTide .boolean (fun v M1 => v = r ∧ M1 = M0)) (M : zM) (hM : M = M0) (x0 : Int32) (H : Heap) (locs : List Loc) (ls : Array Slot) (h : f_X11_noTide M x0 = some r) (hZ : zS g rE 15 s H locs M) (hl : lv_has ls 1 [(0, .int x0)]) : W p l e (zrm 3 0 0) s m args below meth c H locs 0 0 Q (F0 m 0 ls []) := by
  have hx := E.1.1
  have hb := E.1.2.1
  unfold f_X11_noTide at h
  refine lv_iload_n hx hb dX11_noTide_0 rfl (lv_at hl 0 rfl) ?_
  refine lv_iconst (v := 0) hx hb dX11_noTide_1 (by decide) ?_
  refine lv_sipush (v := 400) hx hb dX11_noTide_2 (by decide) ?_
  obtain ⟨u_1, qu_1, h⟩ := zbn_some h
  refine zciR (zrunS E hZ v_X11_in kw_1666 (c_X11_in l g M  x0 0 400 qu_1 _) rfl hl.1 rfl (Nat.le_of_ble_eq_true rfl) ⟨by decide, by decide⟩ ⟨by decide, by decide⟩ dX11_noTide_5) hZ (fun H locs hZ => ?_)
  refine zif_ne (tgt := 15) h E dX11_noTide_8 (by decide) (fun c_2 h => ?_) (fun c_2 h => ?_)
  · refine lv_iconst (v := 0) hx hb dX11_noTide_15 (by decide) ?_
    exact hret _ _ _ _ _ _ ⟨Option.some.inj h, hM⟩ rfl hZ dX11_noTide_16
  · refine lv_iconst (v := 1) hx hb dX11_noTide_11 (by decide) ?_
    refine lv_goto (tgt := 16) hx hb dX11_noTide_12 (by decide) ?_
    exact hret _ _ _ _ _ _ ⟨Option.some.inj h, hM⟩ rfl hZ dX11_noTide_16
theorem c_X11_noTide (l : Launch) (g : zG) (M : zM)  (x0 : Int32) {r : Int32} (h : f_X11_noTide M x0 = some r) : zMi l g rE 15 yX11_noTide (zWs yX11_noTide cX11_noTide 1 (some .boolean)) 3 [.int x0] M (fun v M1 => v = r ∧ M1 = M) :=
  zMi_of (by decide +kernel) (Nat.le_of_ble_eq_true rfl) (fun p e s m args below meth c Q ls E hret hZ hl => w_X11_noTide g  E hret M rfl x0 _ _ ls h hZ hl)
theorem v_X11_noTide : zYS yX11_noTide cX11_noTide 1 (some .boolean) 1 := ⟨kw_1724, kw_15, kw_1723, by decide +kernel⟩

def f_X11_drawn (M : zM) (x1 : Int32) : Option (Int32 × zM) :=
  zck (zin 13 2030) (zck (zin 13 2030) (znm (zu M 1 (13 : Int32).toNatClampNeg ((1103515245 * (M 1 (13 : Int32).toNatClampNeg)) + 12345)) (fun M_1 => zck (zin 13 2030) (zck (decide (¬ (x1 : Int32) = 0)) (some ((((M_1 1 (13 : Int32).toNatClampNeg) >>> ((16 : Int32) &&& 31)) &&& 32767) - (((M_1 1 (13 : Int32).toNatClampNeg) >>> ((16 : Int32) &&& 31)) &&& 32767) / x1 * x1, M_1))))))
set_option maxRecDepth 100000 in
set_option maxHeartbeats 4000000 in
theorem w_X11_drawn (g : zG)  {r : Int32 × zM} (E : zX g p m c cX11_drawn 2 s args (zWs yX11_drawn cX11_drawn 2 (some .int)) RX11) (hret : zRi g rE 15 p l e (zrm 2 0 0) s m args below meth c 0 0 Q cX11_drawn .int (fun v M1 => r = (v, M1))) (M : zM) (x1 : Int32) (H : Heap) (locs : List Loc) (ls : Array Slot) (h : f_X11_drawn M x1 = some r) (hZ : zS g rE 15 s H locs M) (hl : lv_has ls 2 [(0, .ref (g.2.2 0)), (1, .int x1)]) : W p l e (zrm 2 0 0) s m args below meth c H locs 0 0 Q (F0 m 0 ls []) := by
  have hx := E.1.1
  have hb := E.1.2.1
  unfold f_X11_drawn at h
  refine lv_aload_n hx hb dX11_drawn_0 rfl (lv_at hl 0 rfl) ?_
  refine zg (v := .ref (g.2.2 1)) E hZ (by decide) (re_0 _) kc_X11 1 (by decide) kw_1369 rfl rfl dX11_drawn_1 ?_
  refine lv_bipush (v := 13) hx hb dX11_drawn_4 (by decide) ?_
  refine lv_ldc (v := 1103515245) hx hb E.1.2.2.2.1 (E.w kw_1857) dX11_drawn_6 ?_
  refine lv_aload_n hx hb dX11_drawn_8 rfl (lv_at hl 0 rfl) ?_
  refine zg (v := .ref (g.2.2 1)) E hZ (by decide) (re_0 _) kc_X11 1 (by decide) kw_1369 rfl rfl dX11_drawn_9 ?_
  refine lv_bipush (v := 13) hx hb dX11_drawn_12 (by decide) ?_
  refine zia h E hZ (by decide) re_1 dX11_drawn_14 (fun h => ?_)
  refine lv_imul hx hb dX11_drawn_15 ?_
  refine lv_sipush (v := 12345) hx hb dX11_drawn_16 (by decide) ?_
  refine lv_iadd hx hb dX11_drawn_19 ?_
  refine zis h E hZ (by decide) re_1 dX11_drawn_20 (fun M_1 H locs eM_1 h hZ => ?_)
  refine lv_aload_n hx hb dX11_drawn_21 rfl (lv_at hl 0 rfl) ?_
  refine zg (v := .ref (g.2.2 1)) E hZ (by decide) (re_0 _) kc_X11 1 (by decide) kw_1369 rfl rfl dX11_drawn_22 ?_
  refine lv_bipush (v := 13) hx hb dX11_drawn_25 (by decide) ?_
  refine zia h E hZ (by decide) re_1 dX11_drawn_27 (fun h => ?_)
  refine lv_bipush (v := 16) hx hb dX11_drawn_28 (by decide) ?_
  refine lv_ishr hx hb dX11_drawn_30 ?_
  refine lv_sipush (v := 32767) hx hb dX11_drawn_31 (by decide) ?_
  refine lv_iand hx hb dX11_drawn_34 ?_
  refine lv_iload_n hx hb dX11_drawn_35 rfl (lv_at hl 1 rfl) ?_
  refine zrem h E dX11_drawn_36 (fun h => ?_)
  exact hret _ _ _ _ _ _ (Option.some.inj h).symm rfl hZ dX11_drawn_37
theorem c_X11_drawn (l : Launch) (g : zG) (M : zM)  (x1 : Int32) {r : Int32 × zM} (h : f_X11_drawn M x1 = some r) : zMi l g rE 15 yX11_drawn (zWs yX11_drawn cX11_drawn 2 (some .int)) 2 [.ref (g.2.2 0), .int x1] M (fun v M1 => r = (v, M1)) :=
  zMi_of (by decide +kernel) (Nat.le_of_ble_eq_true rfl) (fun p e s m args below meth c Q ls E hret hZ hl => w_X11_drawn g  E hret M x1 _ _ ls h hZ hl)
theorem v_X11_drawn : zYV yX11_drawn cX11_drawn 2 (some .int) 1 := ⟨kw_1856, kw_15, kw_1855, kp_94, by decide +kernel⟩

def b_X11_feed_106  (M : zM) : Option (Int32 × zM) :=
  znm (zu M 0 9 ((M 0 9) + 20)) (fun M_1 => some (M_1 0 9, M_1))
set_option maxRecDepth 100000 in
set_option maxHeartbeats 4000000 in
theorem lb_X11_feed_106 (g : zG)  {r : Int32 × zM} (E : zX g p m c cX11_feed 7 s args (zWs yX11_feed cX11_feed 7 (some .int)) RX11) (hret : zRi g rE 15 p l e (zrm 2 0 0) s m args below meth c 0 0 Q cX11_feed .int (fun v M1 => r = (v, M1))) (M : zM)  (H : Heap) (locs : List Loc) (ls : Array Slot) (h : b_X11_feed_106  M = some r) (hZ : zS g rE 15 s H locs M) (hl : lv_has ls 7 [(0, .ref (g.2.2 0))]) : W p l e (zrm 2 0 0) s m args below meth c H locs 0 0 Q (F0 m 106 ls []) := by
  have hx := E.1.1
  have hb := E.1.2.1
  unfold b_X11_feed_106 at h
  refine lv_aload_n hx hb dX11_feed_106 rfl (lv_at hl 0 rfl) ?_
  refine lv_dup hx hb dX11_feed_107 rfl ?_
  refine zg (v := .int (M 0 9)) E hZ (by decide) (re_0 _) kc_X11 9 (by decide) kw_1377 rfl rfl dX11_feed_108 ?_
  refine lv_bipush (v := 20) hx hb dX11_feed_111 (by decide) ?_
  refine lv_iadd hx hb dX11_feed_113 ?_
  refine zp h E hZ (by decide) (re_0 _) ((re_0 _).trans (congrArg (fun z => Sum.inr (10, z)) (fs_X11_9 g _ _ _))) kc_X11 (by decide) kw_1377 rfl rfl rfl (Nat.le_of_ble_eq_true rfl) dX11_feed_114 (fun M_1 H locs eM_1 h hZ => ?_)
  refine lv_aload_n hx hb dX11_feed_117 rfl (lv_at hl 0 rfl) ?_
  refine zg (v := .int (M_1 0 9)) E hZ (by decide) (re_0 _) kc_X11 9 (by decide) kw_1377 rfl rfl dX11_feed_118 ?_
  exact hret _ _ _ _ _ _ (Option.some.inj h).symm rfl hZ dX11_feed_121
def b_X11_feed_60   : Nat → zM → Int32 → Option (Int32 × zM)
  | 0, _, _ => none
  | n + 1, M, x6 =>
    if 20 ≤ x6 then (b_X11_feed_106  M) else (zck (decide (¬ (4 : Int32) = 0)) (zck (zin (x6 / 4) 5) (zck (decide (¬ (4 : Int32) = 0)) (zck (zin ((M 0 9) + x6) 400) (znm (zu M 6 ((M 0 9) + x6 : Int32).toNatClampNeg (vp_nar .byte (((M 7 (x6 / 4 : Int32).toNatClampNeg) >>> ((24 - (8 * (x6 - x6 / 4 * 4))) &&& 31) : Int32).toInt8.toInt32))) (fun M_2 => znm (x6 + 1) (fun x6_3 => b_X11_feed_60   n M_2 x6_3)))))))
set_option maxRecDepth 100000 in
set_option maxHeartbeats 4000000 in
theorem lb_X11_feed_60 (g : zG)  {r : Int32 × zM} (E : zX g p m c cX11_feed 7 s args (zWs yX11_feed cX11_feed 7 (some .int)) RX11) (hret : zRi g rE 15 p l e (zrm 2 0 0) s m args below meth c 0 0 Q cX11_feed .int (fun v M1 => r = (v, M1)))   : ∀ (n : Nat) (M : zM) (x6 : Int32) (H : Heap) (locs : List Loc) (ls : Array Slot), b_X11_feed_60   n M x6 = some r → zS g rE 15 s H locs M → lv_has ls 7 [(0, .ref (g.2.2 0)), (6, .int x6)] → W p l e (zrm 2 0 0) s m args below meth c H locs 0 0 Q (F0 m 60 ls []) := by
  have hx := E.1.1
  have hb := E.1.2.1
  intro n
  induction n with
  | zero => intro M x6 H locs ls h hZ hl; cases h
  | succ n ih =>
    intro M x6 H locs ls h hZ hl
    rw [b_X11_feed_60] at h
    refine lv_iload hx hb dX11_feed_60 (lv_at hl 1 rfl) ?_
    refine lv_bipush (v := 20) hx hb dX11_feed_62 (by decide) ?_
    refine zic_ge (tgt := 106) h E dX11_feed_64 (by decide) (fun c_4 h => ?_) (fun c_4 h => ?_)
    · exact lb_X11_feed_106 g  E hret M  H locs ls h hZ (lv_sub hl [0] rfl)
    · refine lv_aload_n hx hb dX11_feed_67 rfl (lv_at hl 0 rfl) ?_
      refine zg (v := .ref (g.2.2 6)) E hZ (by decide) (re_0 _) kc_X11 8 (by decide) kw_1376 rfl rfl dX11_feed_68 ?_
      refine lv_aload_n hx hb dX11_feed_71 rfl (lv_at hl 0 rfl) ?_
      refine zg (v := .int (M 0 9)) E hZ (by decide) (re_0 _) kc_X11 9 (by decide) kw_1377 rfl rfl dX11_feed_72 ?_
      refine lv_iload hx hb dX11_feed_75 (lv_at hl 1 rfl) ?_
      refine lv_iadd hx hb dX11_feed_77 ?_
      refine lv_aload_n hx hb dX11_feed_78 rfl (lv_at hl 0 rfl) ?_
      refine zg (v := .ref (g.2.2 7)) E hZ (by decide) (re_0 _) kc_X11 15 (by decide) kw_1383 rfl rfl dX11_feed_79 ?_
      refine lv_iload hx hb dX11_feed_82 (lv_at hl 1 rfl) ?_
      refine lv_iconst (v := 4) hx hb dX11_feed_84 (by decide) ?_
      refine zdv h E dX11_feed_85 (fun h => ?_)
      refine zia h E hZ (by decide) re_7 dX11_feed_86 (fun h => ?_)
      refine lv_bipush (v := 24) hx hb dX11_feed_87 (by decide) ?_
      refine lv_bipush (v := 8) hx hb dX11_feed_89 (by decide) ?_
      refine lv_iload hx hb dX11_feed_91 (lv_at hl 1 rfl) ?_
      refine lv_iconst (v := 4) hx hb dX11_feed_93 (by decide) ?_
      refine zrem h E dX11_feed_94 (fun h => ?_)
      refine lv_imul hx hb dX11_feed_95 ?_
      refine lv_isub hx hb dX11_feed_96 ?_
      refine lv_ishr hx hb dX11_feed_97 ?_
      refine lv_i2b hx hb dX11_feed_98 rfl ?_
      refine zbs h E hZ (by decide) re_6 dX11_feed_99 (fun M_2 H locs eM_2 h hZ => ?_)
      obtain ⟨x6_3, ex6_3, h⟩ := znm_ex h
      refine lv_iinc (v := x6_3) (lv' := [(6, .int x6_3), (0, .ref (g.2.2 0))]) hx hb dX11_feed_100 hl (k := 1) rfl (by rw [ex6_3]; rfl) (by decide) rfl (fun ls hl => ?_)
      refine lv_goto (tgt := 60) hx hb dX11_feed_103 (by decide) ?_
      exact ih M_2 x6_3 H locs ls h hZ (lv_sub hl [1, 0] rfl)
def f_X11_feed (M : zM) (x1 : Int32) (x2 : Int32) (x3 : Int32) (x4 : Int32) (x5 : Int32) : Option (Int32 × zM) :=
  znm (zu M 0 0 0) (fun M_5 => if ((M_5 0 9) + 20) ≤ 400 then (zck (zin 0 5) (znm (zu M_5 7 (0 : Int32).toNatClampNeg x1) (fun M_6 => zck (zin 1 5) (znm (zu M_6 7 (1 : Int32).toNatClampNeg x2) (fun M_7 => zck (zin 2 5) (znm (zu M_7 7 (2 : Int32).toNatClampNeg x3) (fun M_8 => zck (zin 3 5) (znm (zu M_8 7 (3 : Int32).toNatClampNeg x4) (fun M_9 => zck (zin 4 5) (znm (zu M_9 7 (4 : Int32).toNatClampNeg x5) (fun M_10 => b_X11_feed_60   6000 M_10 0))))))))))) else (some ((-1), M_5)))
set_option maxRecDepth 100000 in
set_option maxHeartbeats 4000000 in
theorem w_X11_feed (g : zG)  {r : Int32 × zM} (E : zX g p m c cX11_feed 7 s args (zWs yX11_feed cX11_feed 7 (some .int)) RX11) (hret : zRi g rE 15 p l e (zrm 2 0 0) s m args below meth c 0 0 Q cX11_feed .int (fun v M1 => r = (v, M1))) (M : zM) (x1 : Int32) (x2 : Int32) (x3 : Int32) (x4 : Int32) (x5 : Int32) (H : Heap) (locs : List Loc) (ls : Array Slot) (h : f_X11_feed M x1 x2 x3 x4 x5 = some r) (hZ : zS g rE 15 s H locs M) (hl : lv_has ls 7 [(0, .ref (g.2.2 0)), (1, .int x1), (2, .int x2), (3, .int x3), (4, .int x4), (5, .int x5)]) : W p l e (zrm 2 0 0) s m args below meth c H locs 0 0 Q (F0 m 0 ls []) := by
  have hx := E.1.1
  have hb := E.1.2.1
  unfold f_X11_feed at h
  refine lv_aload_n hx hb dX11_feed_0 rfl (lv_at hl 0 rfl) ?_
  refine lv_iconst (v := 0) hx hb dX11_feed_1 (by decide) ?_
  refine zp h E hZ (by decide) (re_0 _) ((re_0 _).trans (congrArg (fun z => Sum.inr (10, z)) (fs_X11_0 g _ _ _))) kc_X11 (by decide) kw_1368 rfl rfl rfl (Nat.le_of_ble_eq_true rfl) dX11_feed_2 (fun M_5 H locs eM_5 h hZ => ?_)
  refine lv_aload_n hx hb dX11_feed_5 rfl (lv_at hl 0 rfl) ?_
  refine zg (v := .int (M_5 0 9)) E hZ (by decide) (re_0 _) kc_X11 9 (by decide) kw_1377 rfl rfl dX11_feed_6 ?_
  refine lv_bipush (v := 20) hx hb dX11_feed_9 (by decide) ?_
  refine lv_iadd hx hb dX11_feed_11 ?_
  refine lv_sipush (v := 400) hx hb dX11_feed_12 (by decide) ?_
  refine zic_le (tgt := 20) h E dX11_feed_15 (by decide) (fun c_11 h => ?_) (fun c_11 h => ?_)
  · refine lv_aload_n hx hb dX11_feed_20 rfl (lv_at hl 0 rfl) ?_
    refine zg (v := .ref (g.2.2 7)) E hZ (by decide) (re_0 _) kc_X11 15 (by decide) kw_1383 rfl rfl dX11_feed_21 ?_
    refine lv_iconst (v := 0) hx hb dX11_feed_24 (by decide) ?_
    refine lv_iload_n hx hb dX11_feed_25 rfl (lv_at hl 1 rfl) ?_
    refine zis h E hZ (by decide) re_7 dX11_feed_26 (fun M_6 H locs eM_6 h hZ => ?_)
    refine lv_aload_n hx hb dX11_feed_27 rfl (lv_at hl 0 rfl) ?_
    refine zg (v := .ref (g.2.2 7)) E hZ (by decide) (re_0 _) kc_X11 15 (by decide) kw_1383 rfl rfl dX11_feed_28 ?_
    refine lv_iconst (v := 1) hx hb dX11_feed_31 (by decide) ?_
    refine lv_iload_n hx hb dX11_feed_32 rfl (lv_at hl 2 rfl) ?_
    refine zis h E hZ (by decide) re_7 dX11_feed_33 (fun M_7 H locs eM_7 h hZ => ?_)
    refine lv_aload_n hx hb dX11_feed_34 rfl (lv_at hl 0 rfl) ?_
    refine zg (v := .ref (g.2.2 7)) E hZ (by decide) (re_0 _) kc_X11 15 (by decide) kw_1383 rfl rfl dX11_feed_35 ?_
    refine lv_iconst (v := 2) hx hb dX11_feed_38 (by decide) ?_
    refine lv_iload_n hx hb dX11_feed_39 rfl (lv_at hl 3 rfl) ?_
    refine zis h E hZ (by decide) re_7 dX11_feed_40 (fun M_8 H locs eM_8 h hZ => ?_)
    refine lv_aload_n hx hb dX11_feed_41 rfl (lv_at hl 0 rfl) ?_
    refine zg (v := .ref (g.2.2 7)) E hZ (by decide) (re_0 _) kc_X11 15 (by decide) kw_1383 rfl rfl dX11_feed_42 ?_
    refine lv_iconst (v := 3) hx hb dX11_feed_45 (by decide) ?_
    refine lv_iload hx hb dX11_feed_46 (lv_at hl 4 rfl) ?_
    refine zis h E hZ (by decide) re_7 dX11_feed_48 (fun M_9 H locs eM_9 h hZ => ?_)
    refine lv_aload_n hx hb dX11_feed_49 rfl (lv_at hl 0 rfl) ?_
    refine zg (v := .ref (g.2.2 7)) E hZ (by decide) (re_0 _) kc_X11 15 (by decide) kw_1383 rfl rfl dX11_feed_50 ?_
    refine lv_iconst (v := 4) hx hb dX11_feed_53 (by decide) ?_
    refine lv_iload hx hb dX11_feed_54 (lv_at hl 5 rfl) ?_
    refine zis h E hZ (by decide) re_7 dX11_feed_56 (fun M_10 H locs eM_10 h hZ => ?_)
    refine lv_iconst (v := 0) hx hb dX11_feed_57 (by decide) ?_
    refine lv_istore (lv' := [(6, .int 0), (0, .ref (g.2.2 0)), (1, .int x1), (2, .int x2), (3, .int x3), (4, .int x4), (5, .int x5)]) hx hb dX11_feed_58 hl (by decide) rfl (fun ls hl => ?_)
    exact lb_X11_feed_60 g  E hret   6000 M_10 0 H locs ls h hZ (lv_sub hl [1, 0] rfl)
  · refine lv_iconst (v := (-1)) hx hb dX11_feed_18 (by decide) ?_
    exact hret _ _ _ _ _ _ (Option.some.inj h).symm rfl hZ dX11_feed_19
theorem c_X11_feed (l : Launch) (g : zG) (M : zM)  (x1 : Int32) (x2 : Int32) (x3 : Int32) (x4 : Int32) (x5 : Int32) {r : Int32 × zM} (h : f_X11_feed M x1 x2 x3 x4 x5 = some r) : zMi l g rE 15 yX11_feed (zWs yX11_feed cX11_feed 7 (some .int)) 2 [.ref (g.2.2 0), .int x1, .int x2, .int x3, .int x4, .int x5] M (fun v M1 => r = (v, M1)) :=
  zMi_of (by decide +kernel) (Nat.le_of_ble_eq_true rfl) (fun p e s m args below meth c Q ls E hret hZ hl => w_X11_feed g  E hret M x1 x2 x3 x4 x5 _ _ ls h hZ hl)
theorem v_X11_feed : zYV yX11_feed cX11_feed 7 (some .int) 5 := ⟨kw_1459, kw_15, kw_1457, kw_1458, by decide +kernel⟩

def f_X11_end (M : zM) (x1 : Int32) : Option (Int32 × zM) :=
  znm (zu M 0 0 0) (fun M_1 => if x1 < 0 then (some (0, M_1)) else (if x1 ≤ (M_1 0 9) then (znm (zu M_1 0 9 x1) (fun M_2 => some (1, M_2))) else (some (0, M_1))))
set_option maxRecDepth 100000 in
set_option maxHeartbeats 4000000 in
theorem w_X11_end (g : zG)  {r : Int32 × zM} (E : zX g p m c cX11_end 2 s args (zWs yX11_end cX11_end 2 (some .boolean)) RX11) (hret : zRi g rE 15 p l e (zrm 2 0 0) s m args below meth c 0 0 Q cX11_end .boolean (fun v M1 => r = (v, M1))) (M : zM) (x1 : Int32) (H : Heap) (locs : List Loc) (ls : Array Slot) (h : f_X11_end M x1 = some r) (hZ : zS g rE 15 s H locs M) (hl : lv_has ls 2 [(0, .ref (g.2.2 0)), (1, .int x1)]) : W p l e (zrm 2 0 0) s m args below meth c H locs 0 0 Q (F0 m 0 ls []) := by
  have hx := E.1.1
  have hb := E.1.2.1
  unfold f_X11_end at h
  refine lv_aload_n hx hb dX11_end_0 rfl (lv_at hl 0 rfl) ?_
  refine lv_iconst (v := 0) hx hb dX11_end_1 (by decide) ?_
  refine zp h E hZ (by decide) (re_0 _) ((re_0 _).trans (congrArg (fun z => Sum.inr (10, z)) (fs_X11_0 g _ _ _))) kc_X11 (by decide) kw_1368 rfl rfl rfl (Nat.le_of_ble_eq_true rfl) dX11_end_2 (fun M_1 H locs eM_1 h hZ => ?_)
  refine lv_iload_n hx hb dX11_end_5 rfl (lv_at hl 1 rfl) ?_
  refine zif_lt (tgt := 17) h E dX11_end_6 (by decide) (fun c_4 h => ?_) (fun c_4 h => ?_)
  · refine lv_iconst (v := 0) hx hb dX11_end_17 (by decide) ?_
    exact hret _ _ _ _ _ _ (Option.some.inj h).symm rfl hZ dX11_end_18
  · refine lv_iload_n hx hb dX11_end_9 rfl (lv_at hl 1 rfl) ?_
    refine lv_aload_n hx hb dX11_end_10 rfl (lv_at hl 0 rfl) ?_
    refine zg (v := .int (M_1 0 9)) E hZ (by decide) (re_0 _) kc_X11 9 (by decide) kw_1377 rfl rfl dX11_end_11 ?_
    refine zic_le (tgt := 19) h E dX11_end_14 (by decide) (fun c_3 h => ?_) (fun c_3 h => ?_)
    · refine lv_aload_n hx hb dX11_end_19 rfl (lv_at hl 0 rfl) ?_
      refine lv_iload_n hx hb dX11_end_20 rfl (lv_at hl 1 rfl) ?_
      refine zp h E hZ (by decide) (re_0 _) ((re_0 _).trans (congrArg (fun z => Sum.inr (10, z)) (fs_X11_9 g _ _ _))) kc_X11 (by decide) kw_1377 rfl rfl rfl (Nat.le_of_ble_eq_true rfl) dX11_end_21 (fun M_2 H locs eM_2 h hZ => ?_)
      refine lv_iconst (v := 1) hx hb dX11_end_24 (by decide) ?_
      exact hret _ _ _ _ _ _ (Option.some.inj h).symm rfl hZ dX11_end_25
    · refine lv_iconst (v := 0) hx hb dX11_end_17 (by decide) ?_
      exact hret _ _ _ _ _ _ (Option.some.inj h).symm rfl hZ dX11_end_18
theorem c_X11_end (l : Launch) (g : zG) (M : zM)  (x1 : Int32) {r : Int32 × zM} (h : f_X11_end M x1 = some r) : zMi l g rE 15 yX11_end (zWs yX11_end cX11_end 2 (some .boolean)) 2 [.ref (g.2.2 0), .int x1] M (fun v M1 => r = (v, M1)) :=
  zMi_of (by decide +kernel) (Nat.le_of_ble_eq_true rfl) (fun p e s m args below meth c Q ls E hret hZ hl => w_X11_end g  E hret M x1 _ _ ls h hZ hl)
theorem v_X11_end : zYV yX11_end cX11_end 2 (some .boolean) 1 := ⟨kw_1463, kw_15, kw_1461, kw_1462, by decide +kernel⟩

def f_X11_isAt (M : zM) (x1 : Int32) (x2 : Int32) : Option (Int32) :=
  if (M 0 11) ≤ (M 0 10) then (some 0) else (zck (zin (M 0 10) 400) (if (M 6 (M 0 10 : Int32).toNatClampNeg) < x1 then (some 0) else (zck (zin (M 0 10) 400) (if x2 < (M 6 (M 0 10 : Int32).toNatClampNeg) then (some 0) else (some 1)))))
set_option maxRecDepth 100000 in
set_option maxHeartbeats 4000000 in
theorem w_X11_isAt (g : zG)  {r : Int32} {M0 : zM} (E : zX g p m c cX11_isAt 3 s args (zWs yX11_isAt cX11_isAt 3 (some .boolean)) RX11) (hret : zRi g rE 15 p l e (zrm 2 0 0) s m args below meth c 0 0 Q cX11_isAt .boolean (fun v M1 => v = r ∧ M1 = M0)) (M : zM) (hM : M = M0) (x1 : Int32) (x2 : Int32) (H : Heap) (locs : List Loc) (ls : Array Slot) (h : f_X11_isAt M x1 x2 = some r) (hZ : zS g rE 15 s H locs M) (hl : lv_has ls 3 [(0, .ref (g.2.2 0)), (1, .int x1), (2, .int x2)]) : W p l e (zrm 2 0 0) s m args below meth c H locs 0 0 Q (F0 m 0 ls []) := by
  have hx := E.1.1
  have hb := E.1.2.1
  unfold f_X11_isAt at h
  refine lv_aload_n hx hb dX11_isAt_0 rfl (lv_at hl 0 rfl) ?_
  refine zg (v := .int (M 0 10)) E hZ (by decide) (re_0 _) kc_X11 10 (by decide) kw_1378 rfl rfl dX11_isAt_1 ?_
  refine lv_aload_n hx hb dX11_isAt_4 rfl (lv_at hl 0 rfl) ?_
  refine zg (v := .int (M 0 11)) E hZ (by decide) (re_0 _) kc_X11 11 (by decide) kw_1379 rfl rfl dX11_isAt_5 ?_
  refine zic_ge (tgt := 41) h E dX11_isAt_8 (by decide) (fun c_3 h => ?_) (fun c_3 h => ?_)
  · refine lv_iconst (v := 0) hx hb dX11_isAt_41 (by decide) ?_
    exact hret _ _ _ _ _ _ ⟨Option.some.inj h, hM⟩ rfl hZ dX11_isAt_42
  · refine lv_aload_n hx hb dX11_isAt_11 rfl (lv_at hl 0 rfl) ?_
    refine zg (v := .ref (g.2.2 6)) E hZ (by decide) (re_0 _) kc_X11 8 (by decide) kw_1376 rfl rfl dX11_isAt_12 ?_
    refine lv_aload_n hx hb dX11_isAt_15 rfl (lv_at hl 0 rfl) ?_
    refine zg (v := .int (M 0 10)) E hZ (by decide) (re_0 _) kc_X11 10 (by decide) kw_1378 rfl rfl dX11_isAt_16 ?_
    refine zba h E hZ (by decide) re_6 dX11_isAt_19 (fun h => ?_)
    refine lv_iload_n hx hb dX11_isAt_20 rfl (lv_at hl 1 rfl) ?_
    refine zic_lt (tgt := 41) h E dX11_isAt_21 (by decide) (fun c_2 h => ?_) (fun c_2 h => ?_)
    · refine lv_iconst (v := 0) hx hb dX11_isAt_41 (by decide) ?_
      exact hret _ _ _ _ _ _ ⟨Option.some.inj h, hM⟩ rfl hZ dX11_isAt_42
    · refine lv_aload_n hx hb dX11_isAt_24 rfl (lv_at hl 0 rfl) ?_
      refine zg (v := .ref (g.2.2 6)) E hZ (by decide) (re_0 _) kc_X11 8 (by decide) kw_1376 rfl rfl dX11_isAt_25 ?_
      refine lv_aload_n hx hb dX11_isAt_28 rfl (lv_at hl 0 rfl) ?_
      refine zg (v := .int (M 0 10)) E hZ (by decide) (re_0 _) kc_X11 10 (by decide) kw_1378 rfl rfl dX11_isAt_29 ?_
      refine zba h E hZ (by decide) re_6 dX11_isAt_32 (fun h => ?_)
      refine lv_iload_n hx hb dX11_isAt_33 rfl (lv_at hl 2 rfl) ?_
      refine zic_gt (tgt := 41) h E dX11_isAt_34 (by decide) (fun c_1 h => ?_) (fun c_1 h => ?_)
      · refine lv_iconst (v := 0) hx hb dX11_isAt_41 (by decide) ?_
        exact hret _ _ _ _ _ _ ⟨Option.some.inj h, hM⟩ rfl hZ dX11_isAt_42
      · refine lv_iconst (v := 1) hx hb dX11_isAt_37 (by decide) ?_
        refine lv_goto (tgt := 42) hx hb dX11_isAt_38 (by decide) ?_
        exact hret _ _ _ _ _ _ ⟨Option.some.inj h, hM⟩ rfl hZ dX11_isAt_42
theorem c_X11_isAt (l : Launch) (g : zG) (M : zM)  (x1 : Int32) (x2 : Int32) {r : Int32} (h : f_X11_isAt M x1 x2 = some r) : zMi l g rE 15 yX11_isAt (zWs yX11_isAt cX11_isAt 3 (some .boolean)) 2 [.ref (g.2.2 0), .int x1, .int x2] M (fun v M1 => v = r ∧ M1 = M) :=
  zMi_of (by decide +kernel) (Nat.le_of_ble_eq_true rfl) (fun p e s m args below meth c Q ls E hret hZ hl => w_X11_isAt g  E hret M rfl x1 x2 _ _ ls h hZ hl)
theorem v_X11_isAt : zYV yX11_isAt cX11_isAt 3 (some .boolean) 2 := ⟨kw_1487, kw_15, kw_1486, kp_43, by decide +kernel⟩

def b_X11_blanks_24  (M : zM) : Option (zM) :=
  znm (zu M 0 12 (M 0 10)) (fun M_1 => some M_1)
set_option maxRecDepth 100000 in
set_option maxHeartbeats 4000000 in
theorem lb_X11_blanks_24 (g : zG)  {r : zM} (E : zX g p m c cX11_blanks 1 s args (zWs yX11_blanks cX11_blanks 1 none) RX11) (hret : zRv g rE 15 p l e (zrm 3 0 0) s m args below meth c 0 0 Q cX11_blanks (fun M1 => M1 = r)) (M : zM)  (H : Heap) (locs : List Loc) (ls : Array Slot) (h : b_X11_blanks_24  M = some r) (hZ : zS g rE 15 s H locs M) (hl : lv_has ls 1 [(0, .ref (g.2.2 0))]) : W p l e (zrm 3 0 0) s m args below meth c H locs 0 0 Q (F0 m 24 ls []) := by
  have hx := E.1.1
  have hb := E.1.2.1
  unfold b_X11_blanks_24 at h
  refine lv_aload_n hx hb dX11_blanks_24 rfl (lv_at hl 0 rfl) ?_
  refine lv_aload_n hx hb dX11_blanks_25 rfl (lv_at hl 0 rfl) ?_
  refine zg (v := .int (M 0 10)) E hZ (by decide) (re_0 _) kc_X11 10 (by decide) kw_1378 rfl rfl dX11_blanks_26 ?_
  refine zp h E hZ (by decide) (re_0 _) ((re_0 _).trans (congrArg (fun z => Sum.inr (10, z)) (fs_X11_12 g _ _ _))) kc_X11 (by decide) kw_1380 rfl rfl rfl (Nat.le_of_ble_eq_true rfl) dX11_blanks_29 (fun M_1 H locs eM_1 h hZ => ?_)
  exact hret _ _ _ _ _ (Option.some.inj h) hZ dX11_blanks_32
def b_X11_blanks_0   : Nat → zM → Option (zM)
  | 0, _ => none
  | n + 1, M =>
    zbn (f_X11_isAt M 32 32) (fun u_2 => if u_2 = 0 then (b_X11_blanks_24  M) else (znm (zu M 0 10 ((M 0 10) + 1)) (fun M_3 => b_X11_blanks_0   n M_3)))
set_option maxRecDepth 100000 in
set_option maxHeartbeats 4000000 in
theorem lb_X11_blanks_0 (g : zG)  {r : zM} (E : zX g p m c cX11_blanks 1 s args (zWs yX11_blanks cX11_blanks 1 none) RX11) (hret : zRv g rE 15 p l e (zrm 3 0 0) s m args below meth c 0 0 Q cX11_blanks (fun M1 => M1 = r))   : ∀ (n : Nat) (M : zM) (H : Heap) (locs : List Loc) (ls : Array Slot), b_X11_blanks_0   n M = some r → zS g rE 15 s H locs M → lv_has ls 1 [(0, .ref (g.2.2 0))] → W p l e (zrm 3 0 0) s m args below meth c H locs 0 0 Q (F0 m 0 ls []) := by
  have hx := E.1.1
  have hb := E.1.2.1
  intro n
  induction n with
  | zero => intro M H locs ls h hZ hl; cases h
  | succ n ih =>
    intro M H locs ls h hZ hl
    rw [b_X11_blanks_0] at h
    refine lv_aload_n hx hb dX11_blanks_0 rfl (lv_at hl 0 rfl) ?_
    refine lv_bipush (v := 32) hx hb dX11_blanks_1 (by decide) ?_
    refine lv_bipush (v := 32) hx hb dX11_blanks_3 (by decide) ?_
    obtain ⟨u_2, qu_2, h⟩ := zbn_some h
    refine zciR (zrunV E hZ (by decide) (re_0 _) rfl rfl v_X11_isAt kw_1484 (c_X11_isAt l g M  32 32 qu_2 _) rfl hl.1 rfl (Nat.le_of_ble_eq_true rfl) ⟨by decide, by decide⟩ ⟨by decide, by decide⟩ dX11_blanks_5) hZ (fun H locs hZ => ?_)
    refine zif_eq (tgt := 24) h E dX11_blanks_8 (by decide) (fun c_4 h => ?_) (fun c_4 h => ?_)
    · exact lb_X11_blanks_24 g  E hret M  H locs ls h hZ (lv_sub hl [0] rfl)
    · refine lv_aload_n hx hb dX11_blanks_11 rfl (lv_at hl 0 rfl) ?_
      refine lv_dup hx hb dX11_blanks_12 rfl ?_
      refine zg (v := .int (M 0 10)) E hZ (by decide) (re_0 _) kc_X11 10 (by decide) kw_1378 rfl rfl dX11_blanks_13 ?_
      refine lv_iconst (v := 1) hx hb dX11_blanks_16 (by decide) ?_
      refine lv_iadd hx hb dX11_blanks_17 ?_
      refine zp h E hZ (by decide) (re_0 _) ((re_0 _).trans (congrArg (fun z => Sum.inr (10, z)) (fs_X11_10 g _ _ _))) kc_X11 (by decide) kw_1378 rfl rfl rfl (Nat.le_of_ble_eq_true rfl) dX11_blanks_18 (fun M_3 H locs eM_3 h hZ => ?_)
      refine lv_goto (tgt := 0) hx hb dX11_blanks_21 (by decide) ?_
      exact ih M_3 H locs ls h hZ (lv_sub hl [0] rfl)
def f_X11_blanks (M : zM)  : Option (zM) :=
  b_X11_blanks_0   6000 M
set_option maxRecDepth 100000 in
set_option maxHeartbeats 4000000 in
theorem w_X11_blanks (g : zG)  {r : zM} (E : zX g p m c cX11_blanks 1 s args (zWs yX11_blanks cX11_blanks 1 none) RX11) (hret : zRv g rE 15 p l e (zrm 3 0 0) s m args below meth c 0 0 Q cX11_blanks (fun M1 => M1 = r)) (M : zM)  (H : Heap) (locs : List Loc) (ls : Array Slot) (h : f_X11_blanks M  = some r) (hZ : zS g rE 15 s H locs M) (hl : lv_has ls 1 [(0, .ref (g.2.2 0))]) : W p l e (zrm 3 0 0) s m args below meth c H locs 0 0 Q (F0 m 0 ls []) := by
  have hx := E.1.1
  have hb := E.1.2.1
  unfold f_X11_blanks at h
  exact lb_X11_blanks_0 g  E hret   6000 M H locs ls h hZ (lv_sub hl [0] rfl)
theorem c_X11_blanks (l : Launch) (g : zG) (M : zM)   {r : zM} (h : f_X11_blanks M  = some r) : zMv l g rE 15 yX11_blanks (zWs yX11_blanks cX11_blanks 1 none) 3 [.ref (g.2.2 0)] M (fun M1 => M1 = r) :=
  zMv_of (by decide +kernel) (Nat.le_of_ble_eq_true rfl) (fun p e s m args below meth c Q ls E hret hZ hl => w_X11_blanks g  E hret M  _ _ ls h hZ hl)
theorem v_X11_blanks : zYV yX11_blanks cX11_blanks 1 none 0 := ⟨kw_1483, kw_15, kw_1482, kp_42, by decide +kernel⟩

def b_X11_letters_4   : Nat → zM → Option (zM)
  | 0, _ => none
  | n + 1, M =>
    zbn (f_X11_isAt M 97 122) (fun u_1 => if u_1 = 0 then (some M) else (znm (zu M 0 10 ((M 0 10) + 1)) (fun M_2 => b_X11_letters_4   n M_2)))
set_option maxRecDepth 100000 in
set_option maxHeartbeats 4000000 in
theorem lb_X11_letters_4 (g : zG)  {r : zM} (E : zX g p m c cX11_letters 1 s args (zWs yX11_letters cX11_letters 1 none) RX11) (hret : zRv g rE 15 p l e (zrm 4 0 0) s m args below meth c 0 0 Q cX11_letters (fun M1 => M1 = r))   : ∀ (n : Nat) (M : zM) (H : Heap) (locs : List Loc) (ls : Array Slot), b_X11_letters_4   n M = some r → zS g rE 15 s H locs M → lv_has ls 1 [(0, .ref (g.2.2 0))] → W p l e (zrm 4 0 0) s m args below meth c H locs 0 0 Q (F0 m 4 ls []) := by
  have hx := E.1.1
  have hb := E.1.2.1
  intro n
  induction n with
  | zero => intro M H locs ls h hZ hl; cases h
  | succ n ih =>
    intro M H locs ls h hZ hl
    rw [b_X11_letters_4] at h
    refine lv_aload_n hx hb dX11_letters_4 rfl (lv_at hl 0 rfl) ?_
    refine lv_bipush (v := 97) hx hb dX11_letters_5 (by decide) ?_
    refine lv_bipush (v := 122) hx hb dX11_letters_7 (by decide) ?_
    obtain ⟨u_1, qu_1, h⟩ := zbn_some h
    refine zciR (zrunV E hZ (by decide) (re_0 _) rfl rfl v_X11_isAt kw_1484 (c_X11_isAt l g M  97 122 qu_1 _) rfl hl.1 rfl (Nat.le_of_ble_eq_true rfl) ⟨by decide, by decide⟩ ⟨by decide, by decide⟩ dX11_letters_9) hZ (fun H locs hZ => ?_)
    refine zif_eq (tgt := 28) h E dX11_letters_12 (by decide) (fun c_3 h => ?_) (fun c_3 h => ?_)
    · exact hret _ _ _ _ _ (Option.some.inj h) hZ dX11_letters_28
    · refine lv_aload_n hx hb dX11_letters_15 rfl (lv_at hl 0 rfl) ?_
      refine lv_dup hx hb dX11_letters_16 rfl ?_
      refine zg (v := .int (M 0 10)) E hZ (by decide) (re_0 _) kc_X11 10 (by decide) kw_1378 rfl rfl dX11_letters_17 ?_
      refine lv_iconst (v := 1) hx hb dX11_letters_20 (by decide) ?_
      refine lv_iadd hx hb dX11_letters_21 ?_
      refine zp h E hZ (by decide) (re_0 _) ((re_0 _).trans (congrArg (fun z => Sum.inr (10, z)) (fs_X11_10 g _ _ _))) kc_X11 (by decide) kw_1378 rfl rfl rfl (Nat.le_of_ble_eq_true rfl) dX11_letters_22 (fun M_2 H locs eM_2 h hZ => ?_)
      refine lv_goto (tgt := 4) hx hb dX11_letters_25 (by decide) ?_
      exact ih M_2 H locs ls h hZ (lv_sub hl [0] rfl)
def f_X11_letters (M : zM)  : Option (zM) :=
  zbn (f_X11_blanks M ) (fun u_4 => b_X11_letters_4   6000 u_4)
set_option maxRecDepth 100000 in
set_option maxHeartbeats 4000000 in
theorem w_X11_letters (g : zG)  {r : zM} (E : zX g p m c cX11_letters 1 s args (zWs yX11_letters cX11_letters 1 none) RX11) (hret : zRv g rE 15 p l e (zrm 4 0 0) s m args below meth c 0 0 Q cX11_letters (fun M1 => M1 = r)) (M : zM)  (H : Heap) (locs : List Loc) (ls : Array Slot) (h : f_X11_letters M  = some r) (hZ : zS g rE 15 s H locs M) (hl : lv_has ls 1 [(0, .ref (g.2.2 0))]) : W p l e (zrm 4 0 0) s m args below meth c H locs 0 0 Q (F0 m 0 ls []) := by
  have hx := E.1.1
  have hb := E.1.2.1
  unfold f_X11_letters at h
  refine lv_aload_n hx hb dX11_letters_0 rfl (lv_at hl 0 rfl) ?_
  obtain ⟨u_4, qu_4, h⟩ := zbn_some h
  refine zcvS (zrunV E hZ (by decide) (re_0 _) rfl rfl v_X11_blanks kw_1480 (c_X11_blanks l g M   qu_4 _) rfl hl.1 rfl (Nat.le_of_ble_eq_true rfl) ⟨by decide, by decide⟩ ⟨by decide, by decide⟩ dX11_letters_1) hZ (fun H locs hZ => ?_)
  exact lb_X11_letters_4 g  E hret   6000 u_4 H locs ls h hZ (lv_sub hl [0] rfl)
theorem c_X11_letters (l : Launch) (g : zG) (M : zM)   {r : zM} (h : f_X11_letters M  = some r) : zMv l g rE 15 yX11_letters (zWs yX11_letters cX11_letters 1 none) 4 [.ref (g.2.2 0)] M (fun M1 => M1 = r) :=
  zMv_of (by decide +kernel) (Nat.le_of_ble_eq_true rfl) (fun p e s m args below meth c Q ls E hret hZ hl => w_X11_letters g  E hret M  _ _ ls h hZ hl)
theorem v_X11_letters : zYV yX11_letters cX11_letters 1 none 0 := ⟨kw_1495, kw_15, kw_1494, kp_45, by decide +kernel⟩

def f_X11_sign (M : zM) (x1 : Int32) : Option (Int32 × zM) :=
  zbn (f_X11_blanks M ) (fun u_1 => zbn (f_X11_isAt u_1 x1 x1) (fun u_2 => if u_2 = 0 then (some (0, u_1)) else (znm (zu u_1 0 10 ((u_1 0 10) + 1)) (fun M_3 => some (1, M_3)))))
set_option maxRecDepth 100000 in
set_option maxHeartbeats 4000000 in
theorem w_X11_sign (g : zG)  {r : Int32 × zM} (E : zX g p m c cX11_sign 2 s args (zWs yX11_sign cX11_sign 2 (some .boolean)) RX11) (hret : zRi g rE 15 p l e (zrm 4 0 0) s m args below meth c 0 0 Q cX11_sign .boolean (fun v M1 => r = (v, M1))) (M : zM) (x1 : Int32) (H : Heap) (locs : List Loc) (ls : Array Slot) (h : f_X11_sign M x1 = some r) (hZ : zS g rE 15 s H locs M) (hl : lv_has ls 2 [(0, .ref (g.2.2 0)), (1, .int x1)]) : W p l e (zrm 4 0 0) s m args below meth c H locs 0 0 Q (F0 m 0 ls []) := by
  have hx := E.1.1
  have hb := E.1.2.1
  unfold f_X11_sign at h
  refine lv_aload_n hx hb dX11_sign_0 rfl (lv_at hl 0 rfl) ?_
  obtain ⟨u_1, qu_1, h⟩ := zbn_some h
  refine zcvS (zrunV E hZ (by decide) (re_0 _) rfl rfl v_X11_blanks kw_1480 (c_X11_blanks l g M   qu_1 _) rfl hl.1 rfl (Nat.le_of_ble_eq_true rfl) ⟨by decide, by decide⟩ ⟨by decide, by decide⟩ dX11_sign_1) hZ (fun H locs hZ => ?_)
  refine lv_aload_n hx hb dX11_sign_4 rfl (lv_at hl 0 rfl) ?_
  refine lv_iload_n hx hb dX11_sign_5 rfl (lv_at hl 1 rfl) ?_
  refine lv_iload_n hx hb dX11_sign_6 rfl (lv_at hl 1 rfl) ?_
  obtain ⟨u_2, qu_2, h⟩ := zbn_some h
  refine zciR (zrunV E hZ (by decide) (re_0 _) rfl rfl v_X11_isAt kw_1484 (c_X11_isAt l g u_1  x1 x1 qu_2 _) rfl hl.1 rfl (Nat.le_of_ble_eq_true rfl) ⟨by decide, by decide⟩ ⟨by decide, by decide⟩ dX11_sign_7) hZ (fun H locs hZ => ?_)
  refine zif_ne (tgt := 15) h E dX11_sign_10 (by decide) (fun c_4 h => ?_) (fun c_4 h => ?_)
  · refine lv_aload_n hx hb dX11_sign_15 rfl (lv_at hl 0 rfl) ?_
    refine lv_dup hx hb dX11_sign_16 rfl ?_
    refine zg (v := .int (u_1 0 10)) E hZ (by decide) (re_0 _) kc_X11 10 (by decide) kw_1378 rfl rfl dX11_sign_17 ?_
    refine lv_iconst (v := 1) hx hb dX11_sign_20 (by decide) ?_
    refine lv_iadd hx hb dX11_sign_21 ?_
    refine zp h E hZ (by decide) (re_0 _) ((re_0 _).trans (congrArg (fun z => Sum.inr (10, z)) (fs_X11_10 g _ _ _))) kc_X11 (by decide) kw_1378 rfl rfl rfl (Nat.le_of_ble_eq_true rfl) dX11_sign_22 (fun M_3 H locs eM_3 h hZ => ?_)
    refine lv_iconst (v := 1) hx hb dX11_sign_25 (by decide) ?_
    exact hret _ _ _ _ _ _ (Option.some.inj h).symm rfl hZ dX11_sign_26
  · refine lv_iconst (v := 0) hx hb dX11_sign_13 (by decide) ?_
    exact hret _ _ _ _ _ _ (Option.some.inj h).symm rfl hZ dX11_sign_14
theorem c_X11_sign (l : Launch) (g : zG) (M : zM)  (x1 : Int32) {r : Int32 × zM} (h : f_X11_sign M x1 = some r) : zMi l g rE 15 yX11_sign (zWs yX11_sign cX11_sign 2 (some .boolean)) 4 [.ref (g.2.2 0), .int x1] M (fun v M1 => r = (v, M1)) :=
  zMi_of (by decide +kernel) (Nat.le_of_ble_eq_true rfl) (fun p e s m args below meth c Q ls E hret hZ hl => w_X11_sign g  E hret M x1 _ _ ls h hZ hl)
theorem v_X11_sign : zYV yX11_sign cX11_sign 2 (some .boolean) 1 := ⟨kw_1624, kw_15, kw_1623, kp_64, by decide +kernel⟩

def b_X11_number_65  (M : zM) (x1 : Int32) (x2 : Int32) (x3 : Int32) : Option (Int32 × zM) :=
  if (M 0 10) = (M 0 12) then (some ((-1), M)) else (if 3 < ((M 0 10) - (M 0 12)) then (some ((-1), M)) else (if x3 < x1 then (some ((-1), M)) else (if x3 ≤ x2 then (some (x3, M)) else (some ((-1), M)))))
set_option maxRecDepth 100000 in
set_option maxHeartbeats 4000000 in
theorem lb_X11_number_65 (g : zG)  {r : Int32 × zM} (E : zX g p m c cX11_number 4 s args (zWs yX11_number cX11_number 4 (some .int)) RX11) (hret : zRi g rE 15 p l e (zrm 4 0 0) s m args below meth c 0 0 Q cX11_number .int (fun v M1 => r = (v, M1))) (M : zM) (x1 : Int32) (x2 : Int32) (x3 : Int32)  (H : Heap) (locs : List Loc) (ls : Array Slot) (h : b_X11_number_65  M x1 x2 x3 = some r) (hZ : zS g rE 15 s H locs M) (hl : lv_has ls 4 [(0, .ref (g.2.2 0)), (1, .int x1), (2, .int x2), (3, .int x3)]) : W p l e (zrm 4 0 0) s m args below meth c H locs 0 0 Q (F0 m 65 ls []) := by
  have hx := E.1.1
  have hb := E.1.2.1
  unfold b_X11_number_65 at h
  refine lv_aload_n hx hb dX11_number_65 rfl (lv_at hl 0 rfl) ?_
  refine zg (v := .int (M 0 10)) E hZ (by decide) (re_0 _) kc_X11 10 (by decide) kw_1378 rfl rfl dX11_number_66 ?_
  refine lv_aload_n hx hb dX11_number_69 rfl (lv_at hl 0 rfl) ?_
  refine zg (v := .int (M 0 12)) E hZ (by decide) (re_0 _) kc_X11 12 (by decide) kw_1380 rfl rfl dX11_number_70 ?_
  refine zic_eq (tgt := 99) h E dX11_number_73 (by decide) (fun c_4 h => ?_) (fun c_4 h => ?_)
  · refine lv_iconst (v := (-1)) hx hb dX11_number_99 (by decide) ?_
    refine lv_goto (tgt := 104) hx hb dX11_number_100 (by decide) ?_
    exact hret _ _ _ _ _ _ (Option.some.inj h).symm rfl hZ dX11_number_104
  · refine lv_aload_n hx hb dX11_number_76 rfl (lv_at hl 0 rfl) ?_
    refine zg (v := .int (M 0 10)) E hZ (by decide) (re_0 _) kc_X11 10 (by decide) kw_1378 rfl rfl dX11_number_77 ?_
    refine lv_aload_n hx hb dX11_number_80 rfl (lv_at hl 0 rfl) ?_
    refine zg (v := .int (M 0 12)) E hZ (by decide) (re_0 _) kc_X11 12 (by decide) kw_1380 rfl rfl dX11_number_81 ?_
    refine lv_isub hx hb dX11_number_84 ?_
    refine lv_iconst (v := 3) hx hb dX11_number_85 (by decide) ?_
    refine zic_gt (tgt := 99) h E dX11_number_86 (by decide) (fun c_3 h => ?_) (fun c_3 h => ?_)
    · refine lv_iconst (v := (-1)) hx hb dX11_number_99 (by decide) ?_
      refine lv_goto (tgt := 104) hx hb dX11_number_100 (by decide) ?_
      exact hret _ _ _ _ _ _ (Option.some.inj h).symm rfl hZ dX11_number_104
    · refine lv_iload_n hx hb dX11_number_89 rfl (lv_at hl 3 rfl) ?_
      refine lv_iload_n hx hb dX11_number_90 rfl (lv_at hl 1 rfl) ?_
      refine zic_lt (tgt := 99) h E dX11_number_91 (by decide) (fun c_2 h => ?_) (fun c_2 h => ?_)
      · refine lv_iconst (v := (-1)) hx hb dX11_number_99 (by decide) ?_
        refine lv_goto (tgt := 104) hx hb dX11_number_100 (by decide) ?_
        exact hret _ _ _ _ _ _ (Option.some.inj h).symm rfl hZ dX11_number_104
      · refine lv_iload_n hx hb dX11_number_94 rfl (lv_at hl 3 rfl) ?_
        refine lv_iload_n hx hb dX11_number_95 rfl (lv_at hl 2 rfl) ?_
        refine zic_le (tgt := 103) h E dX11_number_96 (by decide) (fun c_1 h => ?_) (fun c_1 h => ?_)
        · refine lv_iload_n hx hb dX11_number_103 rfl (lv_at hl 3 rfl) ?_
          exact hret _ _ _ _ _ _ (Option.some.inj h).symm rfl hZ dX11_number_104
        · refine lv_iconst (v := (-1)) hx hb dX11_number_99 (by decide) ?_
          refine lv_goto (tgt := 104) hx hb dX11_number_100 (by decide) ?_
          exact hret _ _ _ _ _ _ (Option.some.inj h).symm rfl hZ dX11_number_104
def b_X11_number_51 (K6 : zM → Int32 → Option (Int32 × zM)) (M : zM) (x1 : Int32) (x2 : Int32) (t0 : Int32) : Option (Int32 × zM) :=
  znm (zu M 0 10 ((M 0 10) + 1)) (fun M_5 => K6 M_5 t0)
set_option maxRecDepth 100000 in
set_option maxHeartbeats 4000000 in
theorem lb_X11_number_51 (g : zG)  {r : Int32 × zM} (E : zX g p m c cX11_number 4 s args (zWs yX11_number cX11_number 4 (some .int)) RX11) (hret : zRi g rE 15 p l e (zrm 4 0 0) s m args below meth c 0 0 Q cX11_number .int (fun v M1 => r = (v, M1))) (M : zM) (x1 : Int32) (x2 : Int32) (t0 : Int32) (K6 : zM → Int32 → Option (Int32 × zM)) (hK6 : ∀ (M : zM) (x3 : Int32) (H : Heap) (locs : List Loc) (ls : Array Slot), K6 M x3 = some r → zS g rE 15 s H locs M → lv_has ls 4 [(0, .ref (g.2.2 0)), (1, .int x1), (2, .int x2), (3, .int x3)] → W p l e (zrm 4 0 0) s m args below meth c H locs 0 0 Q (F0 m 6 ls [])) (H : Heap) (locs : List Loc) (ls : Array Slot) (h : b_X11_number_51 K6 M x1 x2 t0 = some r) (hZ : zS g rE 15 s H locs M) (hl : lv_has ls 4 [(0, .ref (g.2.2 0)), (1, .int x1), (2, .int x2)]) : W p l e (zrm 4 0 0) s m args below meth c H locs 0 0 Q (F0 m 51 ls [.int t0]) := by
  have hx := E.1.1
  have hb := E.1.2.1
  unfold b_X11_number_51 at h
  refine lv_istore_n (lv' := [(3, .int t0), (0, .ref (g.2.2 0)), (1, .int x1), (2, .int x2)]) hx hb dX11_number_51 rfl hl (by decide) rfl (fun ls hl => ?_)
  refine lv_aload_n hx hb dX11_number_52 rfl (lv_at hl 1 rfl) ?_
  refine lv_dup hx hb dX11_number_53 rfl ?_
  refine zg (v := .int (M 0 10)) E hZ (by decide) (re_0 _) kc_X11 10 (by decide) kw_1378 rfl rfl dX11_number_54 ?_
  refine lv_iconst (v := 1) hx hb dX11_number_57 (by decide) ?_
  refine lv_iadd hx hb dX11_number_58 ?_
  refine zp h E hZ (by decide) (re_0 _) ((re_0 _).trans (congrArg (fun z => Sum.inr (10, z)) (fs_X11_10 g _ _ _))) kc_X11 (by decide) kw_1378 rfl rfl rfl (Nat.le_of_ble_eq_true rfl) dX11_number_59 (fun M_5 H locs eM_5 h hZ => ?_)
  refine lv_goto (tgt := 6) hx hb dX11_number_62 (by decide) ?_
  exact hK6 M_5 t0 H locs ls h hZ (lv_sub hl [1, 2, 3, 0] rfl)
def b_X11_number_6  (x1 : Int32) (x2 : Int32) : Nat → zM → Int32 → Option (Int32 × zM)
  | 0, _, _ => none
  | n + 1, M, x3 =>
    zbn (f_X11_isAt M 48 57) (fun u_6 => if u_6 = 0 then (b_X11_number_65  M x1 x2 x3) else (if 3 ≤ ((M 0 10) - (M 0 12)) then (b_X11_number_51 (fun M x3 => b_X11_number_6  x1 x2 n M x3) M x1 x2 x3) else (zck (zin (M 0 10) 400) (b_X11_number_51 (fun M x3 => b_X11_number_6  x1 x2 n M x3) M x1 x2 (((10 * x3) + (M 6 (M 0 10 : Int32).toNatClampNeg)) - 48)))))
set_option maxRecDepth 100000 in
set_option maxHeartbeats 4000000 in
theorem lb_X11_number_6 (g : zG)  {r : Int32 × zM} (E : zX g p m c cX11_number 4 s args (zWs yX11_number cX11_number 4 (some .int)) RX11) (hret : zRi g rE 15 p l e (zrm 4 0 0) s m args below meth c 0 0 Q cX11_number .int (fun v M1 => r = (v, M1))) (x1 : Int32) (x2 : Int32)  : ∀ (n : Nat) (M : zM) (x3 : Int32) (H : Heap) (locs : List Loc) (ls : Array Slot), b_X11_number_6  x1 x2 n M x3 = some r → zS g rE 15 s H locs M → lv_has ls 4 [(0, .ref (g.2.2 0)), (1, .int x1), (2, .int x2), (3, .int x3)] → W p l e (zrm 4 0 0) s m args below meth c H locs 0 0 Q (F0 m 6 ls []) := by
  have hx := E.1.1
  have hb := E.1.2.1
  intro n
  induction n with
  | zero => intro M x3 H locs ls h hZ hl; cases h
  | succ n ih =>
    intro M x3 H locs ls h hZ hl
    rw [b_X11_number_6] at h
    refine lv_aload_n hx hb dX11_number_6 rfl (lv_at hl 0 rfl) ?_
    refine lv_bipush (v := 48) hx hb dX11_number_7 (by decide) ?_
    refine lv_bipush (v := 57) hx hb dX11_number_9 (by decide) ?_
    obtain ⟨u_6, qu_6, h⟩ := zbn_some h
    refine zciR (zrunV E hZ (by decide) (re_0 _) rfl rfl v_X11_isAt kw_1484 (c_X11_isAt l g M  48 57 qu_6 _) rfl hl.1 rfl (Nat.le_of_ble_eq_true rfl) ⟨by decide, by decide⟩ ⟨by decide, by decide⟩ dX11_number_11) hZ (fun H locs hZ => ?_)
    refine zif_eq (tgt := 65) h E dX11_number_14 (by decide) (fun c_8 h => ?_) (fun c_8 h => ?_)
    · exact lb_X11_number_65 g  E hret M x1 x2 x3  H locs ls h hZ (lv_sub hl [0, 1, 2, 3] rfl)
    · refine lv_aload_n hx hb dX11_number_17 rfl (lv_at hl 0 rfl) ?_
      refine zg (v := .int (M 0 10)) E hZ (by decide) (re_0 _) kc_X11 10 (by decide) kw_1378 rfl rfl dX11_number_18 ?_
      refine lv_aload_n hx hb dX11_number_21 rfl (lv_at hl 0 rfl) ?_
      refine zg (v := .int (M 0 12)) E hZ (by decide) (re_0 _) kc_X11 12 (by decide) kw_1380 rfl rfl dX11_number_22 ?_
      refine lv_isub hx hb dX11_number_25 ?_
      refine lv_iconst (v := 3) hx hb dX11_number_26 (by decide) ?_
      refine zic_ge (tgt := 50) h E dX11_number_27 (by decide) (fun c_7 h => ?_) (fun c_7 h => ?_)
      · refine lv_iload_n hx hb dX11_number_50 rfl (lv_at hl 3 rfl) ?_
        exact lb_X11_number_51 g  E hret M x1 x2 x3 (fun M x3 => b_X11_number_6  x1 x2 n M x3) ih H locs ls h hZ (lv_sub hl [0, 1, 2] rfl)
      · refine lv_bipush (v := 10) hx hb dX11_number_30 (by decide) ?_
        refine lv_iload_n hx hb dX11_number_32 rfl (lv_at hl 3 rfl) ?_
        refine lv_imul hx hb dX11_number_33 ?_
        refine lv_aload_n hx hb dX11_number_34 rfl (lv_at hl 0 rfl) ?_
        refine zg (v := .ref (g.2.2 6)) E hZ (by decide) (re_0 _) kc_X11 8 (by decide) kw_1376 rfl rfl dX11_number_35 ?_
        refine lv_aload_n hx hb dX11_number_38 rfl (lv_at hl 0 rfl) ?_
        refine zg (v := .int (M 0 10)) E hZ (by decide) (re_0 _) kc_X11 10 (by decide) kw_1378 rfl rfl dX11_number_39 ?_
        refine zba h E hZ (by decide) re_6 dX11_number_42 (fun h => ?_)
        refine lv_iadd hx hb dX11_number_43 ?_
        refine lv_bipush (v := 48) hx hb dX11_number_44 (by decide) ?_
        refine lv_isub hx hb dX11_number_46 ?_
        refine lv_goto (tgt := 51) hx hb dX11_number_47 (by decide) ?_
        exact lb_X11_number_51 g  E hret M x1 x2 (((10 * x3) + (M 6 (M 0 10 : Int32).toNatClampNeg)) - 48) (fun M x3 => b_X11_number_6  x1 x2 n M x3) ih H locs ls h hZ (lv_sub hl [0, 1, 2] rfl)
def f_X11_number (M : zM) (x1 : Int32) (x2 : Int32) : Option (Int32 × zM) :=
  zbn (f_X11_blanks M ) (fun u_9 => b_X11_number_6  x1 x2 6000 u_9 0)
set_option maxRecDepth 100000 in
set_option maxHeartbeats 4000000 in
theorem w_X11_number (g : zG)  {r : Int32 × zM} (E : zX g p m c cX11_number 4 s args (zWs yX11_number cX11_number 4 (some .int)) RX11) (hret : zRi g rE 15 p l e (zrm 4 0 0) s m args below meth c 0 0 Q cX11_number .int (fun v M1 => r = (v, M1))) (M : zM) (x1 : Int32) (x2 : Int32) (H : Heap) (locs : List Loc) (ls : Array Slot) (h : f_X11_number M x1 x2 = some r) (hZ : zS g rE 15 s H locs M) (hl : lv_has ls 4 [(0, .ref (g.2.2 0)), (1, .int x1), (2, .int x2)]) : W p l e (zrm 4 0 0) s m args below meth c H locs 0 0 Q (F0 m 0 ls []) := by
  have hx := E.1.1
  have hb := E.1.2.1
  unfold f_X11_number at h
  refine lv_aload_n hx hb dX11_number_0 rfl (lv_at hl 0 rfl) ?_
  obtain ⟨u_9, qu_9, h⟩ := zbn_some h
  refine zcvS (zrunV E hZ (by decide) (re_0 _) rfl rfl v_X11_blanks kw_1480 (c_X11_blanks l g M   qu_9 _) rfl hl.1 rfl (Nat.le_of_ble_eq_true rfl) ⟨by decide, by decide⟩ ⟨by decide, by decide⟩ dX11_number_1) hZ (fun H locs hZ => ?_)
  refine lv_iconst (v := 0) hx hb dX11_number_4 (by decide) ?_
  refine lv_istore_n (lv' := [(3, .int 0), (0, .ref (g.2.2 0)), (1, .int x1), (2, .int x2)]) hx hb dX11_number_5 rfl hl (by decide) rfl (fun ls hl => ?_)
  exact lb_X11_number_6 g  E hret x1 x2  6000 u_9 0 H locs ls h hZ (lv_sub hl [1, 2, 3, 0] rfl)
theorem c_X11_number (l : Launch) (g : zG) (M : zM)  (x1 : Int32) (x2 : Int32) {r : Int32 × zM} (h : f_X11_number M x1 x2 = some r) : zMi l g rE 15 yX11_number (zWs yX11_number cX11_number 4 (some .int)) 4 [.ref (g.2.2 0), .int x1, .int x2] M (fun v M1 => r = (v, M1)) :=
  zMi_of (by decide +kernel) (Nat.le_of_ble_eq_true rfl) (fun p e s m args below meth c Q ls E hret hZ hl => w_X11_number g  E hret M x1 x2 _ _ ls h hZ hl)
theorem v_X11_number : zYV yX11_number cX11_number 4 (some .int) 2 := ⟨kw_1540, kw_15, kw_1539, kp_49, by decide +kernel⟩

def f_X11_fault (M : zM)  : Option (Int32 × zM) :=
  znm (zu M 0 0 0) (fun M_1 => some (M_1 0 14, M_1))
set_option maxRecDepth 100000 in
set_option maxHeartbeats 4000000 in
theorem w_X11_fault (g : zG)  {r : Int32 × zM} (E : zX g p m c cX11_fault 1 s args (zWs yX11_fault cX11_fault 1 (some .int)) RX11) (hret : zRi g rE 15 p l e (zrm 2 0 0) s m args below meth c 0 0 Q cX11_fault .int (fun v M1 => r = (v, M1))) (M : zM)  (H : Heap) (locs : List Loc) (ls : Array Slot) (h : f_X11_fault M  = some r) (hZ : zS g rE 15 s H locs M) (hl : lv_has ls 1 [(0, .ref (g.2.2 0))]) : W p l e (zrm 2 0 0) s m args below meth c H locs 0 0 Q (F0 m 0 ls []) := by
  have hx := E.1.1
  have hb := E.1.2.1
  unfold f_X11_fault at h
  refine lv_aload_n hx hb dX11_fault_0 rfl (lv_at hl 0 rfl) ?_
  refine lv_iconst (v := 0) hx hb dX11_fault_1 (by decide) ?_
  refine zp h E hZ (by decide) (re_0 _) ((re_0 _).trans (congrArg (fun z => Sum.inr (10, z)) (fs_X11_0 g _ _ _))) kc_X11 (by decide) kw_1368 rfl rfl rfl (Nat.le_of_ble_eq_true rfl) dX11_fault_2 (fun M_1 H locs eM_1 h hZ => ?_)
  refine lv_aload_n hx hb dX11_fault_5 rfl (lv_at hl 0 rfl) ?_
  refine zg (v := .int (M_1 0 14)) E hZ (by decide) (re_0 _) kc_X11 14 (by decide) kw_1382 rfl rfl dX11_fault_6 ?_
  exact hret _ _ _ _ _ _ (Option.some.inj h).symm rfl hZ dX11_fault_9
theorem c_X11_fault (l : Launch) (g : zG) (M : zM)   {r : Int32 × zM} (h : f_X11_fault M  = some r) : zMi l g rE 15 yX11_fault (zWs yX11_fault cX11_fault 1 (some .int)) 2 [.ref (g.2.2 0)] M (fun v M1 => r = (v, M1)) :=
  zMi_of (by decide +kernel) (Nat.le_of_ble_eq_true rfl) (fun p e s m args below meth c Q ls E hret hZ hl => w_X11_fault g  E hret M  _ _ ls h hZ hl)
theorem v_X11_fault : zYV yX11_fault cX11_fault 1 (some .int) 0 := ⟨kw_1467, kw_15, kw_1465, kw_1466, by decide +kernel⟩

def f_X11_uses (M : zM)  : Option (zM) :=
  znm (zu M 0 0 0) (fun M_1 => znm (zu M_1 0 11 (M_1 0 9)) (fun M_2 => znm (zu M_2 0 9 0) (fun M_3 => znm (zu M_3 0 10 0) (fun M_4 => some M_4))))
set_option maxRecDepth 100000 in
set_option maxHeartbeats 4000000 in
theorem w_X11_uses (g : zG)  {r : zM} (E : zX g p m c cX11_uses 1 s args (zWs yX11_uses cX11_uses 1 none) RX11) (hret : zRv g rE 15 p l e (zrm 2 0 0) s m args below meth c 0 0 Q cX11_uses (fun M1 => M1 = r)) (M : zM)  (H : Heap) (locs : List Loc) (ls : Array Slot) (h : f_X11_uses M  = some r) (hZ : zS g rE 15 s H locs M) (hl : lv_has ls 1 [(0, .ref (g.2.2 0))]) : W p l e (zrm 2 0 0) s m args below meth c H locs 0 0 Q (F0 m 0 ls []) := by
  have hx := E.1.1
  have hb := E.1.2.1
  unfold f_X11_uses at h
  refine lv_aload_n hx hb dX11_uses_0 rfl (lv_at hl 0 rfl) ?_
  refine lv_iconst (v := 0) hx hb dX11_uses_1 (by decide) ?_
  refine zp h E hZ (by decide) (re_0 _) ((re_0 _).trans (congrArg (fun z => Sum.inr (10, z)) (fs_X11_0 g _ _ _))) kc_X11 (by decide) kw_1368 rfl rfl rfl (Nat.le_of_ble_eq_true rfl) dX11_uses_2 (fun M_1 H locs eM_1 h hZ => ?_)
  refine lv_aload_n hx hb dX11_uses_5 rfl (lv_at hl 0 rfl) ?_
  refine lv_aload_n hx hb dX11_uses_6 rfl (lv_at hl 0 rfl) ?_
  refine zg (v := .int (M_1 0 9)) E hZ (by decide) (re_0 _) kc_X11 9 (by decide) kw_1377 rfl rfl dX11_uses_7 ?_
  refine zp h E hZ (by decide) (re_0 _) ((re_0 _).trans (congrArg (fun z => Sum.inr (10, z)) (fs_X11_11 g _ _ _))) kc_X11 (by decide) kw_1379 rfl rfl rfl (Nat.le_of_ble_eq_true rfl) dX11_uses_10 (fun M_2 H locs eM_2 h hZ => ?_)
  refine lv_aload_n hx hb dX11_uses_13 rfl (lv_at hl 0 rfl) ?_
  refine lv_iconst (v := 0) hx hb dX11_uses_14 (by decide) ?_
  refine zp h E hZ (by decide) (re_0 _) ((re_0 _).trans (congrArg (fun z => Sum.inr (10, z)) (fs_X11_9 g _ _ _))) kc_X11 (by decide) kw_1377 rfl rfl rfl (Nat.le_of_ble_eq_true rfl) dX11_uses_15 (fun M_3 H locs eM_3 h hZ => ?_)
  refine lv_aload_n hx hb dX11_uses_18 rfl (lv_at hl 0 rfl) ?_
  refine lv_iconst (v := 0) hx hb dX11_uses_19 (by decide) ?_
  refine zp h E hZ (by decide) (re_0 _) ((re_0 _).trans (congrArg (fun z => Sum.inr (10, z)) (fs_X11_10 g _ _ _))) kc_X11 (by decide) kw_1378 rfl rfl rfl (Nat.le_of_ble_eq_true rfl) dX11_uses_20 (fun M_4 H locs eM_4 h hZ => ?_)
  exact hret _ _ _ _ _ (Option.some.inj h) hZ dX11_uses_23
theorem c_X11_uses (l : Launch) (g : zG) (M : zM)   {r : zM} (h : f_X11_uses M  = some r) : zMv l g rE 15 yX11_uses (zWs yX11_uses cX11_uses 1 none) 2 [.ref (g.2.2 0)] M (fun M1 => M1 = r) :=
  zMv_of (by decide +kernel) (Nat.le_of_ble_eq_true rfl) (fun p e s m args below meth c Q ls E hret hZ hl => w_X11_uses g  E hret M  _ _ ls h hZ hl)
theorem v_X11_uses : zYV yX11_uses cX11_uses 1 none 0 := ⟨kw_1479, kw_15, kw_1478, kp_41, by decide +kernel⟩

def b_X11_readNumber_29  (M : zM) (x4 : Int32) (t0 : Int32) (t1 : Int32) : Option (Int32 × zM) :=
  zck (zin t1 2030) (znm (zu M 1 (t1 : Int32).toNatClampNeg t0) (fun M_1 => if x4 < 0 then (some (0, M_1)) else (some (1, M_1))))
set_option maxRecDepth 100000 in
set_option maxHeartbeats 4000000 in
theorem lb_X11_readNumber_29 (g : zG)  {r : Int32 × zM} (E : zX g p m c cX11_readNumber 5 s args (zWs yX11_readNumber cX11_readNumber 5 (some .boolean)) RX11) (hret : zRi g rE 15 p l e (zrm 5 0 0) s m args below meth c 0 0 Q cX11_readNumber .boolean (fun v M1 => r = (v, M1))) (M : zM) (x4 : Int32) (t0 : Int32) (t1 : Int32)  (H : Heap) (locs : List Loc) (ls : Array Slot) (h : b_X11_readNumber_29  M x4 t0 t1 = some r) (hZ : zS g rE 15 s H locs M) (hl : lv_has ls 5 [(4, .int x4)]) : W p l e (zrm 5 0 0) s m args below meth c H locs 0 0 Q (F0 m 29 ls [.int t0, .int t1, .ref (g.2.2 1)]) := by
  have hx := E.1.1
  have hb := E.1.2.1
  unfold b_X11_readNumber_29 at h
  refine zis h E hZ (by decide) re_1 dX11_readNumber_29 (fun M_1 H locs eM_1 h hZ => ?_)
  refine lv_iload hx hb dX11_readNumber_30 (lv_at hl 0 rfl) ?_
  refine zif_lt (tgt := 39) h E dX11_readNumber_32 (by decide) (fun c_2 h => ?_) (fun c_2 h => ?_)
  · refine lv_iconst (v := 0) hx hb dX11_readNumber_39 (by decide) ?_
    exact hret _ _ _ _ _ _ (Option.some.inj h).symm rfl hZ dX11_readNumber_40
  · refine lv_iconst (v := 1) hx hb dX11_readNumber_35 (by decide) ?_
    refine lv_goto (tgt := 40) hx hb dX11_readNumber_36 (by decide) ?_
    exact hret _ _ _ _ _ _ (Option.some.inj h).symm rfl hZ dX11_readNumber_40
def f_X11_readNumber (M : zM) (x1 : Int32) (x2 : Int32) (x3 : Int32) : Option (Int32 × zM) :=
  zbn (f_X11_number M x2 x3) (fun u_3 => if 0 ≤ u_3.1 then (b_X11_readNumber_29  u_3.2 u_3.1 u_3.1 x1) else (zck (zin x1 2030) (b_X11_readNumber_29  u_3.2 u_3.1 (u_3.2 1 (x1 : Int32).toNatClampNeg) x1)))
set_option maxRecDepth 100000 in
set_option maxHeartbeats 4000000 in
theorem w_X11_readNumber (g : zG)  {r : Int32 × zM} (E : zX g p m c cX11_readNumber 5 s args (zWs yX11_readNumber cX11_readNumber 5 (some .boolean)) RX11) (hret : zRi g rE 15 p l e (zrm 5 0 0) s m args below meth c 0 0 Q cX11_readNumber .boolean (fun v M1 => r = (v, M1))) (M : zM) (x1 : Int32) (x2 : Int32) (x3 : Int32) (H : Heap) (locs : List Loc) (ls : Array Slot) (h : f_X11_readNumber M x1 x2 x3 = some r) (hZ : zS g rE 15 s H locs M) (hl : lv_has ls 5 [(0, .ref (g.2.2 0)), (1, .int x1), (2, .int x2), (3, .int x3)]) : W p l e (zrm 5 0 0) s m args below meth c H locs 0 0 Q (F0 m 0 ls []) := by
  have hx := E.1.1
  have hb := E.1.2.1
  unfold f_X11_readNumber at h
  refine lv_aload_n hx hb dX11_readNumber_0 rfl (lv_at hl 0 rfl) ?_
  refine lv_iload_n hx hb dX11_readNumber_1 rfl (lv_at hl 2 rfl) ?_
  refine lv_iload_n hx hb dX11_readNumber_2 rfl (lv_at hl 3 rfl) ?_
  obtain ⟨u_3, qu_3, h⟩ := zbn_some h
  refine zciS (zrunV E hZ (by decide) (re_0 _) rfl rfl v_X11_number kw_1537 (c_X11_number l g M  x2 x3 qu_3 _) rfl hl.1 rfl (Nat.le_of_ble_eq_true rfl) ⟨by decide, by decide⟩ ⟨by decide, by decide⟩ dX11_readNumber_3) hZ (fun H locs hZ => ?_)
  refine lv_istore (lv' := [(4, .int u_3.1), (0, .ref (g.2.2 0)), (1, .int x1), (2, .int x2), (3, .int x3)]) hx hb dX11_readNumber_6 hl (by decide) rfl (fun ls hl => ?_)
  refine lv_aload_n hx hb dX11_readNumber_8 rfl (lv_at hl 1 rfl) ?_
  refine zg (v := .ref (g.2.2 1)) E hZ (by decide) (re_0 _) kc_X11 1 (by decide) kw_1369 rfl rfl dX11_readNumber_9 ?_
  refine lv_iload_n hx hb dX11_readNumber_12 rfl (lv_at hl 2 rfl) ?_
  refine lv_iload hx hb dX11_readNumber_13 (lv_at hl 0 rfl) ?_
  refine zif_ge (tgt := 27) h E dX11_readNumber_15 (by decide) (fun c_4 h => ?_) (fun c_4 h => ?_)
  · refine lv_iload hx hb dX11_readNumber_27 (lv_at hl 0 rfl) ?_
    exact lb_X11_readNumber_29 g  E hret u_3.2 u_3.1 u_3.1 x1  H locs ls h hZ (lv_sub hl [0] rfl)
  · refine lv_aload_n hx hb dX11_readNumber_18 rfl (lv_at hl 1 rfl) ?_
    refine zg (v := .ref (g.2.2 1)) E hZ (by decide) (re_0 _) kc_X11 1 (by decide) kw_1369 rfl rfl dX11_readNumber_19 ?_
    refine lv_iload_n hx hb dX11_readNumber_22 rfl (lv_at hl 2 rfl) ?_
    refine zia h E hZ (by decide) re_1 dX11_readNumber_23 (fun h => ?_)
    refine lv_goto (tgt := 29) hx hb dX11_readNumber_24 (by decide) ?_
    exact lb_X11_readNumber_29 g  E hret u_3.2 u_3.1 (u_3.2 1 (x1 : Int32).toNatClampNeg) x1  H locs ls h hZ (lv_sub hl [0] rfl)
theorem c_X11_readNumber (l : Launch) (g : zG) (M : zM)  (x1 : Int32) (x2 : Int32) (x3 : Int32) {r : Int32 × zM} (h : f_X11_readNumber M x1 x2 x3 = some r) : zMi l g rE 15 yX11_readNumber (zWs yX11_readNumber cX11_readNumber 5 (some .boolean)) 5 [.ref (g.2.2 0), .int x1, .int x2, .int x3] M (fun v M1 => r = (v, M1)) :=
  zMi_of (by decide +kernel) (Nat.le_of_ble_eq_true rfl) (fun p e s m args below meth c Q ls E hret hZ hl => w_X11_readNumber g  E hret M x1 x2 x3 _ _ ls h hZ hl)
theorem v_X11_readNumber : zYV yX11_readNumber cX11_readNumber 5 (some .boolean) 3 := ⟨kw_1544, kw_15, kw_1543, kp_50, by decide +kernel⟩

def f_X11_readGround (M : zM)  : Option (Int32 × zM) :=
  zbn (f_X11_number M 0 11) (fun u_1 => if u_1.1 < 0 then (some (0, u_1.2)) else (zbn (f_X11_readNumber u_1.2 (14 + u_1.1) 0 19) (fun u_2 => if u_2.1 = 0 then (some (0, u_2.2)) else (some (1, u_2.2)))))
set_option maxRecDepth 100000 in
set_option maxHeartbeats 4000000 in
theorem w_X11_readGround (g : zG)  {r : Int32 × zM} (E : zX g p m c cX11_readGround 2 s args (zWs yX11_readGround cX11_readGround 2 (some .boolean)) RX11) (hret : zRi g rE 15 p l e (zrm 6 0 0) s m args below meth c 0 0 Q cX11_readGround .boolean (fun v M1 => r = (v, M1))) (M : zM)  (H : Heap) (locs : List Loc) (ls : Array Slot) (h : f_X11_readGround M  = some r) (hZ : zS g rE 15 s H locs M) (hl : lv_has ls 2 [(0, .ref (g.2.2 0))]) : W p l e (zrm 6 0 0) s m args below meth c H locs 0 0 Q (F0 m 0 ls []) := by
  have hx := E.1.1
  have hb := E.1.2.1
  unfold f_X11_readGround at h
  refine lv_aload_n hx hb dX11_readGround_0 rfl (lv_at hl 0 rfl) ?_
  refine lv_iconst (v := 0) hx hb dX11_readGround_1 (by decide) ?_
  refine lv_bipush (v := 11) hx hb dX11_readGround_2 (by decide) ?_
  obtain ⟨u_1, qu_1, h⟩ := zbn_some h
  refine zciS (zrunV E hZ (by decide) (re_0 _) rfl rfl v_X11_number kw_1537 (c_X11_number l g M  0 11 qu_1 _) rfl hl.1 rfl (Nat.le_of_ble_eq_true rfl) ⟨by decide, by decide⟩ ⟨by decide, by decide⟩ dX11_readGround_4) hZ (fun H locs hZ => ?_)
  refine lv_istore_n (lv' := [(1, .int u_1.1), (0, .ref (g.2.2 0))]) hx hb dX11_readGround_7 rfl hl (by decide) rfl (fun ls hl => ?_)
  refine lv_iload_n hx hb dX11_readGround_8 rfl (lv_at hl 0 rfl) ?_
  refine zif_lt (tgt := 30) h E dX11_readGround_9 (by decide) (fun c_4 h => ?_) (fun c_4 h => ?_)
  · refine lv_iconst (v := 0) hx hb dX11_readGround_30 (by decide) ?_
    exact hret _ _ _ _ _ _ (Option.some.inj h).symm rfl hZ dX11_readGround_31
  · refine lv_aload_n hx hb dX11_readGround_12 rfl (lv_at hl 1 rfl) ?_
    refine lv_bipush (v := 14) hx hb dX11_readGround_13 (by decide) ?_
    refine lv_iload_n hx hb dX11_readGround_15 rfl (lv_at hl 0 rfl) ?_
    refine lv_iadd hx hb dX11_readGround_16 ?_
    refine lv_iconst (v := 0) hx hb dX11_readGround_17 (by decide) ?_
    refine lv_bipush (v := 19) hx hb dX11_readGround_18 (by decide) ?_
    obtain ⟨u_2, qu_2, h⟩ := zbn_some h
    refine zciS (zrunV E hZ (by decide) (re_0 _) rfl rfl v_X11_readNumber kw_1541 (c_X11_readNumber l g u_1.2  (14 + u_1.1) 0 19 qu_2 _) rfl hl.1 rfl (Nat.le_of_ble_eq_true rfl) ⟨by decide, by decide⟩ ⟨by decide, by decide⟩ dX11_readGround_20) hZ (fun H locs hZ => ?_)
    refine zif_eq (tgt := 30) h E dX11_readGround_23 (by decide) (fun c_3 h => ?_) (fun c_3 h => ?_)
    · refine lv_iconst (v := 0) hx hb dX11_readGround_30 (by decide) ?_
      exact hret _ _ _ _ _ _ (Option.some.inj h).symm rfl hZ dX11_readGround_31
    · refine lv_iconst (v := 1) hx hb dX11_readGround_26 (by decide) ?_
      refine lv_goto (tgt := 31) hx hb dX11_readGround_27 (by decide) ?_
      exact hret _ _ _ _ _ _ (Option.some.inj h).symm rfl hZ dX11_readGround_31
theorem c_X11_readGround (l : Launch) (g : zG) (M : zM)   {r : Int32 × zM} (h : f_X11_readGround M  = some r) : zMi l g rE 15 yX11_readGround (zWs yX11_readGround cX11_readGround 2 (some .boolean)) 6 [.ref (g.2.2 0)] M (fun v M1 => r = (v, M1)) :=
  zMi_of (by decide +kernel) (Nat.le_of_ble_eq_true rfl) (fun p e s m args below meth c Q ls E hret hZ hl => w_X11_readGround g  E hret M  _ _ ls h hZ hl)
theorem v_X11_readGround : zYV yX11_readGround cX11_readGround 2 (some .boolean) 0 := ⟨kw_1536, kw_15, kw_1535, kp_48, by decide +kernel⟩

def f_X11_emits (M : zM) (x1 : Int32) (x2 : Int32) : Option (zM) :=
  zck (zin (1230 + (2 * (M 0 16))) 2030) (znm (zu M 1 (1230 + (2 * (M 0 16)) : Int32).toNatClampNeg x1) (fun M_1 => zck (zin ((1230 + (2 * (M_1 0 16))) + 1) 2030) (znm (zu M_1 1 ((1230 + (2 * (M_1 0 16))) + 1 : Int32).toNatClampNeg x2) (fun M_2 => znm (zu M_2 0 16 ((M_2 0 16) + 1)) (fun M_3 => some M_3)))))
set_option maxRecDepth 100000 in
set_option maxHeartbeats 4000000 in
theorem w_X11_emits (g : zG)  {r : zM} (E : zX g p m c cX11_emits 3 s args (zWs yX11_emits cX11_emits 3 none) RX11) (hret : zRv g rE 15 p l e (zrm 2 0 0) s m args below meth c 0 0 Q cX11_emits (fun M1 => M1 = r)) (M : zM) (x1 : Int32) (x2 : Int32) (H : Heap) (locs : List Loc) (ls : Array Slot) (h : f_X11_emits M x1 x2 = some r) (hZ : zS g rE 15 s H locs M) (hl : lv_has ls 3 [(0, .ref (g.2.2 0)), (1, .int x1), (2, .int x2)]) : W p l e (zrm 2 0 0) s m args below meth c H locs 0 0 Q (F0 m 0 ls []) := by
  have hx := E.1.1
  have hb := E.1.2.1
  unfold f_X11_emits at h
  refine lv_aload_n hx hb dX11_emits_0 rfl (lv_at hl 0 rfl) ?_
  refine zg (v := .ref (g.2.2 1)) E hZ (by decide) (re_0 _) kc_X11 1 (by decide) kw_1369 rfl rfl dX11_emits_1 ?_
  refine lv_sipush (v := 1230) hx hb dX11_emits_4 (by decide) ?_
  refine lv_iconst (v := 2) hx hb dX11_emits_7 (by decide) ?_
  refine lv_aload_n hx hb dX11_emits_8 rfl (lv_at hl 0 rfl) ?_
  refine zg (v := .int (M 0 16)) E hZ (by decide) (re_0 _) kc_X11 16 (by decide) kw_1384 rfl rfl dX11_emits_9 ?_
  refine lv_imul hx hb dX11_emits_12 ?_
  refine lv_iadd hx hb dX11_emits_13 ?_
  refine lv_iload_n hx hb dX11_emits_14 rfl (lv_at hl 1 rfl) ?_
  refine zis h E hZ (by decide) re_1 dX11_emits_15 (fun M_1 H locs eM_1 h hZ => ?_)
  refine lv_aload_n hx hb dX11_emits_16 rfl (lv_at hl 0 rfl) ?_
  refine zg (v := .ref (g.2.2 1)) E hZ (by decide) (re_0 _) kc_X11 1 (by decide) kw_1369 rfl rfl dX11_emits_17 ?_
  refine lv_sipush (v := 1230) hx hb dX11_emits_20 (by decide) ?_
  refine lv_iconst (v := 2) hx hb dX11_emits_23 (by decide) ?_
  refine lv_aload_n hx hb dX11_emits_24 rfl (lv_at hl 0 rfl) ?_
  refine zg (v := .int (M_1 0 16)) E hZ (by decide) (re_0 _) kc_X11 16 (by decide) kw_1384 rfl rfl dX11_emits_25 ?_
  refine lv_imul hx hb dX11_emits_28 ?_
  refine lv_iadd hx hb dX11_emits_29 ?_
  refine lv_iconst (v := 1) hx hb dX11_emits_30 (by decide) ?_
  refine lv_iadd hx hb dX11_emits_31 ?_
  refine lv_iload_n hx hb dX11_emits_32 rfl (lv_at hl 2 rfl) ?_
  refine zis h E hZ (by decide) re_1 dX11_emits_33 (fun M_2 H locs eM_2 h hZ => ?_)
  refine lv_aload_n hx hb dX11_emits_34 rfl (lv_at hl 0 rfl) ?_
  refine lv_dup hx hb dX11_emits_35 rfl ?_
  refine zg (v := .int (M_2 0 16)) E hZ (by decide) (re_0 _) kc_X11 16 (by decide) kw_1384 rfl rfl dX11_emits_36 ?_
  refine lv_iconst (v := 1) hx hb dX11_emits_39 (by decide) ?_
  refine lv_iadd hx hb dX11_emits_40 ?_
  refine zp h E hZ (by decide) (re_0 _) ((re_0 _).trans (congrArg (fun z => Sum.inr (10, z)) (fs_X11_16 g _ _ _))) kc_X11 (by decide) kw_1384 rfl rfl rfl (Nat.le_of_ble_eq_true rfl) dX11_emits_41 (fun M_3 H locs eM_3 h hZ => ?_)
  exact hret _ _ _ _ _ (Option.some.inj h) hZ dX11_emits_44
theorem c_X11_emits (l : Launch) (g : zG) (M : zM)  (x1 : Int32) (x2 : Int32) {r : zM} (h : f_X11_emits M x1 x2 = some r) : zMv l g rE 15 yX11_emits (zWs yX11_emits cX11_emits 3 none) 2 [.ref (g.2.2 0), .int x1, .int x2] M (fun M1 => M1 = r) :=
  zMv_of (by decide +kernel) (Nat.le_of_ble_eq_true rfl) (fun p e s m args below meth c Q ls E hret hZ hl => w_X11_emits g  E hret M x1 x2 _ _ ls h hZ hl)
theorem v_X11_emits : zYV yX11_emits cX11_emits 3 none 2 := ⟨kw_1629, kw_15, kw_1628, kp_65, by decide +kernel⟩

def f_X11_rangeOf (M : zM) (x1 : Int32) : Option (Int32) :=
  zck (zin 6 2030) (zck (decide (¬ (M 1 (6 : Int32).toNatClampNeg : Int32) = 0)) (zck (zin 6 2030) (znm (if 0 ≤ ((2 * (x1 - x1 / (M 1 (6 : Int32).toNatClampNeg) * (M 1 (6 : Int32).toNatClampNeg))) - (M 1 (6 : Int32).toNatClampNeg)) then ((2 * (x1 - x1 / (M 1 (6 : Int32).toNatClampNeg) * (M 1 (6 : Int32).toNatClampNeg))) - (M 1 (6 : Int32).toNatClampNeg)) else 0 - ((2 * (x1 - x1 / (M 1 (6 : Int32).toNatClampNeg) * (M 1 (6 : Int32).toNatClampNeg))) - (M 1 (6 : Int32).toNatClampNeg))) (fun v_1 => zck (zin 7 2030) (zck (zin 8 2030) (zck (zin 7 2030) (zck (zin 6 2030) (zck (decide (¬ (M 1 (6 : Int32).toNatClampNeg : Int32) = 0)) (some ((M 1 (7 : Int32).toNatClampNeg) + ((((M 1 (8 : Int32).toNatClampNeg) - (M 1 (7 : Int32).toNatClampNeg)) * v_1) / (M 1 (6 : Int32).toNatClampNeg))))))))))))
set_option maxRecDepth 100000 in
set_option maxHeartbeats 4000000 in
theorem w_X11_rangeOf (g : zG)  {r : Int32} {M0 : zM} (E : zX g p m c cX11_rangeOf 3 s args (zWs yX11_rangeOf cX11_rangeOf 3 (some .int)) RX11) (hret : zRi g rE 15 p l e (zrm 3 0 0) s m args below meth c 0 0 Q cX11_rangeOf .int (fun v M1 => v = r ∧ M1 = M0)) (M : zM) (hM : M = M0) (x1 : Int32) (H : Heap) (locs : List Loc) (ls : Array Slot) (h : f_X11_rangeOf M x1 = some r) (hZ : zS g rE 15 s H locs M) (hl : lv_has ls 3 [(0, .ref (g.2.2 0)), (1, .int x1)]) : W p l e (zrm 3 0 0) s m args below meth c H locs 0 0 Q (F0 m 0 ls []) := by
  have hx := E.1.1
  have hb := E.1.2.1
  unfold f_X11_rangeOf at h
  refine lv_iconst (v := 2) hx hb dX11_rangeOf_0 (by decide) ?_
  refine lv_iload_n hx hb dX11_rangeOf_1 rfl (lv_at hl 1 rfl) ?_
  refine lv_aload_n hx hb dX11_rangeOf_2 rfl (lv_at hl 0 rfl) ?_
  refine zg (v := .ref (g.2.2 1)) E hZ (by decide) (re_0 _) kc_X11 1 (by decide) kw_1369 rfl rfl dX11_rangeOf_3 ?_
  refine lv_bipush (v := 6) hx hb dX11_rangeOf_6 (by decide) ?_
  refine zia h E hZ (by decide) re_1 dX11_rangeOf_8 (fun h => ?_)
  refine zrem h E dX11_rangeOf_9 (fun h => ?_)
  refine lv_imul hx hb dX11_rangeOf_10 ?_
  refine lv_aload_n hx hb dX11_rangeOf_11 rfl (lv_at hl 0 rfl) ?_
  refine zg (v := .ref (g.2.2 1)) E hZ (by decide) (re_0 _) kc_X11 1 (by decide) kw_1369 rfl rfl dX11_rangeOf_12 ?_
  refine lv_bipush (v := 6) hx hb dX11_rangeOf_15 (by decide) ?_
  refine zia h E hZ (by decide) re_1 dX11_rangeOf_17 (fun h => ?_)
  refine lv_isub hx hb dX11_rangeOf_18 ?_
  refine va_mabs hx hb (E.1.2.2.1.trans hl.1.symm) E.1.2.2.2.1 (E.w kw_1677) (E.w kw_450) (E.w kw_16) (E.w kw_451) (Nat.le_of_ble_eq_true rfl) (Nat.le_of_ble_eq_true rfl) (Nat.le_of_ble_eq_true rfl) (Nat.le_of_ble_eq_true rfl) dX11_rangeOf_19 ?_
  refine zni h (fun v_1 ev_1 h => ?_)
  refine lv_istore_n (lv' := [(2, .int v_1), (0, .ref (g.2.2 0)), (1, .int x1)]) hx hb dX11_rangeOf_22 rfl hl (by decide) rfl (fun ls hl => ?_)
  refine lv_aload_n hx hb dX11_rangeOf_23 rfl (lv_at hl 1 rfl) ?_
  refine zg (v := .ref (g.2.2 1)) E hZ (by decide) (re_0 _) kc_X11 1 (by decide) kw_1369 rfl rfl dX11_rangeOf_24 ?_
  refine lv_bipush (v := 7) hx hb dX11_rangeOf_27 (by decide) ?_
  refine zia h E hZ (by decide) re_1 dX11_rangeOf_29 (fun h => ?_)
  refine lv_aload_n hx hb dX11_rangeOf_30 rfl (lv_at hl 1 rfl) ?_
  refine zg (v := .ref (g.2.2 1)) E hZ (by decide) (re_0 _) kc_X11 1 (by decide) kw_1369 rfl rfl dX11_rangeOf_31 ?_
  refine lv_bipush (v := 8) hx hb dX11_rangeOf_34 (by decide) ?_
  refine zia h E hZ (by decide) re_1 dX11_rangeOf_36 (fun h => ?_)
  refine lv_aload_n hx hb dX11_rangeOf_37 rfl (lv_at hl 1 rfl) ?_
  refine zg (v := .ref (g.2.2 1)) E hZ (by decide) (re_0 _) kc_X11 1 (by decide) kw_1369 rfl rfl dX11_rangeOf_38 ?_
  refine lv_bipush (v := 7) hx hb dX11_rangeOf_41 (by decide) ?_
  refine zia h E hZ (by decide) re_1 dX11_rangeOf_43 (fun h => ?_)
  refine lv_isub hx hb dX11_rangeOf_44 ?_
  refine lv_iload_n hx hb dX11_rangeOf_45 rfl (lv_at hl 0 rfl) ?_
  refine lv_imul hx hb dX11_rangeOf_46 ?_
  refine lv_aload_n hx hb dX11_rangeOf_47 rfl (lv_at hl 1 rfl) ?_
  refine zg (v := .ref (g.2.2 1)) E hZ (by decide) (re_0 _) kc_X11 1 (by decide) kw_1369 rfl rfl dX11_rangeOf_48 ?_
  refine lv_bipush (v := 6) hx hb dX11_rangeOf_51 (by decide) ?_
  refine zia h E hZ (by decide) re_1 dX11_rangeOf_53 (fun h => ?_)
  refine zdv h E dX11_rangeOf_54 (fun h => ?_)
  refine lv_iadd hx hb dX11_rangeOf_55 ?_
  exact hret _ _ _ _ _ _ ⟨Option.some.inj h, hM⟩ rfl hZ dX11_rangeOf_56
theorem c_X11_rangeOf (l : Launch) (g : zG) (M : zM)  (x1 : Int32) {r : Int32} (h : f_X11_rangeOf M x1 = some r) : zMi l g rE 15 yX11_rangeOf (zWs yX11_rangeOf cX11_rangeOf 3 (some .int)) 3 [.ref (g.2.2 0), .int x1] M (fun v M1 => v = r ∧ M1 = M) :=
  zMi_of (by decide +kernel) (Nat.le_of_ble_eq_true rfl) (fun p e s m args below meth c Q ls E hret hZ hl => w_X11_rangeOf g  E hret M rfl x1 _ _ ls h hZ hl)
theorem v_X11_rangeOf : zYV yX11_rangeOf cX11_rangeOf 3 (some .int) 1 := ⟨kw_1676, kw_15, kw_1675, kp_70, by decide +kernel⟩

def f_X11_stepOf (M : zM) (x1 : Int32) : Option (Int32) :=
  zck (zin 5 2030) (zck (decide (¬ (M 1 (5 : Int32).toNatClampNeg : Int32) = 0)) (some (x1 - x1 / (M 1 (5 : Int32).toNatClampNeg) * (M 1 (5 : Int32).toNatClampNeg))))
set_option maxRecDepth 100000 in
set_option maxHeartbeats 4000000 in
theorem w_X11_stepOf (g : zG)  {r : Int32} {M0 : zM} (E : zX g p m c cX11_stepOf 2 s args (zWs yX11_stepOf cX11_stepOf 2 (some .int)) RX11) (hret : zRi g rE 15 p l e (zrm 2 0 0) s m args below meth c 0 0 Q cX11_stepOf .int (fun v M1 => v = r ∧ M1 = M0)) (M : zM) (hM : M = M0) (x1 : Int32) (H : Heap) (locs : List Loc) (ls : Array Slot) (h : f_X11_stepOf M x1 = some r) (hZ : zS g rE 15 s H locs M) (hl : lv_has ls 2 [(0, .ref (g.2.2 0)), (1, .int x1)]) : W p l e (zrm 2 0 0) s m args below meth c H locs 0 0 Q (F0 m 0 ls []) := by
  have hx := E.1.1
  have hb := E.1.2.1
  unfold f_X11_stepOf at h
  refine lv_iload_n hx hb dX11_stepOf_0 rfl (lv_at hl 1 rfl) ?_
  refine lv_aload_n hx hb dX11_stepOf_1 rfl (lv_at hl 0 rfl) ?_
  refine zg (v := .ref (g.2.2 1)) E hZ (by decide) (re_0 _) kc_X11 1 (by decide) kw_1369 rfl rfl dX11_stepOf_2 ?_
  refine lv_iconst (v := 5) hx hb dX11_stepOf_5 (by decide) ?_
  refine zia h E hZ (by decide) re_1 dX11_stepOf_6 (fun h => ?_)
  refine zrem h E dX11_stepOf_7 (fun h => ?_)
  exact hret _ _ _ _ _ _ ⟨Option.some.inj h, hM⟩ rfl hZ dX11_stepOf_8
theorem c_X11_stepOf (l : Launch) (g : zG) (M : zM)  (x1 : Int32) {r : Int32} (h : f_X11_stepOf M x1 = some r) : zMi l g rE 15 yX11_stepOf (zWs yX11_stepOf cX11_stepOf 2 (some .int)) 2 [.ref (g.2.2 0), .int x1] M (fun v M1 => v = r ∧ M1 = M) :=
  zMi_of (by decide +kernel) (Nat.le_of_ble_eq_true rfl) (fun p e s m args below meth c Q ls E hret hZ hl => w_X11_stepOf g  E hret M rfl x1 _ _ ls h hZ hl)
theorem v_X11_stepOf : zYV yX11_stepOf cX11_stepOf 2 (some .int) 1 := ⟨kw_1696, kw_15, kw_1695, kp_73, by decide +kernel⟩

def f_X11_waterBy (M : zM) (x1 : Int32) (x2 : Int32) : Option (Int32) :=
  zbn (f_X11_stepOf M x1) (fun u_1 => zck (zin 5 2030) (znm (if 0 ≤ ((2 * u_1) - (M 1 (5 : Int32).toNatClampNeg)) then ((2 * u_1) - (M 1 (5 : Int32).toNatClampNeg)) else 0 - ((2 * u_1) - (M 1 (5 : Int32).toNatClampNeg))) (fun v_2 => zck (zin 5 2030) (zck (decide (¬ (M 1 (5 : Int32).toNatClampNeg : Int32) = 0)) (zbn (f_X11_rangeOf M (x1 / (M 1 (5 : Int32).toNatClampNeg))) (fun u_3 => zck (zin 5 2030) (zck (decide (¬ (M 1 (5 : Int32).toNatClampNeg : Int32) = 0)) (znm (if 0 < (((u_3 * v_2) / (M 1 (5 : Int32).toNatClampNeg)) + x2) then (((u_3 * v_2) / (M 1 (5 : Int32).toNatClampNeg)) + x2) else 0) (fun v_4 => some v_4)))))))))
set_option maxRecDepth 100000 in
set_option maxHeartbeats 4000000 in
theorem w_X11_waterBy (g : zG)  {r : Int32} {M0 : zM} (E : zX g p m c cX11_waterBy 4 s args (zWs yX11_waterBy cX11_waterBy 4 (some .int)) RX11) (hret : zRi g rE 15 p l e (zrm 4 0 0) s m args below meth c 0 0 Q cX11_waterBy .int (fun v M1 => v = r ∧ M1 = M0)) (M : zM) (hM : M = M0) (x1 : Int32) (x2 : Int32) (H : Heap) (locs : List Loc) (ls : Array Slot) (h : f_X11_waterBy M x1 x2 = some r) (hZ : zS g rE 15 s H locs M) (hl : lv_has ls 4 [(0, .ref (g.2.2 0)), (1, .int x1), (2, .int x2)]) : W p l e (zrm 4 0 0) s m args below meth c H locs 0 0 Q (F0 m 0 ls []) := by
  have hx := E.1.1
  have hb := E.1.2.1
  unfold f_X11_waterBy at h
  refine lv_iconst (v := 2) hx hb dX11_waterBy_0 (by decide) ?_
  refine lv_aload_n hx hb dX11_waterBy_1 rfl (lv_at hl 0 rfl) ?_
  refine lv_iload_n hx hb dX11_waterBy_2 rfl (lv_at hl 1 rfl) ?_
  obtain ⟨u_1, qu_1, h⟩ := zbn_some h
  refine zciR (zrunV E hZ (by decide) (re_0 _) rfl rfl v_X11_stepOf kw_1693 (c_X11_stepOf l g M  x1 qu_1 _) rfl hl.1 rfl (Nat.le_of_ble_eq_true rfl) ⟨by decide, by decide⟩ ⟨by decide, by decide⟩ dX11_waterBy_3) hZ (fun H locs hZ => ?_)
  refine lv_imul hx hb dX11_waterBy_6 ?_
  refine lv_aload_n hx hb dX11_waterBy_7 rfl (lv_at hl 0 rfl) ?_
  refine zg (v := .ref (g.2.2 1)) E hZ (by decide) (re_0 _) kc_X11 1 (by decide) kw_1369 rfl rfl dX11_waterBy_8 ?_
  refine lv_iconst (v := 5) hx hb dX11_waterBy_11 (by decide) ?_
  refine zia h E hZ (by decide) re_1 dX11_waterBy_12 (fun h => ?_)
  refine lv_isub hx hb dX11_waterBy_13 ?_
  refine va_mabs hx hb (E.1.2.2.1.trans hl.1.symm) E.1.2.2.2.1 (E.w kw_1677) (E.w kw_450) (E.w kw_16) (E.w kw_451) (Nat.le_of_ble_eq_true rfl) (Nat.le_of_ble_eq_true rfl) (Nat.le_of_ble_eq_true rfl) (Nat.le_of_ble_eq_true rfl) dX11_waterBy_14 ?_
  refine zni h (fun v_2 ev_2 h => ?_)
  refine lv_istore_n (lv' := [(3, .int v_2), (0, .ref (g.2.2 0)), (1, .int x1), (2, .int x2)]) hx hb dX11_waterBy_17 rfl hl (by decide) rfl (fun ls hl => ?_)
  refine lv_iconst (v := 0) hx hb dX11_waterBy_18 (by decide) ?_
  refine lv_aload_n hx hb dX11_waterBy_19 rfl (lv_at hl 1 rfl) ?_
  refine lv_iload_n hx hb dX11_waterBy_20 rfl (lv_at hl 2 rfl) ?_
  refine lv_aload_n hx hb dX11_waterBy_21 rfl (lv_at hl 1 rfl) ?_
  refine zg (v := .ref (g.2.2 1)) E hZ (by decide) (re_0 _) kc_X11 1 (by decide) kw_1369 rfl rfl dX11_waterBy_22 ?_
  refine lv_iconst (v := 5) hx hb dX11_waterBy_25 (by decide) ?_
  refine zia h E hZ (by decide) re_1 dX11_waterBy_26 (fun h => ?_)
  refine zdv h E dX11_waterBy_27 (fun h => ?_)
  obtain ⟨u_3, qu_3, h⟩ := zbn_some h
  refine zciR (zrunV E hZ (by decide) (re_0 _) rfl rfl v_X11_rangeOf kw_1673 (c_X11_rangeOf l g M  (x1 / (M 1 (5 : Int32).toNatClampNeg)) qu_3 _) rfl hl.1 rfl (Nat.le_of_ble_eq_true rfl) ⟨by decide, by decide⟩ ⟨by decide, by decide⟩ dX11_waterBy_28) hZ (fun H locs hZ => ?_)
  refine lv_iload_n hx hb dX11_waterBy_31 rfl (lv_at hl 0 rfl) ?_
  refine lv_imul hx hb dX11_waterBy_32 ?_
  refine lv_aload_n hx hb dX11_waterBy_33 rfl (lv_at hl 1 rfl) ?_
  refine zg (v := .ref (g.2.2 1)) E hZ (by decide) (re_0 _) kc_X11 1 (by decide) kw_1369 rfl rfl dX11_waterBy_34 ?_
  refine lv_iconst (v := 5) hx hb dX11_waterBy_37 (by decide) ?_
  refine zia h E hZ (by decide) re_1 dX11_waterBy_38 (fun h => ?_)
  refine zdv h E dX11_waterBy_39 (fun h => ?_)
  refine lv_iload_n hx hb dX11_waterBy_40 rfl (lv_at hl 3 rfl) ?_
  refine lv_iadd hx hb dX11_waterBy_41 ?_
  refine va_mmax hx hb (E.1.2.2.1.trans hl.1.symm) E.1.2.2.2.1 (E.w kw_1697) (E.w kw_453) (E.w kw_16) (E.w kw_454) (Nat.le_of_ble_eq_true rfl) (Nat.le_of_ble_eq_true rfl) (Nat.le_of_ble_eq_true rfl) (Nat.le_of_ble_eq_true rfl) dX11_waterBy_42 ?_
  refine zni h (fun v_4 ev_4 h => ?_)
  exact hret _ _ _ _ _ _ ⟨Option.some.inj h, hM⟩ rfl hZ dX11_waterBy_45
theorem c_X11_waterBy (l : Launch) (g : zG) (M : zM)  (x1 : Int32) (x2 : Int32) {r : Int32} (h : f_X11_waterBy M x1 x2 = some r) : zMi l g rE 15 yX11_waterBy (zWs yX11_waterBy cX11_waterBy 4 (some .int)) 4 [.ref (g.2.2 0), .int x1, .int x2] M (fun v M1 => v = r ∧ M1 = M) :=
  zMi_of (by decide +kernel) (Nat.le_of_ble_eq_true rfl) (fun p e s m args below meth c Q ls E hret hZ hl => w_X11_waterBy g  E hret M rfl x1 x2 _ _ ls h hZ hl)
theorem v_X11_waterBy : zYV yX11_waterBy cX11_waterBy 4 (some .int) 2 := ⟨kw_1692, kw_15, kw_1691, kp_72, by decide +kernel⟩

def f_X11_waterIn (M : zM) (x1 : Int32) : Option (Int32) :=
  zck (zin 9 2030) (zbn (f_X11_waterBy M x1 (M 1 (9 : Int32).toNatClampNeg)) (fun u_1 => some u_1))
set_option maxRecDepth 100000 in
set_option maxHeartbeats 4000000 in
theorem w_X11_waterIn (g : zG)  {r : Int32} {M0 : zM} (E : zX g p m c cX11_waterIn 2 s args (zWs yX11_waterIn cX11_waterIn 2 (some .int)) RX11) (hret : zRi g rE 15 p l e (zrm 5 0 0) s m args below meth c 0 0 Q cX11_waterIn .int (fun v M1 => v = r ∧ M1 = M0)) (M : zM) (hM : M = M0) (x1 : Int32) (H : Heap) (locs : List Loc) (ls : Array Slot) (h : f_X11_waterIn M x1 = some r) (hZ : zS g rE 15 s H locs M) (hl : lv_has ls 2 [(0, .ref (g.2.2 0)), (1, .int x1)]) : W p l e (zrm 5 0 0) s m args below meth c H locs 0 0 Q (F0 m 0 ls []) := by
  have hx := E.1.1
  have hb := E.1.2.1
  unfold f_X11_waterIn at h
  refine lv_aload_n hx hb dX11_waterIn_0 rfl (lv_at hl 0 rfl) ?_
  refine lv_iload_n hx hb dX11_waterIn_1 rfl (lv_at hl 1 rfl) ?_
  refine lv_aload_n hx hb dX11_waterIn_2 rfl (lv_at hl 0 rfl) ?_
  refine zg (v := .ref (g.2.2 1)) E hZ (by decide) (re_0 _) kc_X11 1 (by decide) kw_1369 rfl rfl dX11_waterIn_3 ?_
  refine lv_bipush (v := 9) hx hb dX11_waterIn_6 (by decide) ?_
  refine zia h E hZ (by decide) re_1 dX11_waterIn_8 (fun h => ?_)
  obtain ⟨u_1, qu_1, h⟩ := zbn_some h
  refine zciR (zrunV E hZ (by decide) (re_0 _) rfl rfl v_X11_waterBy kw_1689 (c_X11_waterBy l g M  x1 (M 1 (9 : Int32).toNatClampNeg) qu_1 _) rfl hl.1 rfl (Nat.le_of_ble_eq_true rfl) ⟨by decide, by decide⟩ ⟨by decide, by decide⟩ dX11_waterIn_9) hZ (fun H locs hZ => ?_)
  exact hret _ _ _ _ _ _ ⟨Option.some.inj h, hM⟩ rfl hZ dX11_waterIn_12
theorem c_X11_waterIn (l : Launch) (g : zG) (M : zM)  (x1 : Int32) {r : Int32} (h : f_X11_waterIn M x1 = some r) : zMi l g rE 15 yX11_waterIn (zWs yX11_waterIn cX11_waterIn 2 (some .int)) 5 [.ref (g.2.2 0), .int x1] M (fun v M1 => v = r ∧ M1 = M) :=
  zMi_of (by decide +kernel) (Nat.le_of_ble_eq_true rfl) (fun p e s m args below meth c Q ls E hret hZ hl => w_X11_waterIn g  E hret M rfl x1 _ _ ls h hZ hl)
theorem v_X11_waterIn : zYV yX11_waterIn cX11_waterIn 2 (some .int) 1 := ⟨kw_1688, kw_15, kw_1687, kp_71, by decide +kernel⟩

def f_X11_depthAt (M : zM) (x1 : Int32) (x2 : Int32) : Option (Int32) :=
  zbn (f_X11_waterIn M x2) (fun u_1 => zck (zin (14 + x1) 2030) (znm (if 0 < (u_1 - (M 1 (14 + x1 : Int32).toNatClampNeg)) then (u_1 - (M 1 (14 + x1 : Int32).toNatClampNeg)) else 0) (fun v_2 => some v_2)))
set_option maxRecDepth 100000 in
set_option maxHeartbeats 4000000 in
theorem w_X11_depthAt (g : zG)  {r : Int32} {M0 : zM} (E : zX g p m c cX11_depthAt 3 s args (zWs yX11_depthAt cX11_depthAt 3 (some .int)) RX11) (hret : zRi g rE 15 p l e (zrm 6 0 0) s m args below meth c 0 0 Q cX11_depthAt .int (fun v M1 => v = r ∧ M1 = M0)) (M : zM) (hM : M = M0) (x1 : Int32) (x2 : Int32) (H : Heap) (locs : List Loc) (ls : Array Slot) (h : f_X11_depthAt M x1 x2 = some r) (hZ : zS g rE 15 s H locs M) (hl : lv_has ls 3 [(0, .ref (g.2.2 0)), (1, .int x1), (2, .int x2)]) : W p l e (zrm 6 0 0) s m args below meth c H locs 0 0 Q (F0 m 0 ls []) := by
  have hx := E.1.1
  have hb := E.1.2.1
  unfold f_X11_depthAt at h
  refine lv_iconst (v := 0) hx hb dX11_depthAt_0 (by decide) ?_
  refine lv_aload_n hx hb dX11_depthAt_1 rfl (lv_at hl 0 rfl) ?_
  refine lv_iload_n hx hb dX11_depthAt_2 rfl (lv_at hl 2 rfl) ?_
  obtain ⟨u_1, qu_1, h⟩ := zbn_some h
  refine zciR (zrunV E hZ (by decide) (re_0 _) rfl rfl v_X11_waterIn kw_1685 (c_X11_waterIn l g M  x2 qu_1 _) rfl hl.1 rfl (Nat.le_of_ble_eq_true rfl) ⟨by decide, by decide⟩ ⟨by decide, by decide⟩ dX11_depthAt_3) hZ (fun H locs hZ => ?_)
  refine lv_aload_n hx hb dX11_depthAt_6 rfl (lv_at hl 0 rfl) ?_
  refine zg (v := .ref (g.2.2 1)) E hZ (by decide) (re_0 _) kc_X11 1 (by decide) kw_1369 rfl rfl dX11_depthAt_7 ?_
  refine lv_bipush (v := 14) hx hb dX11_depthAt_10 (by decide) ?_
  refine lv_iload_n hx hb dX11_depthAt_12 rfl (lv_at hl 1 rfl) ?_
  refine lv_iadd hx hb dX11_depthAt_13 ?_
  refine zia h E hZ (by decide) re_1 dX11_depthAt_14 (fun h => ?_)
  refine lv_isub hx hb dX11_depthAt_15 ?_
  refine va_mmax hx hb (E.1.2.2.1.trans hl.1.symm) E.1.2.2.2.1 (E.w kw_1697) (E.w kw_453) (E.w kw_16) (E.w kw_454) (Nat.le_of_ble_eq_true rfl) (Nat.le_of_ble_eq_true rfl) (Nat.le_of_ble_eq_true rfl) (Nat.le_of_ble_eq_true rfl) dX11_depthAt_16 ?_
  refine zni h (fun v_2 ev_2 h => ?_)
  exact hret _ _ _ _ _ _ ⟨Option.some.inj h, hM⟩ rfl hZ dX11_depthAt_19
theorem c_X11_depthAt (l : Launch) (g : zG) (M : zM)  (x1 : Int32) (x2 : Int32) {r : Int32} (h : f_X11_depthAt M x1 x2 = some r) : zMi l g rE 15 yX11_depthAt (zWs yX11_depthAt cX11_depthAt 3 (some .int)) 6 [.ref (g.2.2 0), .int x1, .int x2] M (fun v M1 => v = r ∧ M1 = M) :=
  zMi_of (by decide +kernel) (Nat.le_of_ble_eq_true rfl) (fun p e s m args below meth c Q ls E hret hZ hl => w_X11_depthAt g  E hret M rfl x1 x2 _ _ ls h hZ hl)
theorem v_X11_depthAt : zYV yX11_depthAt cX11_depthAt 3 (some .int) 2 := ⟨kw_1705, kw_15, kw_1704, kp_74, by decide +kernel⟩

def f_X11_depthNow (M : zM) (x1 : Int32) : Option (Int32) :=
  zck (zin 4 2030) (zbn (f_X11_depthAt M x1 (M 1 (4 : Int32).toNatClampNeg)) (fun u_1 => some u_1))
set_option maxRecDepth 100000 in
set_option maxHeartbeats 4000000 in
theorem w_X11_depthNow (g : zG)  {r : Int32} {M0 : zM} (E : zX g p m c cX11_depthNow 2 s args (zWs yX11_depthNow cX11_depthNow 2 (some .int)) RX11) (hret : zRi g rE 15 p l e (zrm 7 0 0) s m args below meth c 0 0 Q cX11_depthNow .int (fun v M1 => v = r ∧ M1 = M0)) (M : zM) (hM : M = M0) (x1 : Int32) (H : Heap) (locs : List Loc) (ls : Array Slot) (h : f_X11_depthNow M x1 = some r) (hZ : zS g rE 15 s H locs M) (hl : lv_has ls 2 [(0, .ref (g.2.2 0)), (1, .int x1)]) : W p l e (zrm 7 0 0) s m args below meth c H locs 0 0 Q (F0 m 0 ls []) := by
  have hx := E.1.1
  have hb := E.1.2.1
  unfold f_X11_depthNow at h
  refine lv_aload_n hx hb dX11_depthNow_0 rfl (lv_at hl 0 rfl) ?_
  refine lv_iload_n hx hb dX11_depthNow_1 rfl (lv_at hl 1 rfl) ?_
  refine lv_aload_n hx hb dX11_depthNow_2 rfl (lv_at hl 0 rfl) ?_
  refine zg (v := .ref (g.2.2 1)) E hZ (by decide) (re_0 _) kc_X11 1 (by decide) kw_1369 rfl rfl dX11_depthNow_3 ?_
  refine lv_iconst (v := 4) hx hb dX11_depthNow_6 (by decide) ?_
  refine zia h E hZ (by decide) re_1 dX11_depthNow_7 (fun h => ?_)
  obtain ⟨u_1, qu_1, h⟩ := zbn_some h
  refine zciR (zrunV E hZ (by decide) (re_0 _) rfl rfl v_X11_depthAt kw_1702 (c_X11_depthAt l g M  x1 (M 1 (4 : Int32).toNatClampNeg) qu_1 _) rfl hl.1 rfl (Nat.le_of_ble_eq_true rfl) ⟨by decide, by decide⟩ ⟨by decide, by decide⟩ dX11_depthNow_8) hZ (fun H locs hZ => ?_)
  exact hret _ _ _ _ _ _ ⟨Option.some.inj h, hM⟩ rfl hZ dX11_depthNow_11
theorem c_X11_depthNow (l : Launch) (g : zG) (M : zM)  (x1 : Int32) {r : Int32} (h : f_X11_depthNow M x1 = some r) : zMi l g rE 15 yX11_depthNow (zWs yX11_depthNow cX11_depthNow 2 (some .int)) 7 [.ref (g.2.2 0), .int x1] M (fun v M1 => v = r ∧ M1 = M) :=
  zMi_of (by decide +kernel) (Nat.le_of_ble_eq_true rfl) (fun p e s m args below meth c Q ls E hret hZ hl => w_X11_depthNow g  E hret M rfl x1 _ _ ls h hZ hl)
theorem v_X11_depthNow : zYV yX11_depthNow cX11_depthNow 2 (some .int) 1 := ⟨kw_1772, kw_15, kw_1771, kp_82, by decide +kernel⟩

def f_X11_printedOf (M : zM) (x1 : Int32) : Option (Int32) :=
  zck (zin 5 2030) (zck (zin 10 2030) (zck (zin (26 + x1) 2030) (some ((((M 1 (5 : Int32).toNatClampNeg) * x1) + (M 1 (10 : Int32).toNatClampNeg)) + (M 1 (26 + x1 : Int32).toNatClampNeg)))))
set_option maxRecDepth 100000 in
set_option maxHeartbeats 4000000 in
theorem w_X11_printedOf (g : zG)  {r : Int32} {M0 : zM} (E : zX g p m c cX11_printedOf 2 s args (zWs yX11_printedOf cX11_printedOf 2 (some .int)) RX11) (hret : zRi g rE 15 p l e (zrm 2 0 0) s m args below meth c 0 0 Q cX11_printedOf .int (fun v M1 => v = r ∧ M1 = M0)) (M : zM) (hM : M = M0) (x1 : Int32) (H : Heap) (locs : List Loc) (ls : Array Slot) (h : f_X11_printedOf M x1 = some r) (hZ : zS g rE 15 s H locs M) (hl : lv_has ls 2 [(0, .ref (g.2.2 0)), (1, .int x1)]) : W p l e (zrm 2 0 0) s m args below meth c H locs 0 0 Q (F0 m 0 ls []) := by
  have hx := E.1.1
  have hb := E.1.2.1
  unfold f_X11_printedOf at h
  refine lv_aload_n hx hb dX11_printedOf_0 rfl (lv_at hl 0 rfl) ?_
  refine zg (v := .ref (g.2.2 1)) E hZ (by decide) (re_0 _) kc_X11 1 (by decide) kw_1369 rfl rfl dX11_printedOf_1 ?_
  refine lv_iconst (v := 5) hx hb dX11_printedOf_4 (by decide) ?_
  refine zia h E hZ (by decide) re_1 dX11_printedOf_5 (fun h => ?_)
  refine lv_iload_n hx hb dX11_printedOf_6 rfl (lv_at hl 1 rfl) ?_
  refine lv_imul hx hb dX11_printedOf_7 ?_
  refine lv_aload_n hx hb dX11_printedOf_8 rfl (lv_at hl 0 rfl) ?_
  refine zg (v := .ref (g.2.2 1)) E hZ (by decide) (re_0 _) kc_X11 1 (by decide) kw_1369 rfl rfl dX11_printedOf_9 ?_
  refine lv_bipush (v := 10) hx hb dX11_printedOf_12 (by decide) ?_
  refine zia h E hZ (by decide) re_1 dX11_printedOf_14 (fun h => ?_)
  refine lv_iadd hx hb dX11_printedOf_15 ?_
  refine lv_aload_n hx hb dX11_printedOf_16 rfl (lv_at hl 0 rfl) ?_
  refine zg (v := .ref (g.2.2 1)) E hZ (by decide) (re_0 _) kc_X11 1 (by decide) kw_1369 rfl rfl dX11_printedOf_17 ?_
  refine lv_bipush (v := 26) hx hb dX11_printedOf_20 (by decide) ?_
  refine lv_iload_n hx hb dX11_printedOf_22 rfl (lv_at hl 1 rfl) ?_
  refine lv_iadd hx hb dX11_printedOf_23 ?_
  refine zia h E hZ (by decide) re_1 dX11_printedOf_24 (fun h => ?_)
  refine lv_iadd hx hb dX11_printedOf_25 ?_
  exact hret _ _ _ _ _ _ ⟨Option.some.inj h, hM⟩ rfl hZ dX11_printedOf_26
theorem c_X11_printedOf (l : Launch) (g : zG) (M : zM)  (x1 : Int32) {r : Int32} (h : f_X11_printedOf M x1 = some r) : zMi l g rE 15 yX11_printedOf (zWs yX11_printedOf cX11_printedOf 2 (some .int)) 2 [.ref (g.2.2 0), .int x1] M (fun v M1 => v = r ∧ M1 = M) :=
  zMi_of (by decide +kernel) (Nat.le_of_ble_eq_true rfl) (fun p e s m args below meth c Q ls E hret hZ hl => w_X11_printedOf g  E hret M rfl x1 _ _ ls h hZ hl)
theorem v_X11_printedOf : zYV yX11_printedOf cX11_printedOf 2 (some .int) 1 := ⟨kw_1713, kw_15, kw_1712, kp_75, by decide +kernel⟩

def f_X11_ground (M : zM) (x1 : Int32) : Option (Int32 × zM) :=
  znm (zu M 0 0 0) (fun M_1 => zbn (f_X11_noPlace M_1 x1) (fun u_2 => zbn (f_X11_throwsIf M_1 u_2 1) (fun u_3 => if u_3.1 = 0 then (zck (zin (14 + x1) 2030) (some (u_3.2 1 (14 + x1 : Int32).toNatClampNeg, u_3.2))) else (some (0, u_3.2)))))
set_option maxRecDepth 100000 in
set_option maxHeartbeats 4000000 in
theorem w_X11_ground (g : zG)  {r : Int32 × zM} (E : zX g p m c cX11_ground 2 s args (zWs yX11_ground cX11_ground 2 (some .int)) RX11) (hret : zRi g rE 15 p l e (zrm 4 0 0) s m args below meth c 0 0 Q cX11_ground .int (fun v M1 => r = (v, M1))) (M : zM) (x1 : Int32) (H : Heap) (locs : List Loc) (ls : Array Slot) (h : f_X11_ground M x1 = some r) (hZ : zS g rE 15 s H locs M) (hl : lv_has ls 2 [(0, .ref (g.2.2 0)), (1, .int x1)]) : W p l e (zrm 4 0 0) s m args below meth c H locs 0 0 Q (F0 m 0 ls []) := by
  have hx := E.1.1
  have hb := E.1.2.1
  unfold f_X11_ground at h
  refine lv_aload_n hx hb dX11_ground_0 rfl (lv_at hl 0 rfl) ?_
  refine lv_iconst (v := 0) hx hb dX11_ground_1 (by decide) ?_
  refine zp h E hZ (by decide) (re_0 _) ((re_0 _).trans (congrArg (fun z => Sum.inr (10, z)) (fs_X11_0 g _ _ _))) kc_X11 (by decide) kw_1368 rfl rfl rfl (Nat.le_of_ble_eq_true rfl) dX11_ground_2 (fun M_1 H locs eM_1 h hZ => ?_)
  refine lv_aload_n hx hb dX11_ground_5 rfl (lv_at hl 0 rfl) ?_
  refine lv_iload_n hx hb dX11_ground_6 rfl (lv_at hl 1 rfl) ?_
  obtain ⟨u_2, qu_2, h⟩ := zbn_some h
  refine zciR (zrunS E hZ v_X11_noPlace kw_1663 (c_X11_noPlace l g M_1  x1 qu_2 _) rfl hl.1 rfl (Nat.le_of_ble_eq_true rfl) ⟨by decide, by decide⟩ ⟨by decide, by decide⟩ dX11_ground_7) hZ (fun H locs hZ => ?_)
  refine lv_iconst (v := 1) hx hb dX11_ground_10 (by decide) ?_
  obtain ⟨u_3, qu_3, h⟩ := zbn_some h
  refine zciS (zrunV E hZ (by decide) (re_0 _) rfl rfl v_X11_throwsIf kw_1651 (c_X11_throwsIf l g M_1  u_2 1 qu_3 _) rfl hl.1 rfl (Nat.le_of_ble_eq_true rfl) ⟨by decide, by decide⟩ ⟨by decide, by decide⟩ dX11_ground_11) hZ (fun H locs hZ => ?_)
  refine zif_eq (tgt := 21) h E dX11_ground_14 (by decide) (fun c_4 h => ?_) (fun c_4 h => ?_)
  · refine lv_aload_n hx hb dX11_ground_21 rfl (lv_at hl 0 rfl) ?_
    refine zg (v := .ref (g.2.2 1)) E hZ (by decide) (re_0 _) kc_X11 1 (by decide) kw_1369 rfl rfl dX11_ground_22 ?_
    refine lv_bipush (v := 14) hx hb dX11_ground_25 (by decide) ?_
    refine lv_iload_n hx hb dX11_ground_27 rfl (lv_at hl 1 rfl) ?_
    refine lv_iadd hx hb dX11_ground_28 ?_
    refine zia h E hZ (by decide) re_1 dX11_ground_29 (fun h => ?_)
    exact hret _ _ _ _ _ _ (Option.some.inj h).symm rfl hZ dX11_ground_30
  · refine lv_iconst (v := 0) hx hb dX11_ground_17 (by decide) ?_
    refine lv_goto (tgt := 30) hx hb dX11_ground_18 (by decide) ?_
    exact hret _ _ _ _ _ _ (Option.some.inj h).symm rfl hZ dX11_ground_30
theorem c_X11_ground (l : Launch) (g : zG) (M : zM)  (x1 : Int32) {r : Int32 × zM} (h : f_X11_ground M x1 = some r) : zMi l g rE 15 yX11_ground (zWs yX11_ground cX11_ground 2 (some .int)) 4 [.ref (g.2.2 0), .int x1] M (fun v M1 => r = (v, M1)) :=
  zMi_of (by decide +kernel) (Nat.le_of_ble_eq_true rfl) (fun p e s m args below meth c Q ls E hret hZ hl => w_X11_ground g  E hret M x1 _ _ ls h hZ hl)
theorem v_X11_ground : zYV yX11_ground cX11_ground 2 (some .int) 1 := ⟨kw_1662, kw_15, kw_1660, kw_1661, by decide +kernel⟩

def b_X11_range_22  (M : zM) (x1 : Int32) (t0 : Int32) : Option (Int32 × zM) :=
  zbn (f_X11_throwsIf M t0 1) (fun u_1 => if u_1.1 = 0 then (zbn (f_X11_rangeOf u_1.2 x1) (fun u_2 => some (u_2, u_1.2))) else (some (0, u_1.2)))
set_option maxRecDepth 100000 in
set_option maxHeartbeats 4000000 in
theorem lb_X11_range_22 (g : zG)  {r : Int32 × zM} (E : zX g p m c cX11_range 2 s args (zWs yX11_range cX11_range 2 (some .int)) RX11) (hret : zRi g rE 15 p l e (zrm 4 0 0) s m args below meth c 0 0 Q cX11_range .int (fun v M1 => r = (v, M1))) (M : zM) (x1 : Int32) (t0 : Int32)  (H : Heap) (locs : List Loc) (ls : Array Slot) (h : b_X11_range_22  M x1 t0 = some r) (hZ : zS g rE 15 s H locs M) (hl : lv_has ls 2 [(0, .ref (g.2.2 0)), (1, .int x1)]) : W p l e (zrm 4 0 0) s m args below meth c H locs 0 0 Q (F0 m 22 ls [.int t0, .ref (g.2.2 0)]) := by
  have hx := E.1.1
  have hb := E.1.2.1
  unfold b_X11_range_22 at h
  refine lv_iconst (v := 1) hx hb dX11_range_22 (by decide) ?_
  obtain ⟨u_1, qu_1, h⟩ := zbn_some h
  refine zciS (zrunV E hZ (by decide) (re_0 _) rfl rfl v_X11_throwsIf kw_1651 (c_X11_throwsIf l g M  t0 1 qu_1 _) rfl hl.1 rfl (Nat.le_of_ble_eq_true rfl) ⟨by decide, by decide⟩ ⟨by decide, by decide⟩ dX11_range_23) hZ (fun H locs hZ => ?_)
  refine zif_eq (tgt := 33) h E dX11_range_26 (by decide) (fun c_3 h => ?_) (fun c_3 h => ?_)
  · refine lv_aload_n hx hb dX11_range_33 rfl (lv_at hl 0 rfl) ?_
    refine lv_iload_n hx hb dX11_range_34 rfl (lv_at hl 1 rfl) ?_
    obtain ⟨u_2, qu_2, h⟩ := zbn_some h
    refine zciR (zrunV E hZ (by decide) (re_0 _) rfl rfl v_X11_rangeOf kw_1673 (c_X11_rangeOf l g u_1.2  x1 qu_2 _) rfl hl.1 rfl (Nat.le_of_ble_eq_true rfl) ⟨by decide, by decide⟩ ⟨by decide, by decide⟩ dX11_range_35) hZ (fun H locs hZ => ?_)
    exact hret _ _ _ _ _ _ (Option.some.inj h).symm rfl hZ dX11_range_38
  · refine lv_iconst (v := 0) hx hb dX11_range_29 (by decide) ?_
    refine lv_goto (tgt := 38) hx hb dX11_range_30 (by decide) ?_
    exact hret _ _ _ _ _ _ (Option.some.inj h).symm rfl hZ dX11_range_38
def f_X11_range (M : zM) (x1 : Int32) : Option (Int32 × zM) :=
  znm (zu M 0 0 0) (fun M_4 => zbn (f_X11_in M_4 x1 0 2499) (fun u_5 => if u_5 = 0 then (b_X11_range_22  M_4 x1 1) else (b_X11_range_22  M_4 x1 0)))
set_option maxRecDepth 100000 in
set_option maxHeartbeats 4000000 in
theorem w_X11_range (g : zG)  {r : Int32 × zM} (E : zX g p m c cX11_range 2 s args (zWs yX11_range cX11_range 2 (some .int)) RX11) (hret : zRi g rE 15 p l e (zrm 4 0 0) s m args below meth c 0 0 Q cX11_range .int (fun v M1 => r = (v, M1))) (M : zM) (x1 : Int32) (H : Heap) (locs : List Loc) (ls : Array Slot) (h : f_X11_range M x1 = some r) (hZ : zS g rE 15 s H locs M) (hl : lv_has ls 2 [(0, .ref (g.2.2 0)), (1, .int x1)]) : W p l e (zrm 4 0 0) s m args below meth c H locs 0 0 Q (F0 m 0 ls []) := by
  have hx := E.1.1
  have hb := E.1.2.1
  unfold f_X11_range at h
  refine lv_aload_n hx hb dX11_range_0 rfl (lv_at hl 0 rfl) ?_
  refine lv_iconst (v := 0) hx hb dX11_range_1 (by decide) ?_
  refine zp h E hZ (by decide) (re_0 _) ((re_0 _).trans (congrArg (fun z => Sum.inr (10, z)) (fs_X11_0 g _ _ _))) kc_X11 (by decide) kw_1368 rfl rfl rfl (Nat.le_of_ble_eq_true rfl) dX11_range_2 (fun M_4 H locs eM_4 h hZ => ?_)
  refine lv_aload_n hx hb dX11_range_5 rfl (lv_at hl 0 rfl) ?_
  refine lv_iload_n hx hb dX11_range_6 rfl (lv_at hl 1 rfl) ?_
  refine lv_iconst (v := 0) hx hb dX11_range_7 (by decide) ?_
  refine lv_sipush (v := 2499) hx hb dX11_range_8 (by decide) ?_
  obtain ⟨u_5, qu_5, h⟩ := zbn_some h
  refine zciR (zrunS E hZ v_X11_in kw_1666 (c_X11_in l g M_4  x1 0 2499 qu_5 _) rfl hl.1 rfl (Nat.le_of_ble_eq_true rfl) ⟨by decide, by decide⟩ ⟨by decide, by decide⟩ dX11_range_11) hZ (fun H locs hZ => ?_)
  refine zif_ne (tgt := 21) h E dX11_range_14 (by decide) (fun c_6 h => ?_) (fun c_6 h => ?_)
  · refine lv_iconst (v := 0) hx hb dX11_range_21 (by decide) ?_
    exact lb_X11_range_22 g  E hret M_4 x1 0  H locs ls h hZ (lv_sub hl [0, 1] rfl)
  · refine lv_iconst (v := 1) hx hb dX11_range_17 (by decide) ?_
    refine lv_goto (tgt := 22) hx hb dX11_range_18 (by decide) ?_
    exact lb_X11_range_22 g  E hret M_4 x1 1  H locs ls h hZ (lv_sub hl [0, 1] rfl)
theorem c_X11_range (l : Launch) (g : zG) (M : zM)  (x1 : Int32) {r : Int32 × zM} (h : f_X11_range M x1 = some r) : zMi l g rE 15 yX11_range (zWs yX11_range cX11_range 2 (some .int)) 4 [.ref (g.2.2 0), .int x1] M (fun v M1 => r = (v, M1)) :=
  zMi_of (by decide +kernel) (Nat.le_of_ble_eq_true rfl) (fun p e s m args below meth c Q ls E hret hZ hl => w_X11_range g  E hret M x1 _ _ ls h hZ hl)
theorem v_X11_range : zYV yX11_range cX11_range 2 (some .int) 1 := ⟨kw_1672, kw_15, kw_1670, kw_1671, by decide +kernel⟩

def f_X11_water (M : zM) (x1 : Int32) : Option (Int32 × zM) :=
  znm (zu M 0 0 0) (fun M_1 => zbn (f_X11_noHour M_1 x1) (fun u_2 => zbn (f_X11_throwsIf M_1 u_2 1) (fun u_3 => if u_3.1 = 0 then (zbn (f_X11_waterIn u_3.2 x1) (fun u_4 => some (u_4, u_3.2))) else (some (0, u_3.2)))))
set_option maxRecDepth 100000 in
set_option maxHeartbeats 4000000 in
theorem w_X11_water (g : zG)  {r : Int32 × zM} (E : zX g p m c cX11_water 2 s args (zWs yX11_water cX11_water 2 (some .int)) RX11) (hret : zRi g rE 15 p l e (zrm 6 0 0) s m args below meth c 0 0 Q cX11_water .int (fun v M1 => r = (v, M1))) (M : zM) (x1 : Int32) (H : Heap) (locs : List Loc) (ls : Array Slot) (h : f_X11_water M x1 = some r) (hZ : zS g rE 15 s H locs M) (hl : lv_has ls 2 [(0, .ref (g.2.2 0)), (1, .int x1)]) : W p l e (zrm 6 0 0) s m args below meth c H locs 0 0 Q (F0 m 0 ls []) := by
  have hx := E.1.1
  have hb := E.1.2.1
  unfold f_X11_water at h
  refine lv_aload_n hx hb dX11_water_0 rfl (lv_at hl 0 rfl) ?_
  refine lv_iconst (v := 0) hx hb dX11_water_1 (by decide) ?_
  refine zp h E hZ (by decide) (re_0 _) ((re_0 _).trans (congrArg (fun z => Sum.inr (10, z)) (fs_X11_0 g _ _ _))) kc_X11 (by decide) kw_1368 rfl rfl rfl (Nat.le_of_ble_eq_true rfl) dX11_water_2 (fun M_1 H locs eM_1 h hZ => ?_)
  refine lv_aload_n hx hb dX11_water_5 rfl (lv_at hl 0 rfl) ?_
  refine lv_iload_n hx hb dX11_water_6 rfl (lv_at hl 1 rfl) ?_
  obtain ⟨u_2, qu_2, h⟩ := zbn_some h
  refine zciR (zrunS E hZ v_X11_noHour kw_1682 (c_X11_noHour l g M_1  x1 qu_2 _) rfl hl.1 rfl (Nat.le_of_ble_eq_true rfl) ⟨by decide, by decide⟩ ⟨by decide, by decide⟩ dX11_water_7) hZ (fun H locs hZ => ?_)
  refine lv_iconst (v := 1) hx hb dX11_water_10 (by decide) ?_
  obtain ⟨u_3, qu_3, h⟩ := zbn_some h
  refine zciS (zrunV E hZ (by decide) (re_0 _) rfl rfl v_X11_throwsIf kw_1651 (c_X11_throwsIf l g M_1  u_2 1 qu_3 _) rfl hl.1 rfl (Nat.le_of_ble_eq_true rfl) ⟨by decide, by decide⟩ ⟨by decide, by decide⟩ dX11_water_11) hZ (fun H locs hZ => ?_)
  refine zif_eq (tgt := 21) h E dX11_water_14 (by decide) (fun c_5 h => ?_) (fun c_5 h => ?_)
  · refine lv_aload_n hx hb dX11_water_21 rfl (lv_at hl 0 rfl) ?_
    refine lv_iload_n hx hb dX11_water_22 rfl (lv_at hl 1 rfl) ?_
    obtain ⟨u_4, qu_4, h⟩ := zbn_some h
    refine zciR (zrunV E hZ (by decide) (re_0 _) rfl rfl v_X11_waterIn kw_1685 (c_X11_waterIn l g u_3.2  x1 qu_4 _) rfl hl.1 rfl (Nat.le_of_ble_eq_true rfl) ⟨by decide, by decide⟩ ⟨by decide, by decide⟩ dX11_water_23) hZ (fun H locs hZ => ?_)
    exact hret _ _ _ _ _ _ (Option.some.inj h).symm rfl hZ dX11_water_26
  · refine lv_iconst (v := 0) hx hb dX11_water_17 (by decide) ?_
    refine lv_goto (tgt := 26) hx hb dX11_water_18 (by decide) ?_
    exact hret _ _ _ _ _ _ (Option.some.inj h).symm rfl hZ dX11_water_26
theorem c_X11_water (l : Launch) (g : zG) (M : zM)  (x1 : Int32) {r : Int32 × zM} (h : f_X11_water M x1 = some r) : zMi l g rE 15 yX11_water (zWs yX11_water cX11_water 2 (some .int)) 6 [.ref (g.2.2 0), .int x1] M (fun v M1 => r = (v, M1)) :=
  zMi_of (by decide +kernel) (Nat.le_of_ble_eq_true rfl) (fun p e s m args below meth c Q ls E hret hZ hl => w_X11_water g  E hret M x1 _ _ ls h hZ hl)
theorem v_X11_water : zYV yX11_water cX11_water 2 (some .int) 1 := ⟨kw_1681, kw_15, kw_1679, kw_1680, by decide +kernel⟩

def f_X11_depth (M : zM) (x1 : Int32) (x2 : Int32) : Option (Int32 × zM) :=
  znm (zu M 0 0 0) (fun M_1 => zbn (f_X11_noPlace M_1 x1) (fun u_2 => zbn (f_X11_throwsIf M_1 u_2 1) (fun u_3 => if u_3.1 = 0 then (zbn (f_X11_noHour u_3.2 x2) (fun u_4 => zbn (f_X11_throwsIf u_3.2 u_4 2) (fun u_5 => if u_5.1 = 0 then (zbn (f_X11_depthAt u_5.2 x1 x2) (fun u_6 => some (u_6, u_5.2))) else (some (0, u_5.2))))) else (some (0, u_3.2)))))
set_option maxRecDepth 100000 in
set_option maxHeartbeats 4000000 in
theorem w_X11_depth (g : zG)  {r : Int32 × zM} (E : zX g p m c cX11_depth 3 s args (zWs yX11_depth cX11_depth 3 (some .int)) RX11) (hret : zRi g rE 15 p l e (zrm 7 0 0) s m args below meth c 0 0 Q cX11_depth .int (fun v M1 => r = (v, M1))) (M : zM) (x1 : Int32) (x2 : Int32) (H : Heap) (locs : List Loc) (ls : Array Slot) (h : f_X11_depth M x1 x2 = some r) (hZ : zS g rE 15 s H locs M) (hl : lv_has ls 3 [(0, .ref (g.2.2 0)), (1, .int x1), (2, .int x2)]) : W p l e (zrm 7 0 0) s m args below meth c H locs 0 0 Q (F0 m 0 ls []) := by
  have hx := E.1.1
  have hb := E.1.2.1
  unfold f_X11_depth at h
  refine lv_aload_n hx hb dX11_depth_0 rfl (lv_at hl 0 rfl) ?_
  refine lv_iconst (v := 0) hx hb dX11_depth_1 (by decide) ?_
  refine zp h E hZ (by decide) (re_0 _) ((re_0 _).trans (congrArg (fun z => Sum.inr (10, z)) (fs_X11_0 g _ _ _))) kc_X11 (by decide) kw_1368 rfl rfl rfl (Nat.le_of_ble_eq_true rfl) dX11_depth_2 (fun M_1 H locs eM_1 h hZ => ?_)
  refine lv_aload_n hx hb dX11_depth_5 rfl (lv_at hl 0 rfl) ?_
  refine lv_iload_n hx hb dX11_depth_6 rfl (lv_at hl 1 rfl) ?_
  obtain ⟨u_2, qu_2, h⟩ := zbn_some h
  refine zciR (zrunS E hZ v_X11_noPlace kw_1663 (c_X11_noPlace l g M_1  x1 qu_2 _) rfl hl.1 rfl (Nat.le_of_ble_eq_true rfl) ⟨by decide, by decide⟩ ⟨by decide, by decide⟩ dX11_depth_7) hZ (fun H locs hZ => ?_)
  refine lv_iconst (v := 1) hx hb dX11_depth_10 (by decide) ?_
  obtain ⟨u_3, qu_3, h⟩ := zbn_some h
  refine zciS (zrunV E hZ (by decide) (re_0 _) rfl rfl v_X11_throwsIf kw_1651 (c_X11_throwsIf l g M_1  u_2 1 qu_3 _) rfl hl.1 rfl (Nat.le_of_ble_eq_true rfl) ⟨by decide, by decide⟩ ⟨by decide, by decide⟩ dX11_depth_11) hZ (fun H locs hZ => ?_)
  refine zif_ne (tgt := 29) h E dX11_depth_14 (by decide) (fun c_8 h => ?_) (fun c_8 h => ?_)
  · refine lv_iconst (v := 0) hx hb dX11_depth_29 (by decide) ?_
    refine lv_goto (tgt := 39) hx hb dX11_depth_30 (by decide) ?_
    exact hret _ _ _ _ _ _ (Option.some.inj h).symm rfl hZ dX11_depth_39
  · refine lv_aload_n hx hb dX11_depth_17 rfl (lv_at hl 0 rfl) ?_
    refine lv_iload_n hx hb dX11_depth_18 rfl (lv_at hl 2 rfl) ?_
    obtain ⟨u_4, qu_4, h⟩ := zbn_some h
    refine zciR (zrunS E hZ v_X11_noHour kw_1682 (c_X11_noHour l g u_3.2  x2 qu_4 _) rfl hl.1 rfl (Nat.le_of_ble_eq_true rfl) ⟨by decide, by decide⟩ ⟨by decide, by decide⟩ dX11_depth_19) hZ (fun H locs hZ => ?_)
    refine lv_iconst (v := 2) hx hb dX11_depth_22 (by decide) ?_
    obtain ⟨u_5, qu_5, h⟩ := zbn_some h
    refine zciS (zrunV E hZ (by decide) (re_0 _) rfl rfl v_X11_throwsIf kw_1651 (c_X11_throwsIf l g u_3.2  u_4 2 qu_5 _) rfl hl.1 rfl (Nat.le_of_ble_eq_true rfl) ⟨by decide, by decide⟩ ⟨by decide, by decide⟩ dX11_depth_23) hZ (fun H locs hZ => ?_)
    refine zif_eq (tgt := 33) h E dX11_depth_26 (by decide) (fun c_7 h => ?_) (fun c_7 h => ?_)
    · refine lv_aload_n hx hb dX11_depth_33 rfl (lv_at hl 0 rfl) ?_
      refine lv_iload_n hx hb dX11_depth_34 rfl (lv_at hl 1 rfl) ?_
      refine lv_iload_n hx hb dX11_depth_35 rfl (lv_at hl 2 rfl) ?_
      obtain ⟨u_6, qu_6, h⟩ := zbn_some h
      refine zciR (zrunV E hZ (by decide) (re_0 _) rfl rfl v_X11_depthAt kw_1702 (c_X11_depthAt l g u_5.2  x1 x2 qu_6 _) rfl hl.1 rfl (Nat.le_of_ble_eq_true rfl) ⟨by decide, by decide⟩ ⟨by decide, by decide⟩ dX11_depth_36) hZ (fun H locs hZ => ?_)
      exact hret _ _ _ _ _ _ (Option.some.inj h).symm rfl hZ dX11_depth_39
    · refine lv_iconst (v := 0) hx hb dX11_depth_29 (by decide) ?_
      refine lv_goto (tgt := 39) hx hb dX11_depth_30 (by decide) ?_
      exact hret _ _ _ _ _ _ (Option.some.inj h).symm rfl hZ dX11_depth_39
theorem c_X11_depth (l : Launch) (g : zG) (M : zM)  (x1 : Int32) (x2 : Int32) {r : Int32 × zM} (h : f_X11_depth M x1 x2 = some r) : zMi l g rE 15 yX11_depth (zWs yX11_depth cX11_depth 3 (some .int)) 7 [.ref (g.2.2 0), .int x1, .int x2] M (fun v M1 => r = (v, M1)) :=
  zMi_of (by decide +kernel) (Nat.le_of_ble_eq_true rfl) (fun p e s m args below meth c Q ls E hret hZ hl => w_X11_depth g  E hret M x1 x2 _ _ ls h hZ hl)
theorem v_X11_depth : zYV yX11_depth cX11_depth 3 (some .int) 2 := ⟨kw_1701, kw_15, kw_1699, kw_1700, by decide +kernel⟩

def b_X11_printed_21  (M : zM) (x1 : Int32) (t0 : Int32) : Option (Int32 × zM) :=
  zbn (f_X11_throwsIf M t0 1) (fun u_1 => if u_1.1 = 0 then (zbn (f_X11_printedOf u_1.2 x1) (fun u_2 => some (u_2, u_1.2))) else (some (0, u_1.2)))
set_option maxRecDepth 100000 in
set_option maxHeartbeats 4000000 in
theorem lb_X11_printed_21 (g : zG)  {r : Int32 × zM} (E : zX g p m c cX11_printed 2 s args (zWs yX11_printed cX11_printed 2 (some .int)) RX11) (hret : zRi g rE 15 p l e (zrm 3 0 0) s m args below meth c 0 0 Q cX11_printed .int (fun v M1 => r = (v, M1))) (M : zM) (x1 : Int32) (t0 : Int32)  (H : Heap) (locs : List Loc) (ls : Array Slot) (h : b_X11_printed_21  M x1 t0 = some r) (hZ : zS g rE 15 s H locs M) (hl : lv_has ls 2 [(0, .ref (g.2.2 0)), (1, .int x1)]) : W p l e (zrm 3 0 0) s m args below meth c H locs 0 0 Q (F0 m 21 ls [.int t0, .ref (g.2.2 0)]) := by
  have hx := E.1.1
  have hb := E.1.2.1
  unfold b_X11_printed_21 at h
  refine lv_iconst (v := 1) hx hb dX11_printed_21 (by decide) ?_
  obtain ⟨u_1, qu_1, h⟩ := zbn_some h
  refine zciS (zrunV E hZ (by decide) (re_0 _) rfl rfl v_X11_throwsIf kw_1651 (c_X11_throwsIf l g M  t0 1 qu_1 _) rfl hl.1 rfl (Nat.le_of_ble_eq_true rfl) ⟨by decide, by decide⟩ ⟨by decide, by decide⟩ dX11_printed_22) hZ (fun H locs hZ => ?_)
  refine zif_eq (tgt := 32) h E dX11_printed_25 (by decide) (fun c_3 h => ?_) (fun c_3 h => ?_)
  · refine lv_aload_n hx hb dX11_printed_32 rfl (lv_at hl 0 rfl) ?_
    refine lv_iload_n hx hb dX11_printed_33 rfl (lv_at hl 1 rfl) ?_
    obtain ⟨u_2, qu_2, h⟩ := zbn_some h
    refine zciR (zrunV E hZ (by decide) (re_0 _) rfl rfl v_X11_printedOf kw_1710 (c_X11_printedOf l g u_1.2  x1 qu_2 _) rfl hl.1 rfl (Nat.le_of_ble_eq_true rfl) ⟨by decide, by decide⟩ ⟨by decide, by decide⟩ dX11_printed_34) hZ (fun H locs hZ => ?_)
    exact hret _ _ _ _ _ _ (Option.some.inj h).symm rfl hZ dX11_printed_37
  · refine lv_iconst (v := 0) hx hb dX11_printed_28 (by decide) ?_
    refine lv_goto (tgt := 37) hx hb dX11_printed_29 (by decide) ?_
    exact hret _ _ _ _ _ _ (Option.some.inj h).symm rfl hZ dX11_printed_37
def f_X11_printed (M : zM) (x1 : Int32) : Option (Int32 × zM) :=
  znm (zu M 0 0 0) (fun M_4 => zbn (f_X11_in M_4 x1 0 11) (fun u_5 => if u_5 = 0 then (b_X11_printed_21  M_4 x1 1) else (b_X11_printed_21  M_4 x1 0)))
set_option maxRecDepth 100000 in
set_option maxHeartbeats 4000000 in
theorem w_X11_printed (g : zG)  {r : Int32 × zM} (E : zX g p m c cX11_printed 2 s args (zWs yX11_printed cX11_printed 2 (some .int)) RX11) (hret : zRi g rE 15 p l e (zrm 3 0 0) s m args below meth c 0 0 Q cX11_printed .int (fun v M1 => r = (v, M1))) (M : zM) (x1 : Int32) (H : Heap) (locs : List Loc) (ls : Array Slot) (h : f_X11_printed M x1 = some r) (hZ : zS g rE 15 s H locs M) (hl : lv_has ls 2 [(0, .ref (g.2.2 0)), (1, .int x1)]) : W p l e (zrm 3 0 0) s m args below meth c H locs 0 0 Q (F0 m 0 ls []) := by
  have hx := E.1.1
  have hb := E.1.2.1
  unfold f_X11_printed at h
  refine lv_aload_n hx hb dX11_printed_0 rfl (lv_at hl 0 rfl) ?_
  refine lv_iconst (v := 0) hx hb dX11_printed_1 (by decide) ?_
  refine zp h E hZ (by decide) (re_0 _) ((re_0 _).trans (congrArg (fun z => Sum.inr (10, z)) (fs_X11_0 g _ _ _))) kc_X11 (by decide) kw_1368 rfl rfl rfl (Nat.le_of_ble_eq_true rfl) dX11_printed_2 (fun M_4 H locs eM_4 h hZ => ?_)
  refine lv_aload_n hx hb dX11_printed_5 rfl (lv_at hl 0 rfl) ?_
  refine lv_iload_n hx hb dX11_printed_6 rfl (lv_at hl 1 rfl) ?_
  refine lv_iconst (v := 0) hx hb dX11_printed_7 (by decide) ?_
  refine lv_bipush (v := 11) hx hb dX11_printed_8 (by decide) ?_
  obtain ⟨u_5, qu_5, h⟩ := zbn_some h
  refine zciR (zrunS E hZ v_X11_in kw_1666 (c_X11_in l g M_4  x1 0 11 qu_5 _) rfl hl.1 rfl (Nat.le_of_ble_eq_true rfl) ⟨by decide, by decide⟩ ⟨by decide, by decide⟩ dX11_printed_10) hZ (fun H locs hZ => ?_)
  refine zif_ne (tgt := 20) h E dX11_printed_13 (by decide) (fun c_6 h => ?_) (fun c_6 h => ?_)
  · refine lv_iconst (v := 0) hx hb dX11_printed_20 (by decide) ?_
    exact lb_X11_printed_21 g  E hret M_4 x1 0  H locs ls h hZ (lv_sub hl [0, 1] rfl)
  · refine lv_iconst (v := 1) hx hb dX11_printed_16 (by decide) ?_
    refine lv_goto (tgt := 21) hx hb dX11_printed_17 (by decide) ?_
    exact lb_X11_printed_21 g  E hret M_4 x1 1  H locs ls h hZ (lv_sub hl [0, 1] rfl)
theorem c_X11_printed (l : Launch) (g : zG) (M : zM)  (x1 : Int32) {r : Int32 × zM} (h : f_X11_printed M x1 = some r) : zMi l g rE 15 yX11_printed (zWs yX11_printed cX11_printed 2 (some .int)) 3 [.ref (g.2.2 0), .int x1] M (fun v M1 => r = (v, M1)) :=
  zMi_of (by decide +kernel) (Nat.le_of_ble_eq_true rfl) (fun p e s m args below meth c Q ls E hret hZ hl => w_X11_printed g  E hret M x1 _ _ ls h hZ hl)
theorem v_X11_printed : zYV yX11_printed cX11_printed 2 (some .int) 1 := ⟨kw_1709, kw_15, kw_1707, kw_1708, by decide +kernel⟩

def b_X11_high_21  (M : zM) : Nat → Int32 → Option (Int32 × zM)
  | 0, _ => none
  | n + 1, x2 =>
    zbn (f_X11_stepOf M x2) (fun u_1 => if u_1 = 0 then (some (x2, M)) else (znm (x2 + 1) (fun x2_2 => b_X11_high_21  M n x2_2)))
set_option maxRecDepth 100000 in
set_option maxHeartbeats 4000000 in
theorem lb_X11_high_21 (g : zG)  {r : Int32 × zM} (E : zX g p m c cX11_high 3 s args (zWs yX11_high cX11_high 3 (some .int)) RX11) (hret : zRi g rE 15 p l e (zrm 4 0 0) s m args below meth c 0 0 Q cX11_high .int (fun v M1 => r = (v, M1))) (M : zM)  : ∀ (n : Nat) (x2 : Int32) (H : Heap) (locs : List Loc) (ls : Array Slot), b_X11_high_21  M n x2 = some r → zS g rE 15 s H locs M → lv_has ls 3 [(0, .ref (g.2.2 0)), (2, .int x2)] → W p l e (zrm 4 0 0) s m args below meth c H locs 0 0 Q (F0 m 21 ls []) := by
  have hx := E.1.1
  have hb := E.1.2.1
  intro n
  induction n with
  | zero => intro x2 H locs ls h hZ hl; cases h
  | succ n ih =>
    intro x2 H locs ls h hZ hl
    rw [b_X11_high_21] at h
    refine lv_aload_n hx hb dX11_high_21 rfl (lv_at hl 0 rfl) ?_
    refine lv_iload_n hx hb dX11_high_22 rfl (lv_at hl 1 rfl) ?_
    obtain ⟨u_1, qu_1, h⟩ := zbn_some h
    refine zciR (zrunV E hZ (by decide) (re_0 _) rfl rfl v_X11_stepOf kw_1693 (c_X11_stepOf l g M  x2 qu_1 _) rfl hl.1 rfl (Nat.le_of_ble_eq_true rfl) ⟨by decide, by decide⟩ ⟨by decide, by decide⟩ dX11_high_23) hZ (fun H locs hZ => ?_)
    refine zif_eq (tgt := 35) h E dX11_high_26 (by decide) (fun c_3 h => ?_) (fun c_3 h => ?_)
    · refine lv_iload_n hx hb dX11_high_35 rfl (lv_at hl 1 rfl) ?_
      exact hret _ _ _ _ _ _ (Option.some.inj h).symm rfl hZ dX11_high_36
    · obtain ⟨x2_2, ex2_2, h⟩ := znm_ex h
      refine lv_iinc (v := x2_2) (lv' := [(2, .int x2_2), (0, .ref (g.2.2 0))]) hx hb dX11_high_29 hl (k := 1) rfl (by rw [ex2_2]; rfl) (by decide) rfl (fun ls hl => ?_)
      refine lv_goto (tgt := 21) hx hb dX11_high_32 (by decide) ?_
      exact ih x2_2 H locs ls h hZ (lv_sub hl [1, 0] rfl)
def f_X11_high (M : zM) (x1 : Int32) : Option (Int32 × zM) :=
  znm (zu M 0 0 0) (fun M_4 => zbn (f_X11_noHour M_4 x1) (fun u_5 => zbn (f_X11_throwsIf M_4 u_5 1) (fun u_6 => if u_6.1 = 0 then (b_X11_high_21  u_6.2 6000 x1) else (some (0, u_6.2)))))
set_option maxRecDepth 100000 in
set_option maxHeartbeats 4000000 in
theorem w_X11_high (g : zG)  {r : Int32 × zM} (E : zX g p m c cX11_high 3 s args (zWs yX11_high cX11_high 3 (some .int)) RX11) (hret : zRi g rE 15 p l e (zrm 4 0 0) s m args below meth c 0 0 Q cX11_high .int (fun v M1 => r = (v, M1))) (M : zM) (x1 : Int32) (H : Heap) (locs : List Loc) (ls : Array Slot) (h : f_X11_high M x1 = some r) (hZ : zS g rE 15 s H locs M) (hl : lv_has ls 3 [(0, .ref (g.2.2 0)), (1, .int x1)]) : W p l e (zrm 4 0 0) s m args below meth c H locs 0 0 Q (F0 m 0 ls []) := by
  have hx := E.1.1
  have hb := E.1.2.1
  unfold f_X11_high at h
  refine lv_aload_n hx hb dX11_high_0 rfl (lv_at hl 0 rfl) ?_
  refine lv_iconst (v := 0) hx hb dX11_high_1 (by decide) ?_
  refine zp h E hZ (by decide) (re_0 _) ((re_0 _).trans (congrArg (fun z => Sum.inr (10, z)) (fs_X11_0 g _ _ _))) kc_X11 (by decide) kw_1368 rfl rfl rfl (Nat.le_of_ble_eq_true rfl) dX11_high_2 (fun M_4 H locs eM_4 h hZ => ?_)
  refine lv_aload_n hx hb dX11_high_5 rfl (lv_at hl 0 rfl) ?_
  refine lv_iload_n hx hb dX11_high_6 rfl (lv_at hl 1 rfl) ?_
  obtain ⟨u_5, qu_5, h⟩ := zbn_some h
  refine zciR (zrunS E hZ v_X11_noHour kw_1682 (c_X11_noHour l g M_4  x1 qu_5 _) rfl hl.1 rfl (Nat.le_of_ble_eq_true rfl) ⟨by decide, by decide⟩ ⟨by decide, by decide⟩ dX11_high_7) hZ (fun H locs hZ => ?_)
  refine lv_iconst (v := 1) hx hb dX11_high_10 (by decide) ?_
  obtain ⟨u_6, qu_6, h⟩ := zbn_some h
  refine zciS (zrunV E hZ (by decide) (re_0 _) rfl rfl v_X11_throwsIf kw_1651 (c_X11_throwsIf l g M_4  u_5 1 qu_6 _) rfl hl.1 rfl (Nat.le_of_ble_eq_true rfl) ⟨by decide, by decide⟩ ⟨by decide, by decide⟩ dX11_high_11) hZ (fun H locs hZ => ?_)
  refine zif_eq (tgt := 19) h E dX11_high_14 (by decide) (fun c_7 h => ?_) (fun c_7 h => ?_)
  · refine lv_iload_n hx hb dX11_high_19 rfl (lv_at hl 1 rfl) ?_
    refine lv_istore_n (lv' := [(2, .int x1), (0, .ref (g.2.2 0)), (1, .int x1)]) hx hb dX11_high_20 rfl hl (by decide) rfl (fun ls hl => ?_)
    exact lb_X11_high_21 g  E hret u_6.2  6000 x1 H locs ls h hZ (lv_sub hl [1, 0] rfl)
  · refine lv_iconst (v := 0) hx hb dX11_high_17 (by decide) ?_
    exact hret _ _ _ _ _ _ (Option.some.inj h).symm rfl hZ dX11_high_18
theorem c_X11_high (l : Launch) (g : zG) (M : zM)  (x1 : Int32) {r : Int32 × zM} (h : f_X11_high M x1 = some r) : zMi l g rE 15 yX11_high (zWs yX11_high cX11_high 3 (some .int)) 4 [.ref (g.2.2 0), .int x1] M (fun v M1 => r = (v, M1)) :=
  zMi_of (by decide +kernel) (Nat.le_of_ble_eq_true rfl) (fun p e s m args below meth c Q ls E hret hZ hl => w_X11_high g  E hret M x1 _ _ ls h hZ hl)
theorem v_X11_high : zYV yX11_high cX11_high 3 (some .int) 1 := ⟨kw_1717, kw_15, kw_1715, kw_1716, by decide +kernel⟩

def b_X11_low_68 (K33 : Int32 → Int32 → Option (Int32 × zM)) (M : zM) (x2 : Int32) (x4 : Int32) (t0 : Int32) : Option (Int32 × zM) :=
  znm (x4 + 1) (fun x4_1 => K33 t0 x4_1)
set_option maxRecDepth 100000 in
set_option maxHeartbeats 4000000 in
theorem lb_X11_low_68 (g : zG)  {r : Int32 × zM} (E : zX g p m c cX11_low 5 s args (zWs yX11_low cX11_low 5 (some .int)) RX11) (hret : zRi g rE 15 p l e (zrm 6 0 0) s m args below meth c 0 0 Q cX11_low .int (fun v M1 => r = (v, M1))) (M : zM) (x2 : Int32) (x4 : Int32) (t0 : Int32) (K33 : Int32 → Int32 → Option (Int32 × zM)) (hK33 : ∀ (x3 : Int32) (x4 : Int32) (H : Heap) (locs : List Loc) (ls : Array Slot), K33 x3 x4 = some r → zS g rE 15 s H locs M → lv_has ls 5 [(0, .ref (g.2.2 0)), (2, .int x2), (3, .int x3), (4, .int x4)] → W p l e (zrm 6 0 0) s m args below meth c H locs 0 0 Q (F0 m 33 ls [])) (H : Heap) (locs : List Loc) (ls : Array Slot) (h : b_X11_low_68 K33 M x2 x4 t0 = some r) (hZ : zS g rE 15 s H locs M) (hl : lv_has ls 5 [(0, .ref (g.2.2 0)), (2, .int x2), (4, .int x4)]) : W p l e (zrm 6 0 0) s m args below meth c H locs 0 0 Q (F0 m 68 ls [.int t0]) := by
  have hx := E.1.1
  have hb := E.1.2.1
  unfold b_X11_low_68 at h
  refine lv_istore_n (lv' := [(3, .int t0), (0, .ref (g.2.2 0)), (2, .int x2), (4, .int x4)]) hx hb dX11_low_68 rfl hl (by decide) rfl (fun ls hl => ?_)
  obtain ⟨x4_1, ex4_1, h⟩ := znm_ex h
  refine lv_iinc (v := x4_1) (lv' := [(4, .int x4_1), (3, .int t0), (0, .ref (g.2.2 0)), (2, .int x2)]) hx hb dX11_low_69 hl (k := 3) rfl (by rw [ex4_1]; rfl) (by decide) rfl (fun ls hl => ?_)
  refine lv_goto (tgt := 33) hx hb dX11_low_72 (by decide) ?_
  exact hK33 t0 x4_1 H locs ls h hZ (lv_sub hl [2, 3, 1, 0] rfl)
def b_X11_low_33  (M : zM) (x2 : Int32) : Nat → Int32 → Int32 → Option (Int32 × zM)
  | 0, _, _ => none
  | n + 1, x3, x4 =>
    zck (zin 5 2030) (if (M 1 (5 : Int32).toNatClampNeg) ≤ x4 then (some (x3, M)) else (zbn (f_X11_waterIn M (x2 + x4)) (fun u_2 => zbn (f_X11_waterIn M x3) (fun u_3 => if u_3 ≤ u_2 then (b_X11_low_68 (fun x3 x4 => b_X11_low_33  M x2 n x3 x4) M x2 x4 x3) else (b_X11_low_68 (fun x3 x4 => b_X11_low_33  M x2 n x3 x4) M x2 x4 (x2 + x4))))))
set_option maxRecDepth 100000 in
set_option maxHeartbeats 4000000 in
theorem lb_X11_low_33 (g : zG)  {r : Int32 × zM} (E : zX g p m c cX11_low 5 s args (zWs yX11_low cX11_low 5 (some .int)) RX11) (hret : zRi g rE 15 p l e (zrm 6 0 0) s m args below meth c 0 0 Q cX11_low .int (fun v M1 => r = (v, M1))) (M : zM) (x2 : Int32)  : ∀ (n : Nat) (x3 : Int32) (x4 : Int32) (H : Heap) (locs : List Loc) (ls : Array Slot), b_X11_low_33  M x2 n x3 x4 = some r → zS g rE 15 s H locs M → lv_has ls 5 [(0, .ref (g.2.2 0)), (2, .int x2), (3, .int x3), (4, .int x4)] → W p l e (zrm 6 0 0) s m args below meth c H locs 0 0 Q (F0 m 33 ls []) := by
  have hx := E.1.1
  have hb := E.1.2.1
  intro n
  induction n with
  | zero => intro x3 x4 H locs ls h hZ hl; cases h
  | succ n ih =>
    intro x3 x4 H locs ls h hZ hl
    rw [b_X11_low_33] at h
    refine lv_iload hx hb dX11_low_33 (lv_at hl 3 rfl) ?_
    refine lv_aload_n hx hb dX11_low_35 rfl (lv_at hl 0 rfl) ?_
    refine zg (v := .ref (g.2.2 1)) E hZ (by decide) (re_0 _) kc_X11 1 (by decide) kw_1369 rfl rfl dX11_low_36 ?_
    refine lv_iconst (v := 5) hx hb dX11_low_39 (by decide) ?_
    refine zia h E hZ (by decide) re_1 dX11_low_40 (fun h => ?_)
    refine zic_ge (tgt := 75) h E dX11_low_41 (by decide) (fun c_5 h => ?_) (fun c_5 h => ?_)
    · refine lv_iload_n hx hb dX11_low_75 rfl (lv_at hl 2 rfl) ?_
      exact hret _ _ _ _ _ _ (Option.some.inj h).symm rfl hZ dX11_low_76
    · refine lv_aload_n hx hb dX11_low_44 rfl (lv_at hl 0 rfl) ?_
      refine lv_iload_n hx hb dX11_low_45 rfl (lv_at hl 1 rfl) ?_
      refine lv_iload hx hb dX11_low_46 (lv_at hl 3 rfl) ?_
      refine lv_iadd hx hb dX11_low_48 ?_
      obtain ⟨u_2, qu_2, h⟩ := zbn_some h
      refine zciR (zrunV E hZ (by decide) (re_0 _) rfl rfl v_X11_waterIn kw_1685 (c_X11_waterIn l g M  (x2 + x4) qu_2 _) rfl hl.1 rfl (Nat.le_of_ble_eq_true rfl) ⟨by decide, by decide⟩ ⟨by decide, by decide⟩ dX11_low_49) hZ (fun H locs hZ => ?_)
      refine lv_aload_n hx hb dX11_low_52 rfl (lv_at hl 0 rfl) ?_
      refine lv_iload_n hx hb dX11_low_53 rfl (lv_at hl 2 rfl) ?_
      obtain ⟨u_3, qu_3, h⟩ := zbn_some h
      refine zciR (zrunV E hZ (by decide) (re_0 _) rfl rfl v_X11_waterIn kw_1685 (c_X11_waterIn l g M  x3 qu_3 _) rfl hl.1 rfl (Nat.le_of_ble_eq_true rfl) ⟨by decide, by decide⟩ ⟨by decide, by decide⟩ dX11_low_54) hZ (fun H locs hZ => ?_)
      refine zic_ge (tgt := 67) h E dX11_low_57 (by decide) (fun c_4 h => ?_) (fun c_4 h => ?_)
      · refine lv_iload_n hx hb dX11_low_67 rfl (lv_at hl 2 rfl) ?_
        exact lb_X11_low_68 g  E hret M x2 x4 x3 (fun x3 x4 => b_X11_low_33  M x2 n x3 x4) ih H locs ls h hZ (lv_sub hl [0, 1, 3] rfl)
      · refine lv_iload_n hx hb dX11_low_60 rfl (lv_at hl 1 rfl) ?_
        refine lv_iload hx hb dX11_low_61 (lv_at hl 3 rfl) ?_
        refine lv_iadd hx hb dX11_low_63 ?_
        refine lv_goto (tgt := 68) hx hb dX11_low_64 (by decide) ?_
        exact lb_X11_low_68 g  E hret M x2 x4 (x2 + x4) (fun x3 x4 => b_X11_low_33  M x2 n x3 x4) ih H locs ls h hZ (lv_sub hl [0, 1, 3] rfl)
def f_X11_low (M : zM) (x1 : Int32) : Option (Int32 × zM) :=
  znm (zu M 0 0 0) (fun M_6 => zbn (f_X11_noTide M_6 x1) (fun u_7 => zbn (f_X11_throwsIf M_6 u_7 1) (fun u_8 => if u_8.1 = 0 then (zck (zin 5 2030) (znm ((u_8.2 1 (5 : Int32).toNatClampNeg) * x1) (fun x2_9 => b_X11_low_33  u_8.2 x2_9 6000 x2_9 1))) else (some (0, u_8.2)))))
set_option maxRecDepth 100000 in
set_option maxHeartbeats 4000000 in
theorem w_X11_low (g : zG)  {r : Int32 × zM} (E : zX g p m c cX11_low 5 s args (zWs yX11_low cX11_low 5 (some .int)) RX11) (hret : zRi g rE 15 p l e (zrm 6 0 0) s m args below meth c 0 0 Q cX11_low .int (fun v M1 => r = (v, M1))) (M : zM) (x1 : Int32) (H : Heap) (locs : List Loc) (ls : Array Slot) (h : f_X11_low M x1 = some r) (hZ : zS g rE 15 s H locs M) (hl : lv_has ls 5 [(0, .ref (g.2.2 0)), (1, .int x1)]) : W p l e (zrm 6 0 0) s m args below meth c H locs 0 0 Q (F0 m 0 ls []) := by
  have hx := E.1.1
  have hb := E.1.2.1
  unfold f_X11_low at h
  refine lv_aload_n hx hb dX11_low_0 rfl (lv_at hl 0 rfl) ?_
  refine lv_iconst (v := 0) hx hb dX11_low_1 (by decide) ?_
  refine zp h E hZ (by decide) (re_0 _) ((re_0 _).trans (congrArg (fun z => Sum.inr (10, z)) (fs_X11_0 g _ _ _))) kc_X11 (by decide) kw_1368 rfl rfl rfl (Nat.le_of_ble_eq_true rfl) dX11_low_2 (fun M_6 H locs eM_6 h hZ => ?_)
  refine lv_aload_n hx hb dX11_low_5 rfl (lv_at hl 0 rfl) ?_
  refine lv_iload_n hx hb dX11_low_6 rfl (lv_at hl 1 rfl) ?_
  obtain ⟨u_7, qu_7, h⟩ := zbn_some h
  refine zciR (zrunS E hZ v_X11_noTide kw_1722 (c_X11_noTide l g M_6  x1 qu_7 _) rfl hl.1 rfl (Nat.le_of_ble_eq_true rfl) ⟨by decide, by decide⟩ ⟨by decide, by decide⟩ dX11_low_7) hZ (fun H locs hZ => ?_)
  refine lv_iconst (v := 1) hx hb dX11_low_10 (by decide) ?_
  obtain ⟨u_8, qu_8, h⟩ := zbn_some h
  refine zciS (zrunV E hZ (by decide) (re_0 _) rfl rfl v_X11_throwsIf kw_1651 (c_X11_throwsIf l g M_6  u_7 1 qu_8 _) rfl hl.1 rfl (Nat.le_of_ble_eq_true rfl) ⟨by decide, by decide⟩ ⟨by decide, by decide⟩ dX11_low_11) hZ (fun H locs hZ => ?_)
  refine zif_eq (tgt := 19) h E dX11_low_14 (by decide) (fun c_10 h => ?_) (fun c_10 h => ?_)
  · refine lv_aload_n hx hb dX11_low_19 rfl (lv_at hl 0 rfl) ?_
    refine zg (v := .ref (g.2.2 1)) E hZ (by decide) (re_0 _) kc_X11 1 (by decide) kw_1369 rfl rfl dX11_low_20 ?_
    refine lv_iconst (v := 5) hx hb dX11_low_23 (by decide) ?_
    refine zia h E hZ (by decide) re_1 dX11_low_24 (fun h => ?_)
    refine lv_iload_n hx hb dX11_low_25 rfl (lv_at hl 1 rfl) ?_
    refine lv_imul hx hb dX11_low_26 ?_
    refine zni h (fun x2_9 ex2_9 h => ?_)
    refine lv_istore_n (lv' := [(2, .int x2_9), (0, .ref (g.2.2 0)), (1, .int x1)]) hx hb dX11_low_27 rfl hl (by decide) rfl (fun ls hl => ?_)
    refine lv_iload_n hx hb dX11_low_28 rfl (lv_at hl 0 rfl) ?_
    refine lv_istore_n (lv' := [(3, .int x2_9), (2, .int x2_9), (0, .ref (g.2.2 0)), (1, .int x1)]) hx hb dX11_low_29 rfl hl (by decide) rfl (fun ls hl => ?_)
    refine lv_iconst (v := 1) hx hb dX11_low_30 (by decide) ?_
    refine lv_istore (lv' := [(4, .int 1), (3, .int x2_9), (2, .int x2_9), (0, .ref (g.2.2 0)), (1, .int x1)]) hx hb dX11_low_31 hl (by decide) rfl (fun ls hl => ?_)
    exact lb_X11_low_33 g  E hret u_8.2 x2_9  6000 x2_9 1 H locs ls h hZ (lv_sub hl [3, 2, 1, 0] rfl)
  · refine lv_iconst (v := 0) hx hb dX11_low_17 (by decide) ?_
    exact hret _ _ _ _ _ _ (Option.some.inj h).symm rfl hZ dX11_low_18
theorem c_X11_low (l : Launch) (g : zG) (M : zM)  (x1 : Int32) {r : Int32 × zM} (h : f_X11_low M x1 = some r) : zMi l g rE 15 yX11_low (zWs yX11_low cX11_low 5 (some .int)) 6 [.ref (g.2.2 0), .int x1] M (fun v M1 => r = (v, M1)) :=
  zMi_of (by decide +kernel) (Nat.le_of_ble_eq_true rfl) (fun p e s m args below meth c Q ls E hret hZ hl => w_X11_low g  E hret M x1 _ _ ls h hZ hl)
theorem v_X11_low : zYV yX11_low cX11_low 5 (some .int) 1 := ⟨kw_1721, kw_15, kw_1719, kw_1720, by decide +kernel⟩

def b_X11_dry_72 (K36 : Int32 → Int32 → Option (Int32 × zM)) (M : zM) (x1 : Int32) (x2 : Int32) (x4 : Int32) (t0 : Int32) (t1 : Int32) : Option (Int32 × zM) :=
  znm (t1 + t0) (fun x3_1 => znm (x4 + 1) (fun x4_2 => K36 x3_1 x4_2))
set_option maxRecDepth 100000 in
set_option maxHeartbeats 4000000 in
theorem lb_X11_dry_72 (g : zG)  {r : Int32 × zM} (E : zX g p m c cX11_dry 5 s args (zWs yX11_dry cX11_dry 5 (some .int)) RX11) (hret : zRi g rE 15 p l e (zrm 7 0 0) s m args below meth c 0 0 Q cX11_dry .int (fun v M1 => r = (v, M1))) (M : zM) (x1 : Int32) (x2 : Int32) (x4 : Int32) (t0 : Int32) (t1 : Int32) (K36 : Int32 → Int32 → Option (Int32 × zM)) (hK36 : ∀ (x3 : Int32) (x4 : Int32) (H : Heap) (locs : List Loc) (ls : Array Slot), K36 x3 x4 = some r → zS g rE 15 s H locs M → lv_has ls 5 [(0, .ref (g.2.2 0)), (1, .int x1), (2, .int x2), (3, .int x3), (4, .int x4)] → W p l e (zrm 7 0 0) s m args below meth c H locs 0 0 Q (F0 m 36 ls [])) (H : Heap) (locs : List Loc) (ls : Array Slot) (h : b_X11_dry_72 K36 M x1 x2 x4 t0 t1 = some r) (hZ : zS g rE 15 s H locs M) (hl : lv_has ls 5 [(0, .ref (g.2.2 0)), (1, .int x1), (2, .int x2), (4, .int x4)]) : W p l e (zrm 7 0 0) s m args below meth c H locs 0 0 Q (F0 m 72 ls [.int t0, .int t1]) := by
  have hx := E.1.1
  have hb := E.1.2.1
  unfold b_X11_dry_72 at h
  refine lv_iadd hx hb dX11_dry_72 ?_
  refine zni h (fun x3_1 ex3_1 h => ?_)
  refine lv_istore_n (lv' := [(3, .int x3_1), (0, .ref (g.2.2 0)), (1, .int x1), (2, .int x2), (4, .int x4)]) hx hb dX11_dry_73 rfl hl (by decide) rfl (fun ls hl => ?_)
  obtain ⟨x4_2, ex4_2, h⟩ := znm_ex h
  refine lv_iinc (v := x4_2) (lv' := [(4, .int x4_2), (3, .int x3_1), (0, .ref (g.2.2 0)), (1, .int x1), (2, .int x2)]) hx hb dX11_dry_74 hl (k := 4) rfl (by rw [ex4_2]; rfl) (by decide) rfl (fun ls hl => ?_)
  refine lv_goto (tgt := 36) hx hb dX11_dry_77 (by decide) ?_
  exact hK36 x3_1 x4_2 H locs ls h hZ (lv_sub hl [2, 3, 4, 1, 0] rfl)
def b_X11_dry_36  (M : zM) (x1 : Int32) (x2 : Int32) : Nat → Int32 → Int32 → Option (Int32 × zM)
  | 0, _, _ => none
  | n + 1, x3, x4 =>
    zck (zin 5 2030) (if (M 1 (5 : Int32).toNatClampNeg) ≤ x4 then (some (x3, M)) else (zck (zin 5 2030) (zbn (f_X11_depthAt M x1 (((M 1 (5 : Int32).toNatClampNeg) * x2) + x4)) (fun u_3 => if u_3 = 0 then (b_X11_dry_72 (fun x3 x4 => b_X11_dry_36  M x1 x2 n x3 x4) M x1 x2 x4 1 x3) else (b_X11_dry_72 (fun x3 x4 => b_X11_dry_36  M x1 x2 n x3 x4) M x1 x2 x4 0 x3)))))
set_option maxRecDepth 100000 in
set_option maxHeartbeats 4000000 in
theorem lb_X11_dry_36 (g : zG)  {r : Int32 × zM} (E : zX g p m c cX11_dry 5 s args (zWs yX11_dry cX11_dry 5 (some .int)) RX11) (hret : zRi g rE 15 p l e (zrm 7 0 0) s m args below meth c 0 0 Q cX11_dry .int (fun v M1 => r = (v, M1))) (M : zM) (x1 : Int32) (x2 : Int32)  : ∀ (n : Nat) (x3 : Int32) (x4 : Int32) (H : Heap) (locs : List Loc) (ls : Array Slot), b_X11_dry_36  M x1 x2 n x3 x4 = some r → zS g rE 15 s H locs M → lv_has ls 5 [(0, .ref (g.2.2 0)), (1, .int x1), (2, .int x2), (3, .int x3), (4, .int x4)] → W p l e (zrm 7 0 0) s m args below meth c H locs 0 0 Q (F0 m 36 ls []) := by
  have hx := E.1.1
  have hb := E.1.2.1
  intro n
  induction n with
  | zero => intro x3 x4 H locs ls h hZ hl; cases h
  | succ n ih =>
    intro x3 x4 H locs ls h hZ hl
    rw [b_X11_dry_36] at h
    refine lv_iload hx hb dX11_dry_36 (lv_at hl 4 rfl) ?_
    refine lv_aload_n hx hb dX11_dry_38 rfl (lv_at hl 0 rfl) ?_
    refine zg (v := .ref (g.2.2 1)) E hZ (by decide) (re_0 _) kc_X11 1 (by decide) kw_1369 rfl rfl dX11_dry_39 ?_
    refine lv_iconst (v := 5) hx hb dX11_dry_42 (by decide) ?_
    refine zia h E hZ (by decide) re_1 dX11_dry_43 (fun h => ?_)
    refine zic_ge (tgt := 80) h E dX11_dry_44 (by decide) (fun c_5 h => ?_) (fun c_5 h => ?_)
    · refine lv_iload_n hx hb dX11_dry_80 rfl (lv_at hl 3 rfl) ?_
      exact hret _ _ _ _ _ _ (Option.some.inj h).symm rfl hZ dX11_dry_81
    · refine lv_iload_n hx hb dX11_dry_47 rfl (lv_at hl 3 rfl) ?_
      refine lv_aload_n hx hb dX11_dry_48 rfl (lv_at hl 0 rfl) ?_
      refine lv_iload_n hx hb dX11_dry_49 rfl (lv_at hl 1 rfl) ?_
      refine lv_aload_n hx hb dX11_dry_50 rfl (lv_at hl 0 rfl) ?_
      refine zg (v := .ref (g.2.2 1)) E hZ (by decide) (re_0 _) kc_X11 1 (by decide) kw_1369 rfl rfl dX11_dry_51 ?_
      refine lv_iconst (v := 5) hx hb dX11_dry_54 (by decide) ?_
      refine zia h E hZ (by decide) re_1 dX11_dry_55 (fun h => ?_)
      refine lv_iload_n hx hb dX11_dry_56 rfl (lv_at hl 2 rfl) ?_
      refine lv_imul hx hb dX11_dry_57 ?_
      refine lv_iload hx hb dX11_dry_58 (lv_at hl 4 rfl) ?_
      refine lv_iadd hx hb dX11_dry_60 ?_
      obtain ⟨u_3, qu_3, h⟩ := zbn_some h
      refine zciR (zrunV E hZ (by decide) (re_0 _) rfl rfl v_X11_depthAt kw_1702 (c_X11_depthAt l g M  x1 (((M 1 (5 : Int32).toNatClampNeg) * x2) + x4) qu_3 _) rfl hl.1 rfl (Nat.le_of_ble_eq_true rfl) ⟨by decide, by decide⟩ ⟨by decide, by decide⟩ dX11_dry_61) hZ (fun H locs hZ => ?_)
      refine zif_ne (tgt := 71) h E dX11_dry_64 (by decide) (fun c_4 h => ?_) (fun c_4 h => ?_)
      · refine lv_iconst (v := 0) hx hb dX11_dry_71 (by decide) ?_
        exact lb_X11_dry_72 g  E hret M x1 x2 x4 0 x3 (fun x3 x4 => b_X11_dry_36  M x1 x2 n x3 x4) ih H locs ls h hZ (lv_sub hl [0, 1, 2, 4] rfl)
      · refine lv_iconst (v := 1) hx hb dX11_dry_67 (by decide) ?_
        refine lv_goto (tgt := 72) hx hb dX11_dry_68 (by decide) ?_
        exact lb_X11_dry_72 g  E hret M x1 x2 x4 1 x3 (fun x3 x4 => b_X11_dry_36  M x1 x2 n x3 x4) ih H locs ls h hZ (lv_sub hl [0, 1, 2, 4] rfl)
def f_X11_dry (M : zM) (x1 : Int32) (x2 : Int32) : Option (Int32 × zM) :=
  znm (zu M 0 0 0) (fun M_6 => zbn (f_X11_noPlace M_6 x1) (fun u_7 => zbn (f_X11_throwsIf M_6 u_7 1) (fun u_8 => if u_8.1 = 0 then (zbn (f_X11_noTide u_8.2 x2) (fun u_9 => zbn (f_X11_throwsIf u_8.2 u_9 2) (fun u_10 => if u_10.1 = 0 then (b_X11_dry_36  u_10.2 x1 x2 6000 0 0) else (some (0, u_10.2))))) else (some (0, u_8.2)))))
set_option maxRecDepth 100000 in
set_option maxHeartbeats 4000000 in
theorem w_X11_dry (g : zG)  {r : Int32 × zM} (E : zX g p m c cX11_dry 5 s args (zWs yX11_dry cX11_dry 5 (some .int)) RX11) (hret : zRi g rE 15 p l e (zrm 7 0 0) s m args below meth c 0 0 Q cX11_dry .int (fun v M1 => r = (v, M1))) (M : zM) (x1 : Int32) (x2 : Int32) (H : Heap) (locs : List Loc) (ls : Array Slot) (h : f_X11_dry M x1 x2 = some r) (hZ : zS g rE 15 s H locs M) (hl : lv_has ls 5 [(0, .ref (g.2.2 0)), (1, .int x1), (2, .int x2)]) : W p l e (zrm 7 0 0) s m args below meth c H locs 0 0 Q (F0 m 0 ls []) := by
  have hx := E.1.1
  have hb := E.1.2.1
  unfold f_X11_dry at h
  refine lv_aload_n hx hb dX11_dry_0 rfl (lv_at hl 0 rfl) ?_
  refine lv_iconst (v := 0) hx hb dX11_dry_1 (by decide) ?_
  refine zp h E hZ (by decide) (re_0 _) ((re_0 _).trans (congrArg (fun z => Sum.inr (10, z)) (fs_X11_0 g _ _ _))) kc_X11 (by decide) kw_1368 rfl rfl rfl (Nat.le_of_ble_eq_true rfl) dX11_dry_2 (fun M_6 H locs eM_6 h hZ => ?_)
  refine lv_aload_n hx hb dX11_dry_5 rfl (lv_at hl 0 rfl) ?_
  refine lv_iload_n hx hb dX11_dry_6 rfl (lv_at hl 1 rfl) ?_
  obtain ⟨u_7, qu_7, h⟩ := zbn_some h
  refine zciR (zrunS E hZ v_X11_noPlace kw_1663 (c_X11_noPlace l g M_6  x1 qu_7 _) rfl hl.1 rfl (Nat.le_of_ble_eq_true rfl) ⟨by decide, by decide⟩ ⟨by decide, by decide⟩ dX11_dry_7) hZ (fun H locs hZ => ?_)
  refine lv_iconst (v := 1) hx hb dX11_dry_10 (by decide) ?_
  obtain ⟨u_8, qu_8, h⟩ := zbn_some h
  refine zciS (zrunV E hZ (by decide) (re_0 _) rfl rfl v_X11_throwsIf kw_1651 (c_X11_throwsIf l g M_6  u_7 1 qu_8 _) rfl hl.1 rfl (Nat.le_of_ble_eq_true rfl) ⟨by decide, by decide⟩ ⟨by decide, by decide⟩ dX11_dry_11) hZ (fun H locs hZ => ?_)
  refine zif_ne (tgt := 29) h E dX11_dry_14 (by decide) (fun c_12 h => ?_) (fun c_12 h => ?_)
  · refine lv_iconst (v := 0) hx hb dX11_dry_29 (by decide) ?_
    exact hret _ _ _ _ _ _ (Option.some.inj h).symm rfl hZ dX11_dry_30
  · refine lv_aload_n hx hb dX11_dry_17 rfl (lv_at hl 0 rfl) ?_
    refine lv_iload_n hx hb dX11_dry_18 rfl (lv_at hl 2 rfl) ?_
    obtain ⟨u_9, qu_9, h⟩ := zbn_some h
    refine zciR (zrunS E hZ v_X11_noTide kw_1722 (c_X11_noTide l g u_8.2  x2 qu_9 _) rfl hl.1 rfl (Nat.le_of_ble_eq_true rfl) ⟨by decide, by decide⟩ ⟨by decide, by decide⟩ dX11_dry_19) hZ (fun H locs hZ => ?_)
    refine lv_iconst (v := 2) hx hb dX11_dry_22 (by decide) ?_
    obtain ⟨u_10, qu_10, h⟩ := zbn_some h
    refine zciS (zrunV E hZ (by decide) (re_0 _) rfl rfl v_X11_throwsIf kw_1651 (c_X11_throwsIf l g u_8.2  u_9 2 qu_10 _) rfl hl.1 rfl (Nat.le_of_ble_eq_true rfl) ⟨by decide, by decide⟩ ⟨by decide, by decide⟩ dX11_dry_23) hZ (fun H locs hZ => ?_)
    refine zif_eq (tgt := 31) h E dX11_dry_26 (by decide) (fun c_11 h => ?_) (fun c_11 h => ?_)
    · refine lv_iconst (v := 0) hx hb dX11_dry_31 (by decide) ?_
      refine lv_istore_n (lv' := [(3, .int 0), (0, .ref (g.2.2 0)), (1, .int x1), (2, .int x2)]) hx hb dX11_dry_32 rfl hl (by decide) rfl (fun ls hl => ?_)
      refine lv_iconst (v := 0) hx hb dX11_dry_33 (by decide) ?_
      refine lv_istore (lv' := [(4, .int 0), (3, .int 0), (0, .ref (g.2.2 0)), (1, .int x1), (2, .int x2)]) hx hb dX11_dry_34 hl (by decide) rfl (fun ls hl => ?_)
      exact lb_X11_dry_36 g  E hret u_10.2 x1 x2  6000 0 0 H locs ls h hZ (lv_sub hl [2, 3, 4, 1, 0] rfl)
    · refine lv_iconst (v := 0) hx hb dX11_dry_29 (by decide) ?_
      exact hret _ _ _ _ _ _ (Option.some.inj h).symm rfl hZ dX11_dry_30
theorem c_X11_dry (l : Launch) (g : zG) (M : zM)  (x1 : Int32) (x2 : Int32) {r : Int32 × zM} (h : f_X11_dry M x1 x2 = some r) : zMi l g rE 15 yX11_dry (zWs yX11_dry cX11_dry 5 (some .int)) 7 [.ref (g.2.2 0), .int x1, .int x2] M (fun v M1 => r = (v, M1)) :=
  zMi_of (by decide +kernel) (Nat.le_of_ble_eq_true rfl) (fun p e s m args below meth c Q ls E hret hZ hl => w_X11_dry g  E hret M x1 x2 _ _ ls h hZ hl)
theorem v_X11_dry : zYV yX11_dry cX11_dry 5 (some .int) 2 := ⟨kw_1728, kw_15, kw_1726, kw_1727, by decide +kernel⟩

def b_X11_highest_56 (K23 : Int32 → Int32 → Option (Int32 × zM)) (M : zM) (x1 : Int32) (x3 : Int32) (t0 : Int32) : Option (Int32 × zM) :=
  znm (x3 + 1) (fun x3_1 => K23 t0 x3_1)
set_option maxRecDepth 100000 in
set_option maxHeartbeats 4000000 in
theorem lb_X11_highest_56 (g : zG)  {r : Int32 × zM} (E : zX g p m c cX11_highest 4 s args (zWs yX11_highest cX11_highest 4 (some .int)) RX11) (hret : zRi g rE 15 p l e (zrm 4 0 0) s m args below meth c 0 0 Q cX11_highest .int (fun v M1 => r = (v, M1))) (M : zM) (x1 : Int32) (x3 : Int32) (t0 : Int32) (K23 : Int32 → Int32 → Option (Int32 × zM)) (hK23 : ∀ (x2 : Int32) (x3 : Int32) (H : Heap) (locs : List Loc) (ls : Array Slot), K23 x2 x3 = some r → zS g rE 15 s H locs M → lv_has ls 4 [(0, .ref (g.2.2 0)), (1, .int x1), (2, .int x2), (3, .int x3)] → W p l e (zrm 4 0 0) s m args below meth c H locs 0 0 Q (F0 m 23 ls [])) (H : Heap) (locs : List Loc) (ls : Array Slot) (h : b_X11_highest_56 K23 M x1 x3 t0 = some r) (hZ : zS g rE 15 s H locs M) (hl : lv_has ls 4 [(0, .ref (g.2.2 0)), (1, .int x1), (3, .int x3)]) : W p l e (zrm 4 0 0) s m args below meth c H locs 0 0 Q (F0 m 56 ls [.int t0]) := by
  have hx := E.1.1
  have hb := E.1.2.1
  unfold b_X11_highest_56 at h
  refine lv_istore_n (lv' := [(2, .int t0), (0, .ref (g.2.2 0)), (1, .int x1), (3, .int x3)]) hx hb dX11_highest_56 rfl hl (by decide) rfl (fun ls hl => ?_)
  obtain ⟨x3_1, ex3_1, h⟩ := znm_ex h
  refine lv_iinc (v := x3_1) (lv' := [(3, .int x3_1), (2, .int t0), (0, .ref (g.2.2 0)), (1, .int x1)]) hx hb dX11_highest_57 hl (k := 3) rfl (by rw [ex3_1]; rfl) (by decide) rfl (fun ls hl => ?_)
  refine lv_goto (tgt := 23) hx hb dX11_highest_60 (by decide) ?_
  exact hK23 t0 x3_1 H locs ls h hZ (lv_sub hl [2, 3, 1, 0] rfl)
def b_X11_highest_23  (M : zM) (x1 : Int32) : Nat → Int32 → Int32 → Option (Int32 × zM)
  | 0, _, _ => none
  | n + 1, x2, x3 =>
    zck (zin 6 2030) (if (M 1 (6 : Int32).toNatClampNeg) ≤ x3 then (some (x2, M)) else (zbn (f_X11_rangeOf M (x1 + x3)) (fun u_2 => zbn (f_X11_rangeOf M x2) (fun u_3 => if u_2 ≤ u_3 then (b_X11_highest_56 (fun x2 x3 => b_X11_highest_23  M x1 n x2 x3) M x1 x3 x2) else (b_X11_highest_56 (fun x2 x3 => b_X11_highest_23  M x1 n x2 x3) M x1 x3 (x1 + x3))))))
set_option maxRecDepth 100000 in
set_option maxHeartbeats 4000000 in
theorem lb_X11_highest_23 (g : zG)  {r : Int32 × zM} (E : zX g p m c cX11_highest 4 s args (zWs yX11_highest cX11_highest 4 (some .int)) RX11) (hret : zRi g rE 15 p l e (zrm 4 0 0) s m args below meth c 0 0 Q cX11_highest .int (fun v M1 => r = (v, M1))) (M : zM) (x1 : Int32)  : ∀ (n : Nat) (x2 : Int32) (x3 : Int32) (H : Heap) (locs : List Loc) (ls : Array Slot), b_X11_highest_23  M x1 n x2 x3 = some r → zS g rE 15 s H locs M → lv_has ls 4 [(0, .ref (g.2.2 0)), (1, .int x1), (2, .int x2), (3, .int x3)] → W p l e (zrm 4 0 0) s m args below meth c H locs 0 0 Q (F0 m 23 ls []) := by
  have hx := E.1.1
  have hb := E.1.2.1
  intro n
  induction n with
  | zero => intro x2 x3 H locs ls h hZ hl; cases h
  | succ n ih =>
    intro x2 x3 H locs ls h hZ hl
    rw [b_X11_highest_23] at h
    refine lv_iload_n hx hb dX11_highest_23 rfl (lv_at hl 3 rfl) ?_
    refine lv_aload_n hx hb dX11_highest_24 rfl (lv_at hl 0 rfl) ?_
    refine zg (v := .ref (g.2.2 1)) E hZ (by decide) (re_0 _) kc_X11 1 (by decide) kw_1369 rfl rfl dX11_highest_25 ?_
    refine lv_bipush (v := 6) hx hb dX11_highest_28 (by decide) ?_
    refine zia h E hZ (by decide) re_1 dX11_highest_30 (fun h => ?_)
    refine zic_ge (tgt := 63) h E dX11_highest_31 (by decide) (fun c_5 h => ?_) (fun c_5 h => ?_)
    · refine lv_iload_n hx hb dX11_highest_63 rfl (lv_at hl 2 rfl) ?_
      exact hret _ _ _ _ _ _ (Option.some.inj h).symm rfl hZ dX11_highest_64
    · refine lv_aload_n hx hb dX11_highest_34 rfl (lv_at hl 0 rfl) ?_
      refine lv_iload_n hx hb dX11_highest_35 rfl (lv_at hl 1 rfl) ?_
      refine lv_iload_n hx hb dX11_highest_36 rfl (lv_at hl 3 rfl) ?_
      refine lv_iadd hx hb dX11_highest_37 ?_
      obtain ⟨u_2, qu_2, h⟩ := zbn_some h
      refine zciR (zrunV E hZ (by decide) (re_0 _) rfl rfl v_X11_rangeOf kw_1673 (c_X11_rangeOf l g M  (x1 + x3) qu_2 _) rfl hl.1 rfl (Nat.le_of_ble_eq_true rfl) ⟨by decide, by decide⟩ ⟨by decide, by decide⟩ dX11_highest_38) hZ (fun H locs hZ => ?_)
      refine lv_aload_n hx hb dX11_highest_41 rfl (lv_at hl 0 rfl) ?_
      refine lv_iload_n hx hb dX11_highest_42 rfl (lv_at hl 2 rfl) ?_
      obtain ⟨u_3, qu_3, h⟩ := zbn_some h
      refine zciR (zrunV E hZ (by decide) (re_0 _) rfl rfl v_X11_rangeOf kw_1673 (c_X11_rangeOf l g M  x2 qu_3 _) rfl hl.1 rfl (Nat.le_of_ble_eq_true rfl) ⟨by decide, by decide⟩ ⟨by decide, by decide⟩ dX11_highest_43) hZ (fun H locs hZ => ?_)
      refine zic_le (tgt := 55) h E dX11_highest_46 (by decide) (fun c_4 h => ?_) (fun c_4 h => ?_)
      · refine lv_iload_n hx hb dX11_highest_55 rfl (lv_at hl 2 rfl) ?_
        exact lb_X11_highest_56 g  E hret M x1 x3 x2 (fun x2 x3 => b_X11_highest_23  M x1 n x2 x3) ih H locs ls h hZ (lv_sub hl [0, 1, 3] rfl)
      · refine lv_iload_n hx hb dX11_highest_49 rfl (lv_at hl 1 rfl) ?_
        refine lv_iload_n hx hb dX11_highest_50 rfl (lv_at hl 3 rfl) ?_
        refine lv_iadd hx hb dX11_highest_51 ?_
        refine lv_goto (tgt := 56) hx hb dX11_highest_52 (by decide) ?_
        exact lb_X11_highest_56 g  E hret M x1 x3 (x1 + x3) (fun x2 x3 => b_X11_highest_23  M x1 n x2 x3) ih H locs ls h hZ (lv_sub hl [0, 1, 3] rfl)
def f_X11_highest (M : zM) (x1 : Int32) : Option (Int32 × zM) :=
  znm (zu M 0 0 0) (fun M_6 => zbn (f_X11_noTide M_6 x1) (fun u_7 => zbn (f_X11_throwsIf M_6 u_7 1) (fun u_8 => if u_8.1 = 0 then (b_X11_highest_23  u_8.2 x1 6000 x1 1) else (some (0, u_8.2)))))
set_option maxRecDepth 100000 in
set_option maxHeartbeats 4000000 in
theorem w_X11_highest (g : zG)  {r : Int32 × zM} (E : zX g p m c cX11_highest 4 s args (zWs yX11_highest cX11_highest 4 (some .int)) RX11) (hret : zRi g rE 15 p l e (zrm 4 0 0) s m args below meth c 0 0 Q cX11_highest .int (fun v M1 => r = (v, M1))) (M : zM) (x1 : Int32) (H : Heap) (locs : List Loc) (ls : Array Slot) (h : f_X11_highest M x1 = some r) (hZ : zS g rE 15 s H locs M) (hl : lv_has ls 4 [(0, .ref (g.2.2 0)), (1, .int x1)]) : W p l e (zrm 4 0 0) s m args below meth c H locs 0 0 Q (F0 m 0 ls []) := by
  have hx := E.1.1
  have hb := E.1.2.1
  unfold f_X11_highest at h
  refine lv_aload_n hx hb dX11_highest_0 rfl (lv_at hl 0 rfl) ?_
  refine lv_iconst (v := 0) hx hb dX11_highest_1 (by decide) ?_
  refine zp h E hZ (by decide) (re_0 _) ((re_0 _).trans (congrArg (fun z => Sum.inr (10, z)) (fs_X11_0 g _ _ _))) kc_X11 (by decide) kw_1368 rfl rfl rfl (Nat.le_of_ble_eq_true rfl) dX11_highest_2 (fun M_6 H locs eM_6 h hZ => ?_)
  refine lv_aload_n hx hb dX11_highest_5 rfl (lv_at hl 0 rfl) ?_
  refine lv_iload_n hx hb dX11_highest_6 rfl (lv_at hl 1 rfl) ?_
  obtain ⟨u_7, qu_7, h⟩ := zbn_some h
  refine zciR (zrunS E hZ v_X11_noTide kw_1722 (c_X11_noTide l g M_6  x1 qu_7 _) rfl hl.1 rfl (Nat.le_of_ble_eq_true rfl) ⟨by decide, by decide⟩ ⟨by decide, by decide⟩ dX11_highest_7) hZ (fun H locs hZ => ?_)
  refine lv_iconst (v := 1) hx hb dX11_highest_10 (by decide) ?_
  obtain ⟨u_8, qu_8, h⟩ := zbn_some h
  refine zciS (zrunV E hZ (by decide) (re_0 _) rfl rfl v_X11_throwsIf kw_1651 (c_X11_throwsIf l g M_6  u_7 1 qu_8 _) rfl hl.1 rfl (Nat.le_of_ble_eq_true rfl) ⟨by decide, by decide⟩ ⟨by decide, by decide⟩ dX11_highest_11) hZ (fun H locs hZ => ?_)
  refine zif_eq (tgt := 19) h E dX11_highest_14 (by decide) (fun c_9 h => ?_) (fun c_9 h => ?_)
  · refine lv_iload_n hx hb dX11_highest_19 rfl (lv_at hl 1 rfl) ?_
    refine lv_istore_n (lv' := [(2, .int x1), (0, .ref (g.2.2 0)), (1, .int x1)]) hx hb dX11_highest_20 rfl hl (by decide) rfl (fun ls hl => ?_)
    refine lv_iconst (v := 1) hx hb dX11_highest_21 (by decide) ?_
    refine lv_istore_n (lv' := [(3, .int 1), (2, .int x1), (0, .ref (g.2.2 0)), (1, .int x1)]) hx hb dX11_highest_22 rfl hl (by decide) rfl (fun ls hl => ?_)
    exact lb_X11_highest_23 g  E hret u_8.2 x1  6000 x1 1 H locs ls h hZ (lv_sub hl [2, 3, 1, 0] rfl)
  · refine lv_iconst (v := 0) hx hb dX11_highest_17 (by decide) ?_
    exact hret _ _ _ _ _ _ (Option.some.inj h).symm rfl hZ dX11_highest_18
theorem c_X11_highest (l : Launch) (g : zG) (M : zM)  (x1 : Int32) {r : Int32 × zM} (h : f_X11_highest M x1 = some r) : zMi l g rE 15 yX11_highest (zWs yX11_highest cX11_highest 4 (some .int)) 4 [.ref (g.2.2 0), .int x1] M (fun v M1 => r = (v, M1)) :=
  zMi_of (by decide +kernel) (Nat.le_of_ble_eq_true rfl) (fun p e s m args below meth c Q ls E hret hZ hl => w_X11_highest g  E hret M x1 _ _ ls h hZ hl)
theorem v_X11_highest : zYV yX11_highest cX11_highest 4 (some .int) 1 := ⟨kw_1732, kw_15, kw_1730, kw_1731, by decide +kernel⟩

def b_X11_neaps_38 (K9 : Int32 → Int32 → Option (Int32 × zM)) (M : zM) (x2 : Int32) (t0 : Int32) (t1 : Int32) : Option (Int32 × zM) :=
  znm (t1 ||| t0) (fun x1_1 => znm (x2 + 1) (fun x2_2 => K9 x1_1 x2_2))
set_option maxRecDepth 100000 in
set_option maxHeartbeats 4000000 in
theorem lb_X11_neaps_38 (g : zG)  {r : Int32 × zM} (E : zX g p m c cX11_neaps 3 s args (zWs yX11_neaps cX11_neaps 3 (some .int)) RX11) (hret : zRi g rE 15 p l e (zrm 4 0 0) s m args below meth c 0 0 Q cX11_neaps .int (fun v M1 => r = (v, M1))) (M : zM) (x2 : Int32) (t0 : Int32) (t1 : Int32) (K9 : Int32 → Int32 → Option (Int32 × zM)) (hK9 : ∀ (x1 : Int32) (x2 : Int32) (H : Heap) (locs : List Loc) (ls : Array Slot), K9 x1 x2 = some r → zS g rE 15 s H locs M → lv_has ls 3 [(0, .ref (g.2.2 0)), (1, .int x1), (2, .int x2)] → W p l e (zrm 4 0 0) s m args below meth c H locs 0 0 Q (F0 m 9 ls [])) (H : Heap) (locs : List Loc) (ls : Array Slot) (h : b_X11_neaps_38 K9 M x2 t0 t1 = some r) (hZ : zS g rE 15 s H locs M) (hl : lv_has ls 3 [(0, .ref (g.2.2 0)), (2, .int x2)]) : W p l e (zrm 4 0 0) s m args below meth c H locs 0 0 Q (F0 m 38 ls [.int t0, .int t1]) := by
  have hx := E.1.1
  have hb := E.1.2.1
  unfold b_X11_neaps_38 at h
  refine lv_ior hx hb dX11_neaps_38 ?_
  refine zni h (fun x1_1 ex1_1 h => ?_)
  refine lv_istore_n (lv' := [(1, .int x1_1), (0, .ref (g.2.2 0)), (2, .int x2)]) hx hb dX11_neaps_39 rfl hl (by decide) rfl (fun ls hl => ?_)
  obtain ⟨x2_2, ex2_2, h⟩ := znm_ex h
  refine lv_iinc (v := x2_2) (lv' := [(2, .int x2_2), (1, .int x1_1), (0, .ref (g.2.2 0))]) hx hb dX11_neaps_40 hl (k := 2) rfl (by rw [ex2_2]; rfl) (by decide) rfl (fun ls hl => ?_)
  refine lv_goto (tgt := 9) hx hb dX11_neaps_43 (by decide) ?_
  exact hK9 x1_1 x2_2 H locs ls h hZ (lv_sub hl [2, 1, 0] rfl)
def b_X11_neaps_9  (M : zM) : Nat → Int32 → Int32 → Option (Int32 × zM)
  | 0, _, _ => none
  | n + 1, x1, x2 =>
    if 12 ≤ x2 then (some (x1, M)) else (zbn (f_X11_rangeOf M x2) (fun u_3 => zck (zin 7 2030) (if u_3 = (M 1 (7 : Int32).toNatClampNeg) then (b_X11_neaps_38 (fun x1 x2 => b_X11_neaps_9  M n x1 x2) M x2 ((1 : Int32) <<< (x2 &&& 31)) x1) else (b_X11_neaps_38 (fun x1 x2 => b_X11_neaps_9  M n x1 x2) M x2 0 x1))))
set_option maxRecDepth 100000 in
set_option maxHeartbeats 4000000 in
theorem lb_X11_neaps_9 (g : zG)  {r : Int32 × zM} (E : zX g p m c cX11_neaps 3 s args (zWs yX11_neaps cX11_neaps 3 (some .int)) RX11) (hret : zRi g rE 15 p l e (zrm 4 0 0) s m args below meth c 0 0 Q cX11_neaps .int (fun v M1 => r = (v, M1))) (M : zM)  : ∀ (n : Nat) (x1 : Int32) (x2 : Int32) (H : Heap) (locs : List Loc) (ls : Array Slot), b_X11_neaps_9  M n x1 x2 = some r → zS g rE 15 s H locs M → lv_has ls 3 [(0, .ref (g.2.2 0)), (1, .int x1), (2, .int x2)] → W p l e (zrm 4 0 0) s m args below meth c H locs 0 0 Q (F0 m 9 ls []) := by
  have hx := E.1.1
  have hb := E.1.2.1
  intro n
  induction n with
  | zero => intro x1 x2 H locs ls h hZ hl; cases h
  | succ n ih =>
    intro x1 x2 H locs ls h hZ hl
    rw [b_X11_neaps_9] at h
    refine lv_iload_n hx hb dX11_neaps_9 rfl (lv_at hl 2 rfl) ?_
    refine lv_bipush (v := 12) hx hb dX11_neaps_10 (by decide) ?_
    refine zic_ge (tgt := 46) h E dX11_neaps_12 (by decide) (fun c_5 h => ?_) (fun c_5 h => ?_)
    · refine lv_iload_n hx hb dX11_neaps_46 rfl (lv_at hl 1 rfl) ?_
      exact hret _ _ _ _ _ _ (Option.some.inj h).symm rfl hZ dX11_neaps_47
    · refine lv_iload_n hx hb dX11_neaps_15 rfl (lv_at hl 1 rfl) ?_
      refine lv_aload_n hx hb dX11_neaps_16 rfl (lv_at hl 0 rfl) ?_
      refine lv_iload_n hx hb dX11_neaps_17 rfl (lv_at hl 2 rfl) ?_
      obtain ⟨u_3, qu_3, h⟩ := zbn_some h
      refine zciR (zrunV E hZ (by decide) (re_0 _) rfl rfl v_X11_rangeOf kw_1673 (c_X11_rangeOf l g M  x2 qu_3 _) rfl hl.1 rfl (Nat.le_of_ble_eq_true rfl) ⟨by decide, by decide⟩ ⟨by decide, by decide⟩ dX11_neaps_18) hZ (fun H locs hZ => ?_)
      refine lv_aload_n hx hb dX11_neaps_21 rfl (lv_at hl 0 rfl) ?_
      refine zg (v := .ref (g.2.2 1)) E hZ (by decide) (re_0 _) kc_X11 1 (by decide) kw_1369 rfl rfl dX11_neaps_22 ?_
      refine lv_bipush (v := 7) hx hb dX11_neaps_25 (by decide) ?_
      refine zia h E hZ (by decide) re_1 dX11_neaps_27 (fun h => ?_)
      refine zic_ne (tgt := 37) h E dX11_neaps_28 (by decide) (fun c_4 h => ?_) (fun c_4 h => ?_)
      · refine lv_iconst (v := 0) hx hb dX11_neaps_37 (by decide) ?_
        exact lb_X11_neaps_38 g  E hret M x2 0 x1 (fun x1 x2 => b_X11_neaps_9  M n x1 x2) ih H locs ls h hZ (lv_sub hl [0, 2] rfl)
      · refine lv_iconst (v := 1) hx hb dX11_neaps_31 (by decide) ?_
        refine lv_iload_n hx hb dX11_neaps_32 rfl (lv_at hl 2 rfl) ?_
        refine lv_ishl hx hb dX11_neaps_33 ?_
        refine lv_goto (tgt := 38) hx hb dX11_neaps_34 (by decide) ?_
        exact lb_X11_neaps_38 g  E hret M x2 ((1 : Int32) <<< (x2 &&& 31)) x1 (fun x1 x2 => b_X11_neaps_9  M n x1 x2) ih H locs ls h hZ (lv_sub hl [0, 2] rfl)
def f_X11_neaps (M : zM)  : Option (Int32 × zM) :=
  znm (zu M 0 0 0) (fun M_6 => b_X11_neaps_9  M_6 6000 0 0)
set_option maxRecDepth 100000 in
set_option maxHeartbeats 4000000 in
theorem w_X11_neaps (g : zG)  {r : Int32 × zM} (E : zX g p m c cX11_neaps 3 s args (zWs yX11_neaps cX11_neaps 3 (some .int)) RX11) (hret : zRi g rE 15 p l e (zrm 4 0 0) s m args below meth c 0 0 Q cX11_neaps .int (fun v M1 => r = (v, M1))) (M : zM)  (H : Heap) (locs : List Loc) (ls : Array Slot) (h : f_X11_neaps M  = some r) (hZ : zS g rE 15 s H locs M) (hl : lv_has ls 3 [(0, .ref (g.2.2 0))]) : W p l e (zrm 4 0 0) s m args below meth c H locs 0 0 Q (F0 m 0 ls []) := by
  have hx := E.1.1
  have hb := E.1.2.1
  unfold f_X11_neaps at h
  refine lv_aload_n hx hb dX11_neaps_0 rfl (lv_at hl 0 rfl) ?_
  refine lv_iconst (v := 0) hx hb dX11_neaps_1 (by decide) ?_
  refine zp h E hZ (by decide) (re_0 _) ((re_0 _).trans (congrArg (fun z => Sum.inr (10, z)) (fs_X11_0 g _ _ _))) kc_X11 (by decide) kw_1368 rfl rfl rfl (Nat.le_of_ble_eq_true rfl) dX11_neaps_2 (fun M_6 H locs eM_6 h hZ => ?_)
  refine lv_iconst (v := 0) hx hb dX11_neaps_5 (by decide) ?_
  refine lv_istore_n (lv' := [(1, .int 0), (0, .ref (g.2.2 0))]) hx hb dX11_neaps_6 rfl hl (by decide) rfl (fun ls hl => ?_)
  refine lv_iconst (v := 0) hx hb dX11_neaps_7 (by decide) ?_
  refine lv_istore_n (lv' := [(2, .int 0), (1, .int 0), (0, .ref (g.2.2 0))]) hx hb dX11_neaps_8 rfl hl (by decide) rfl (fun ls hl => ?_)
  exact lb_X11_neaps_9 g  E hret M_6  6000 0 0 H locs ls h hZ (lv_sub hl [2, 1, 0] rfl)
theorem c_X11_neaps (l : Launch) (g : zG) (M : zM)   {r : Int32 × zM} (h : f_X11_neaps M  = some r) : zMi l g rE 15 yX11_neaps (zWs yX11_neaps cX11_neaps 3 (some .int)) 4 [.ref (g.2.2 0)] M (fun v M1 => r = (v, M1)) :=
  zMi_of (by decide +kernel) (Nat.le_of_ble_eq_true rfl) (fun p e s m args below meth c Q ls E hret hZ hl => w_X11_neaps g  E hret M  _ _ ls h hZ hl)
theorem v_X11_neaps : zYV yX11_neaps cX11_neaps 3 (some .int) 0 := ⟨kw_1736, kw_15, kw_1734, kw_1735, by decide +kernel⟩

def b_X11_risk_90 (K56 : Int32 → Int32 → Option (Int32 × zM)) (M : zM) (x1 : Int32) (x2 : Int32) (x3 : Int32) (x5 : Int32) (t0 : Int32) (t1 : Int32) : Option (Int32 × zM) :=
  znm (t1 + t0) (fun x4_1 => znm (x5 + 1) (fun x5_2 => K56 x4_1 x5_2))
set_option maxRecDepth 100000 in
set_option maxHeartbeats 4000000 in
theorem lb_X11_risk_90 (g : zG)  {r : Int32 × zM} (E : zX g p m c cX11_risk 6 s args (zWs yX11_risk cX11_risk 6 (some .int)) RX11) (hret : zRi g rE 15 p l e (zrm 5 0 0) s m args below meth c 0 0 Q cX11_risk .int (fun v M1 => r = (v, M1))) (M : zM) (x1 : Int32) (x2 : Int32) (x3 : Int32) (x5 : Int32) (t0 : Int32) (t1 : Int32) (K56 : Int32 → Int32 → Option (Int32 × zM)) (hK56 : ∀ (x4 : Int32) (x5 : Int32) (H : Heap) (locs : List Loc) (ls : Array Slot), K56 x4 x5 = some r → zS g rE 15 s H locs M → lv_has ls 6 [(0, .ref (g.2.2 0)), (1, .int x1), (2, .int x2), (3, .int x3), (4, .int x4), (5, .int x5)] → W p l e (zrm 5 0 0) s m args below meth c H locs 0 0 Q (F0 m 56 ls [])) (H : Heap) (locs : List Loc) (ls : Array Slot) (h : b_X11_risk_90 K56 M x1 x2 x3 x5 t0 t1 = some r) (hZ : zS g rE 15 s H locs M) (hl : lv_has ls 6 [(0, .ref (g.2.2 0)), (1, .int x1), (2, .int x2), (3, .int x3), (5, .int x5)]) : W p l e (zrm 5 0 0) s m args below meth c H locs 0 0 Q (F0 m 90 ls [.int t0, .int t1]) := by
  have hx := E.1.1
  have hb := E.1.2.1
  unfold b_X11_risk_90 at h
  refine lv_iadd hx hb dX11_risk_90 ?_
  refine zni h (fun x4_1 ex4_1 h => ?_)
  refine lv_istore (lv' := [(4, .int x4_1), (0, .ref (g.2.2 0)), (1, .int x1), (2, .int x2), (3, .int x3), (5, .int x5)]) hx hb dX11_risk_91 hl (by decide) rfl (fun ls hl => ?_)
  obtain ⟨x5_2, ex5_2, h⟩ := znm_ex h
  refine lv_iinc (v := x5_2) (lv' := [(5, .int x5_2), (4, .int x4_1), (0, .ref (g.2.2 0)), (1, .int x1), (2, .int x2), (3, .int x3)]) hx hb dX11_risk_93 hl (k := 5) rfl (by rw [ex5_2]; rfl) (by decide) rfl (fun ls hl => ?_)
  refine lv_goto (tgt := 56) hx hb dX11_risk_96 (by decide) ?_
  exact hK56 x4_1 x5_2 H locs ls h hZ (lv_sub hl [2, 3, 4, 5, 1, 0] rfl)
def b_X11_risk_56  (M : zM) (x1 : Int32) (x2 : Int32) (x3 : Int32) : Nat → Int32 → Int32 → Option (Int32 × zM)
  | 0, _, _ => none
  | n + 1, x4, x5 =>
    if 5 < x5 then (some (x4, M)) else (zbn (f_X11_waterBy M x2 x5) (fun u_3 => zck (zin (14 + x1) 2030) (if (u_3 - (M 1 (14 + x1 : Int32).toNatClampNeg)) ≤ x3 then (b_X11_risk_90 (fun x4 x5 => b_X11_risk_56  M x1 x2 x3 n x4 x5) M x1 x2 x3 x5 0 x4) else (b_X11_risk_90 (fun x4 x5 => b_X11_risk_56  M x1 x2 x3 n x4 x5) M x1 x2 x3 x5 1 x4))))
set_option maxRecDepth 100000 in
set_option maxHeartbeats 4000000 in
theorem lb_X11_risk_56 (g : zG)  {r : Int32 × zM} (E : zX g p m c cX11_risk 6 s args (zWs yX11_risk cX11_risk 6 (some .int)) RX11) (hret : zRi g rE 15 p l e (zrm 5 0 0) s m args below meth c 0 0 Q cX11_risk .int (fun v M1 => r = (v, M1))) (M : zM) (x1 : Int32) (x2 : Int32) (x3 : Int32)  : ∀ (n : Nat) (x4 : Int32) (x5 : Int32) (H : Heap) (locs : List Loc) (ls : Array Slot), b_X11_risk_56  M x1 x2 x3 n x4 x5 = some r → zS g rE 15 s H locs M → lv_has ls 6 [(0, .ref (g.2.2 0)), (1, .int x1), (2, .int x2), (3, .int x3), (4, .int x4), (5, .int x5)] → W p l e (zrm 5 0 0) s m args below meth c H locs 0 0 Q (F0 m 56 ls []) := by
  have hx := E.1.1
  have hb := E.1.2.1
  intro n
  induction n with
  | zero => intro x4 x5 H locs ls h hZ hl; cases h
  | succ n ih =>
    intro x4 x5 H locs ls h hZ hl
    rw [b_X11_risk_56] at h
    refine lv_iload hx hb dX11_risk_56 (lv_at hl 5 rfl) ?_
    refine lv_iconst (v := 5) hx hb dX11_risk_58 (by decide) ?_
    refine zic_gt (tgt := 99) h E dX11_risk_59 (by decide) (fun c_5 h => ?_) (fun c_5 h => ?_)
    · refine lv_iload hx hb dX11_risk_99 (lv_at hl 4 rfl) ?_
      exact hret _ _ _ _ _ _ (Option.some.inj h).symm rfl hZ dX11_risk_101
    · refine lv_iload hx hb dX11_risk_62 (lv_at hl 4 rfl) ?_
      refine lv_aload_n hx hb dX11_risk_64 rfl (lv_at hl 0 rfl) ?_
      refine lv_iload_n hx hb dX11_risk_65 rfl (lv_at hl 2 rfl) ?_
      refine lv_iload hx hb dX11_risk_66 (lv_at hl 5 rfl) ?_
      obtain ⟨u_3, qu_3, h⟩ := zbn_some h
      refine zciR (zrunV E hZ (by decide) (re_0 _) rfl rfl v_X11_waterBy kw_1689 (c_X11_waterBy l g M  x2 x5 qu_3 _) rfl hl.1 rfl (Nat.le_of_ble_eq_true rfl) ⟨by decide, by decide⟩ ⟨by decide, by decide⟩ dX11_risk_68) hZ (fun H locs hZ => ?_)
      refine lv_aload_n hx hb dX11_risk_71 rfl (lv_at hl 0 rfl) ?_
      refine zg (v := .ref (g.2.2 1)) E hZ (by decide) (re_0 _) kc_X11 1 (by decide) kw_1369 rfl rfl dX11_risk_72 ?_
      refine lv_bipush (v := 14) hx hb dX11_risk_75 (by decide) ?_
      refine lv_iload_n hx hb dX11_risk_77 rfl (lv_at hl 1 rfl) ?_
      refine lv_iadd hx hb dX11_risk_78 ?_
      refine zia h E hZ (by decide) re_1 dX11_risk_79 (fun h => ?_)
      refine lv_isub hx hb dX11_risk_80 ?_
      refine lv_iload_n hx hb dX11_risk_81 rfl (lv_at hl 3 rfl) ?_
      refine zic_le (tgt := 89) h E dX11_risk_82 (by decide) (fun c_4 h => ?_) (fun c_4 h => ?_)
      · refine lv_iconst (v := 0) hx hb dX11_risk_89 (by decide) ?_
        exact lb_X11_risk_90 g  E hret M x1 x2 x3 x5 0 x4 (fun x4 x5 => b_X11_risk_56  M x1 x2 x3 n x4 x5) ih H locs ls h hZ (lv_sub hl [0, 1, 2, 3, 5] rfl)
      · refine lv_iconst (v := 1) hx hb dX11_risk_85 (by decide) ?_
        refine lv_goto (tgt := 90) hx hb dX11_risk_86 (by decide) ?_
        exact lb_X11_risk_90 g  E hret M x1 x2 x3 x5 1 x4 (fun x4 x5 => b_X11_risk_56  M x1 x2 x3 n x4 x5) ih H locs ls h hZ (lv_sub hl [0, 1, 2, 3, 5] rfl)
def b_X11_risk_40  (M : zM) (x1 : Int32) (x2 : Int32) (x3 : Int32) (t0 : Int32) : Option (Int32 × zM) :=
  zbn (f_X11_throwsIf M t0 2) (fun u_6 => if u_6.1 = 0 then (b_X11_risk_56  u_6.2 x1 x2 x3 6000 0 ((-5))) else (some (0, u_6.2)))
set_option maxRecDepth 100000 in
set_option maxHeartbeats 4000000 in
theorem lb_X11_risk_40 (g : zG)  {r : Int32 × zM} (E : zX g p m c cX11_risk 6 s args (zWs yX11_risk cX11_risk 6 (some .int)) RX11) (hret : zRi g rE 15 p l e (zrm 5 0 0) s m args below meth c 0 0 Q cX11_risk .int (fun v M1 => r = (v, M1))) (M : zM) (x1 : Int32) (x2 : Int32) (x3 : Int32) (t0 : Int32)  (H : Heap) (locs : List Loc) (ls : Array Slot) (h : b_X11_risk_40  M x1 x2 x3 t0 = some r) (hZ : zS g rE 15 s H locs M) (hl : lv_has ls 6 [(0, .ref (g.2.2 0)), (1, .int x1), (2, .int x2), (3, .int x3)]) : W p l e (zrm 5 0 0) s m args below meth c H locs 0 0 Q (F0 m 40 ls [.int t0, .ref (g.2.2 0)]) := by
  have hx := E.1.1
  have hb := E.1.2.1
  unfold b_X11_risk_40 at h
  refine lv_iconst (v := 2) hx hb dX11_risk_40 (by decide) ?_
  obtain ⟨u_6, qu_6, h⟩ := zbn_some h
  refine zciS (zrunV E hZ (by decide) (re_0 _) rfl rfl v_X11_throwsIf kw_1651 (c_X11_throwsIf l g M  t0 2 qu_6 _) rfl hl.1 rfl (Nat.le_of_ble_eq_true rfl) ⟨by decide, by decide⟩ ⟨by decide, by decide⟩ dX11_risk_41) hZ (fun H locs hZ => ?_)
  refine zif_eq (tgt := 49) h E dX11_risk_44 (by decide) (fun c_7 h => ?_) (fun c_7 h => ?_)
  · refine lv_iconst (v := 0) hx hb dX11_risk_49 (by decide) ?_
    refine lv_istore (lv' := [(4, .int 0), (0, .ref (g.2.2 0)), (1, .int x1), (2, .int x2), (3, .int x3)]) hx hb dX11_risk_50 hl (by decide) rfl (fun ls hl => ?_)
    refine lv_bipush (v := (-5)) hx hb dX11_risk_52 (by decide) ?_
    refine lv_istore (lv' := [(5, .int ((-5))), (4, .int 0), (0, .ref (g.2.2 0)), (1, .int x1), (2, .int x2), (3, .int x3)]) hx hb dX11_risk_54 hl (by decide) rfl (fun ls hl => ?_)
    exact lb_X11_risk_56 g  E hret u_6.2 x1 x2 x3  6000 0 ((-5)) H locs ls h hZ (lv_sub hl [2, 3, 4, 5, 1, 0] rfl)
  · refine lv_iconst (v := 0) hx hb dX11_risk_47 (by decide) ?_
    exact hret _ _ _ _ _ _ (Option.some.inj h).symm rfl hZ dX11_risk_48
def b_X11_risk_35  (M : zM) (x1 : Int32) (x2 : Int32) (x3 : Int32) : Option (Int32 × zM) :=
  b_X11_risk_40  M x1 x2 x3 1
set_option maxRecDepth 100000 in
set_option maxHeartbeats 4000000 in
theorem lb_X11_risk_35 (g : zG)  {r : Int32 × zM} (E : zX g p m c cX11_risk 6 s args (zWs yX11_risk cX11_risk 6 (some .int)) RX11) (hret : zRi g rE 15 p l e (zrm 5 0 0) s m args below meth c 0 0 Q cX11_risk .int (fun v M1 => r = (v, M1))) (M : zM) (x1 : Int32) (x2 : Int32) (x3 : Int32)  (H : Heap) (locs : List Loc) (ls : Array Slot) (h : b_X11_risk_35  M x1 x2 x3 = some r) (hZ : zS g rE 15 s H locs M) (hl : lv_has ls 6 [(0, .ref (g.2.2 0)), (1, .int x1), (2, .int x2), (3, .int x3)]) : W p l e (zrm 5 0 0) s m args below meth c H locs 0 0 Q (F0 m 35 ls [.ref (g.2.2 0)]) := by
  have hx := E.1.1
  have hb := E.1.2.1
  unfold b_X11_risk_35 at h
  refine lv_iconst (v := 1) hx hb dX11_risk_35 (by decide) ?_
  refine lv_goto (tgt := 40) hx hb dX11_risk_36 (by decide) ?_
  exact lb_X11_risk_40 g  E hret M x1 x2 x3 1  H locs ls h hZ (lv_sub hl [0, 1, 2, 3] rfl)
def f_X11_risk (M : zM) (x1 : Int32) (x2 : Int32) (x3 : Int32) : Option (Int32 × zM) :=
  znm (zu M 0 0 0) (fun M_8 => zbn (f_X11_noPlace M_8 x1) (fun u_9 => zbn (f_X11_throwsIf M_8 u_9 1) (fun u_10 => if u_10.1 = 0 then (zbn (f_X11_in u_10.2 x3 0 9) (fun u_11 => if u_11 = 0 then (b_X11_risk_35  u_10.2 x1 x2 x3) else (zbn (f_X11_noHour u_10.2 x2) (fun u_12 => if u_12 = 0 then (b_X11_risk_40  u_10.2 x1 x2 x3 0) else (b_X11_risk_35  u_10.2 x1 x2 x3))))) else (some (0, u_10.2)))))
set_option maxRecDepth 100000 in
set_option maxHeartbeats 4000000 in
theorem w_X11_risk (g : zG)  {r : Int32 × zM} (E : zX g p m c cX11_risk 6 s args (zWs yX11_risk cX11_risk 6 (some .int)) RX11) (hret : zRi g rE 15 p l e (zrm 5 0 0) s m args below meth c 0 0 Q cX11_risk .int (fun v M1 => r = (v, M1))) (M : zM) (x1 : Int32) (x2 : Int32) (x3 : Int32) (H : Heap) (locs : List Loc) (ls : Array Slot) (h : f_X11_risk M x1 x2 x3 = some r) (hZ : zS g rE 15 s H locs M) (hl : lv_has ls 6 [(0, .ref (g.2.2 0)), (1, .int x1), (2, .int x2), (3, .int x3)]) : W p l e (zrm 5 0 0) s m args below meth c H locs 0 0 Q (F0 m 0 ls []) := by
  have hx := E.1.1
  have hb := E.1.2.1
  unfold f_X11_risk at h
  refine lv_aload_n hx hb dX11_risk_0 rfl (lv_at hl 0 rfl) ?_
  refine lv_iconst (v := 0) hx hb dX11_risk_1 (by decide) ?_
  refine zp h E hZ (by decide) (re_0 _) ((re_0 _).trans (congrArg (fun z => Sum.inr (10, z)) (fs_X11_0 g _ _ _))) kc_X11 (by decide) kw_1368 rfl rfl rfl (Nat.le_of_ble_eq_true rfl) dX11_risk_2 (fun M_8 H locs eM_8 h hZ => ?_)
  refine lv_aload_n hx hb dX11_risk_5 rfl (lv_at hl 0 rfl) ?_
  refine lv_iload_n hx hb dX11_risk_6 rfl (lv_at hl 1 rfl) ?_
  obtain ⟨u_9, qu_9, h⟩ := zbn_some h
  refine zciR (zrunS E hZ v_X11_noPlace kw_1663 (c_X11_noPlace l g M_8  x1 qu_9 _) rfl hl.1 rfl (Nat.le_of_ble_eq_true rfl) ⟨by decide, by decide⟩ ⟨by decide, by decide⟩ dX11_risk_7) hZ (fun H locs hZ => ?_)
  refine lv_iconst (v := 1) hx hb dX11_risk_10 (by decide) ?_
  obtain ⟨u_10, qu_10, h⟩ := zbn_some h
  refine zciS (zrunV E hZ (by decide) (re_0 _) rfl rfl v_X11_throwsIf kw_1651 (c_X11_throwsIf l g M_8  u_9 1 qu_10 _) rfl hl.1 rfl (Nat.le_of_ble_eq_true rfl) ⟨by decide, by decide⟩ ⟨by decide, by decide⟩ dX11_risk_11) hZ (fun H locs hZ => ?_)
  refine zif_ne (tgt := 47) h E dX11_risk_14 (by decide) (fun c_15 h => ?_) (fun c_15 h => ?_)
  · refine lv_iconst (v := 0) hx hb dX11_risk_47 (by decide) ?_
    exact hret _ _ _ _ _ _ (Option.some.inj h).symm rfl hZ dX11_risk_48
  · refine lv_aload_n hx hb dX11_risk_17 rfl (lv_at hl 0 rfl) ?_
    refine lv_iload_n hx hb dX11_risk_18 rfl (lv_at hl 3 rfl) ?_
    refine lv_iconst (v := 0) hx hb dX11_risk_19 (by decide) ?_
    refine lv_bipush (v := 9) hx hb dX11_risk_20 (by decide) ?_
    obtain ⟨u_11, qu_11, h⟩ := zbn_some h
    refine zciR (zrunS E hZ v_X11_in kw_1666 (c_X11_in l g u_10.2  x3 0 9 qu_11 _) rfl hl.1 rfl (Nat.le_of_ble_eq_true rfl) ⟨by decide, by decide⟩ ⟨by decide, by decide⟩ dX11_risk_22) hZ (fun H locs hZ => ?_)
    refine zif_eq (tgt := 35) h E dX11_risk_25 (by decide) (fun c_14 h => ?_) (fun c_14 h => ?_)
    · exact lb_X11_risk_35 g  E hret u_10.2 x1 x2 x3  H locs ls h hZ (lv_sub hl [0, 1, 2, 3] rfl)
    · refine lv_iload_n hx hb dX11_risk_28 rfl (lv_at hl 2 rfl) ?_
      obtain ⟨u_12, qu_12, h⟩ := zbn_some h
      refine zciR (zrunS E hZ v_X11_noHour kw_1682 (c_X11_noHour l g u_10.2  x2 qu_12 _) rfl hl.1 rfl (Nat.le_of_ble_eq_true rfl) ⟨by decide, by decide⟩ ⟨by decide, by decide⟩ dX11_risk_29) hZ (fun H locs hZ => ?_)
      refine zif_eq (tgt := 39) h E dX11_risk_32 (by decide) (fun c_13 h => ?_) (fun c_13 h => ?_)
      · refine lv_iconst (v := 0) hx hb dX11_risk_39 (by decide) ?_
        exact lb_X11_risk_40 g  E hret u_10.2 x1 x2 x3 0  H locs ls h hZ (lv_sub hl [0, 1, 2, 3] rfl)
      · exact lb_X11_risk_35 g  E hret u_10.2 x1 x2 x3  H locs ls h hZ (lv_sub hl [0, 1, 2, 3] rfl)
theorem c_X11_risk (l : Launch) (g : zG) (M : zM)  (x1 : Int32) (x2 : Int32) (x3 : Int32) {r : Int32 × zM} (h : f_X11_risk M x1 x2 x3 = some r) : zMi l g rE 15 yX11_risk (zWs yX11_risk cX11_risk 6 (some .int)) 5 [.ref (g.2.2 0), .int x1, .int x2, .int x3] M (fun v M1 => r = (v, M1)) :=
  zMi_of (by decide +kernel) (Nat.le_of_ble_eq_true rfl) (fun p e s m args below meth c Q ls E hret hZ hl => w_X11_risk g  E hret M x1 x2 x3 _ _ ls h hZ hl)
theorem v_X11_risk : zYV yX11_risk cX11_risk 6 (some .int) 3 := ⟨kw_1740, kw_15, kw_1738, kw_1739, by decide +kernel⟩

def f_X11_isThere (M : zM) (x1 : Int32) : Option (Int32) :=
  zbn (f_X11_of M x1 0) (fun u_1 => zbn (f_X11_of M x1 1) (fun u_2 => if u_1 = u_2 then (some 1) else (some 0)))
set_option maxRecDepth 100000 in
set_option maxHeartbeats 4000000 in
theorem w_X11_isThere (g : zG)  {r : Int32} {M0 : zM} (E : zX g p m c cX11_isThere 2 s args (zWs yX11_isThere cX11_isThere 2 (some .boolean)) RX11) (hret : zRi g rE 15 p l e (zrm 4 0 0) s m args below meth c 0 0 Q cX11_isThere .boolean (fun v M1 => v = r ∧ M1 = M0)) (M : zM) (hM : M = M0) (x1 : Int32) (H : Heap) (locs : List Loc) (ls : Array Slot) (h : f_X11_isThere M x1 = some r) (hZ : zS g rE 15 s H locs M) (hl : lv_has ls 2 [(0, .ref (g.2.2 0)), (1, .int x1)]) : W p l e (zrm 4 0 0) s m args below meth c H locs 0 0 Q (F0 m 0 ls []) := by
  have hx := E.1.1
  have hb := E.1.2.1
  unfold f_X11_isThere at h
  refine lv_aload_n hx hb dX11_isThere_0 rfl (lv_at hl 0 rfl) ?_
  refine lv_iload_n hx hb dX11_isThere_1 rfl (lv_at hl 1 rfl) ?_
  refine lv_iconst (v := 0) hx hb dX11_isThere_2 (by decide) ?_
  obtain ⟨u_1, qu_1, h⟩ := zbn_some h
  refine zciR (zrunV E hZ (by decide) (re_0 _) rfl rfl v_X11_of kw_1765 (c_X11_of l g M  x1 0 qu_1 _) rfl hl.1 rfl (Nat.le_of_ble_eq_true rfl) ⟨by decide, by decide⟩ ⟨by decide, by decide⟩ dX11_isThere_3) hZ (fun H locs hZ => ?_)
  refine lv_aload_n hx hb dX11_isThere_6 rfl (lv_at hl 0 rfl) ?_
  refine lv_iload_n hx hb dX11_isThere_7 rfl (lv_at hl 1 rfl) ?_
  refine lv_iconst (v := 1) hx hb dX11_isThere_8 (by decide) ?_
  obtain ⟨u_2, qu_2, h⟩ := zbn_some h
  refine zciR (zrunV E hZ (by decide) (re_0 _) rfl rfl v_X11_of kw_1765 (c_X11_of l g M  x1 1 qu_2 _) rfl hl.1 rfl (Nat.le_of_ble_eq_true rfl) ⟨by decide, by decide⟩ ⟨by decide, by decide⟩ dX11_isThere_9) hZ (fun H locs hZ => ?_)
  refine zic_ne (tgt := 19) h E dX11_isThere_12 (by decide) (fun c_3 h => ?_) (fun c_3 h => ?_)
  · refine lv_iconst (v := 0) hx hb dX11_isThere_19 (by decide) ?_
    exact hret _ _ _ _ _ _ ⟨Option.some.inj h, hM⟩ rfl hZ dX11_isThere_20
  · refine lv_iconst (v := 1) hx hb dX11_isThere_15 (by decide) ?_
    refine lv_goto (tgt := 20) hx hb dX11_isThere_16 (by decide) ?_
    exact hret _ _ _ _ _ _ ⟨Option.some.inj h, hM⟩ rfl hZ dX11_isThere_20
theorem c_X11_isThere (l : Launch) (g : zG) (M : zM)  (x1 : Int32) {r : Int32} (h : f_X11_isThere M x1 = some r) : zMi l g rE 15 yX11_isThere (zWs yX11_isThere cX11_isThere 2 (some .boolean)) 4 [.ref (g.2.2 0), .int x1] M (fun v M1 => v = r ∧ M1 = M) :=
  zMi_of (by decide +kernel) (Nat.le_of_ble_eq_true rfl) (fun p e s m args below meth c Q ls E hret hZ hl => w_X11_isThere g  E hret M rfl x1 _ _ ls h hZ hl)
theorem v_X11_isThere : zYV yX11_isThere cX11_isThere 2 (some .boolean) 1 := ⟨kw_1776, kw_15, kw_1775, kp_83, by decide +kernel⟩

def f_X11_factOf (M : zM) (x1 : Int32) (x2 : Int32) (x3 : Int32) : Option (Int32) :=
  if x1 = 0 then (some x3) else if x1 = 1 then (zbn (f_X11_of M x3 0) (fun u_1 => some u_1)) else if x1 = 2 then (zbn (f_X11_of M x3 0) (fun u_2 => zbn (f_X11_depthNow M u_2) (fun u_3 => some u_3))) else if x1 = 3 then (zck (zin 4 2030) (zbn (f_X11_stepOf M (M 1 (4 : Int32).toNatClampNeg)) (fun u_4 => some u_4))) else if x1 = 4 then (zbn (f_X11_of M x3 3) (fun u_5 => some u_5)) else if x1 = 5 then (zck (zin 4 2030) (zck (decide (¬ (24 : Int32) = 0)) (some ((M 1 (4 : Int32).toNatClampNeg) - (M 1 (4 : Int32).toNatClampNeg) / 24 * 24)))) else if x1 = 6 then (zck (zin 4 2030) (zbn (f_X11_stepOf M (M 1 (4 : Int32).toNatClampNeg)) (fun u_6 => zck (zin 5 2030) (if (2 * u_6) < (M 1 (5 : Int32).toNatClampNeg) then (some 0) else (some 1))))) else if x1 = 7 then (zbn (f_X11_isThere M x3) (fun u_8 => if u_8 = 0 then (some 0) else (some 1))) else (some x2)
set_option maxRecDepth 100000 in
set_option maxHeartbeats 4000000 in
theorem w_X11_factOf (g : zG)  {r : Int32} {M0 : zM} (E : zX g p m c cX11_factOf 4 s args (zWs yX11_factOf cX11_factOf 4 (some .int)) RX11) (hret : zRi g rE 15 p l e (zrm 8 0 0) s m args below meth c 0 0 Q cX11_factOf .int (fun v M1 => v = r ∧ M1 = M0)) (M : zM) (hM : M = M0) (x1 : Int32) (x2 : Int32) (x3 : Int32) (H : Heap) (locs : List Loc) (ls : Array Slot) (h : f_X11_factOf M x1 x2 x3 = some r) (hZ : zS g rE 15 s H locs M) (hl : lv_has ls 4 [(0, .ref (g.2.2 0)), (1, .int x1), (2, .int x2), (3, .int x3)]) : W p l e (zrm 8 0 0) s m args below meth c H locs 0 0 Q (F0 m 0 ls []) := by
  have hx := E.1.1
  have hb := E.1.2.1
  unfold f_X11_factOf at h
  refine lv_iload_n hx hb dX11_factOf_0 rfl (lv_at hl 1 rfl) ?_
  rcases zsp h with ⟨c_10, h⟩ | ⟨c_10, h⟩
  · refine lv_tableIn (tgt := 48) hx hb dX11_factOf_1 (by rw [c_10]; decide) (by rw [c_10]; decide) (by rw [c_10]; rfl) (by decide) ?_
    refine lv_iload_n hx hb dX11_factOf_48 rfl (lv_at hl 3 rfl) ?_
    exact hret _ _ _ _ _ _ ⟨Option.some.inj h, hM⟩ rfl hZ dX11_factOf_49
  rcases zsp h with ⟨c_11, h⟩ | ⟨c_11, h⟩
  · refine lv_tableIn (tgt := 50) hx hb dX11_factOf_1 (by rw [c_11]; decide) (by rw [c_11]; decide) (by rw [c_11]; rfl) (by decide) ?_
    refine lv_aload_n hx hb dX11_factOf_50 rfl (lv_at hl 0 rfl) ?_
    refine lv_iload_n hx hb dX11_factOf_51 rfl (lv_at hl 3 rfl) ?_
    refine lv_iconst (v := 0) hx hb dX11_factOf_52 (by decide) ?_
    obtain ⟨u_1, qu_1, h⟩ := zbn_some h
    refine zciR (zrunV E hZ (by decide) (re_0 _) rfl rfl v_X11_of kw_1765 (c_X11_of l g M  x3 0 qu_1 _) rfl hl.1 rfl (Nat.le_of_ble_eq_true rfl) ⟨by decide, by decide⟩ ⟨by decide, by decide⟩ dX11_factOf_53) hZ (fun H locs hZ => ?_)
    exact hret _ _ _ _ _ _ ⟨Option.some.inj h, hM⟩ rfl hZ dX11_factOf_56
  rcases zsp h with ⟨c_12, h⟩ | ⟨c_12, h⟩
  · refine lv_tableIn (tgt := 57) hx hb dX11_factOf_1 (by rw [c_12]; decide) (by rw [c_12]; decide) (by rw [c_12]; rfl) (by decide) ?_
    refine lv_aload_n hx hb dX11_factOf_57 rfl (lv_at hl 0 rfl) ?_
    refine lv_aload_n hx hb dX11_factOf_58 rfl (lv_at hl 0 rfl) ?_
    refine lv_iload_n hx hb dX11_factOf_59 rfl (lv_at hl 3 rfl) ?_
    refine lv_iconst (v := 0) hx hb dX11_factOf_60 (by decide) ?_
    obtain ⟨u_2, qu_2, h⟩ := zbn_some h
    refine zciR (zrunV E hZ (by decide) (re_0 _) rfl rfl v_X11_of kw_1765 (c_X11_of l g M  x3 0 qu_2 _) rfl hl.1 rfl (Nat.le_of_ble_eq_true rfl) ⟨by decide, by decide⟩ ⟨by decide, by decide⟩ dX11_factOf_61) hZ (fun H locs hZ => ?_)
    obtain ⟨u_3, qu_3, h⟩ := zbn_some h
    refine zciR (zrunV E hZ (by decide) (re_0 _) rfl rfl v_X11_depthNow kw_1769 (c_X11_depthNow l g M  u_2 qu_3 _) rfl hl.1 rfl (Nat.le_of_ble_eq_true rfl) ⟨by decide, by decide⟩ ⟨by decide, by decide⟩ dX11_factOf_64) hZ (fun H locs hZ => ?_)
    exact hret _ _ _ _ _ _ ⟨Option.some.inj h, hM⟩ rfl hZ dX11_factOf_67
  rcases zsp h with ⟨c_13, h⟩ | ⟨c_13, h⟩
  · refine lv_tableIn (tgt := 68) hx hb dX11_factOf_1 (by rw [c_13]; decide) (by rw [c_13]; decide) (by rw [c_13]; rfl) (by decide) ?_
    refine lv_aload_n hx hb dX11_factOf_68 rfl (lv_at hl 0 rfl) ?_
    refine lv_aload_n hx hb dX11_factOf_69 rfl (lv_at hl 0 rfl) ?_
    refine zg (v := .ref (g.2.2 1)) E hZ (by decide) (re_0 _) kc_X11 1 (by decide) kw_1369 rfl rfl dX11_factOf_70 ?_
    refine lv_iconst (v := 4) hx hb dX11_factOf_73 (by decide) ?_
    refine zia h E hZ (by decide) re_1 dX11_factOf_74 (fun h => ?_)
    obtain ⟨u_4, qu_4, h⟩ := zbn_some h
    refine zciR (zrunV E hZ (by decide) (re_0 _) rfl rfl v_X11_stepOf kw_1693 (c_X11_stepOf l g M  (M 1 (4 : Int32).toNatClampNeg) qu_4 _) rfl hl.1 rfl (Nat.le_of_ble_eq_true rfl) ⟨by decide, by decide⟩ ⟨by decide, by decide⟩ dX11_factOf_75) hZ (fun H locs hZ => ?_)
    exact hret _ _ _ _ _ _ ⟨Option.some.inj h, hM⟩ rfl hZ dX11_factOf_78
  rcases zsp h with ⟨c_14, h⟩ | ⟨c_14, h⟩
  · refine lv_tableIn (tgt := 79) hx hb dX11_factOf_1 (by rw [c_14]; decide) (by rw [c_14]; decide) (by rw [c_14]; rfl) (by decide) ?_
    refine lv_aload_n hx hb dX11_factOf_79 rfl (lv_at hl 0 rfl) ?_
    refine lv_iload_n hx hb dX11_factOf_80 rfl (lv_at hl 3 rfl) ?_
    refine lv_iconst (v := 3) hx hb dX11_factOf_81 (by decide) ?_
    obtain ⟨u_5, qu_5, h⟩ := zbn_some h
    refine zciR (zrunV E hZ (by decide) (re_0 _) rfl rfl v_X11_of kw_1765 (c_X11_of l g M  x3 3 qu_5 _) rfl hl.1 rfl (Nat.le_of_ble_eq_true rfl) ⟨by decide, by decide⟩ ⟨by decide, by decide⟩ dX11_factOf_82) hZ (fun H locs hZ => ?_)
    exact hret _ _ _ _ _ _ ⟨Option.some.inj h, hM⟩ rfl hZ dX11_factOf_85
  rcases zsp h with ⟨c_15, h⟩ | ⟨c_15, h⟩
  · refine lv_tableIn (tgt := 86) hx hb dX11_factOf_1 (by rw [c_15]; decide) (by rw [c_15]; decide) (by rw [c_15]; rfl) (by decide) ?_
    refine lv_aload_n hx hb dX11_factOf_86 rfl (lv_at hl 0 rfl) ?_
    refine zg (v := .ref (g.2.2 1)) E hZ (by decide) (re_0 _) kc_X11 1 (by decide) kw_1369 rfl rfl dX11_factOf_87 ?_
    refine lv_iconst (v := 4) hx hb dX11_factOf_90 (by decide) ?_
    refine zia h E hZ (by decide) re_1 dX11_factOf_91 (fun h => ?_)
    refine lv_bipush (v := 24) hx hb dX11_factOf_92 (by decide) ?_
    refine zrem h E dX11_factOf_94 (fun h => ?_)
    exact hret _ _ _ _ _ _ ⟨Option.some.inj h, hM⟩ rfl hZ dX11_factOf_95
  rcases zsp h with ⟨c_16, h⟩ | ⟨c_16, h⟩
  · refine lv_tableIn (tgt := 96) hx hb dX11_factOf_1 (by rw [c_16]; decide) (by rw [c_16]; decide) (by rw [c_16]; rfl) (by decide) ?_
    refine lv_iconst (v := 2) hx hb dX11_factOf_96 (by decide) ?_
    refine lv_aload_n hx hb dX11_factOf_97 rfl (lv_at hl 0 rfl) ?_
    refine lv_aload_n hx hb dX11_factOf_98 rfl (lv_at hl 0 rfl) ?_
    refine zg (v := .ref (g.2.2 1)) E hZ (by decide) (re_0 _) kc_X11 1 (by decide) kw_1369 rfl rfl dX11_factOf_99 ?_
    refine lv_iconst (v := 4) hx hb dX11_factOf_102 (by decide) ?_
    refine zia h E hZ (by decide) re_1 dX11_factOf_103 (fun h => ?_)
    obtain ⟨u_6, qu_6, h⟩ := zbn_some h
    refine zciR (zrunV E hZ (by decide) (re_0 _) rfl rfl v_X11_stepOf kw_1693 (c_X11_stepOf l g M  (M 1 (4 : Int32).toNatClampNeg) qu_6 _) rfl hl.1 rfl (Nat.le_of_ble_eq_true rfl) ⟨by decide, by decide⟩ ⟨by decide, by decide⟩ dX11_factOf_104) hZ (fun H locs hZ => ?_)
    refine lv_imul hx hb dX11_factOf_107 ?_
    refine lv_aload_n hx hb dX11_factOf_108 rfl (lv_at hl 0 rfl) ?_
    refine zg (v := .ref (g.2.2 1)) E hZ (by decide) (re_0 _) kc_X11 1 (by decide) kw_1369 rfl rfl dX11_factOf_109 ?_
    refine lv_iconst (v := 5) hx hb dX11_factOf_112 (by decide) ?_
    refine zia h E hZ (by decide) re_1 dX11_factOf_113 (fun h => ?_)
    refine zic_lt (tgt := 121) h E dX11_factOf_114 (by decide) (fun c_7 h => ?_) (fun c_7 h => ?_)
    · refine lv_iconst (v := 0) hx hb dX11_factOf_121 (by decide) ?_
      exact hret _ _ _ _ _ _ ⟨Option.some.inj h, hM⟩ rfl hZ dX11_factOf_122
    · refine lv_iconst (v := 1) hx hb dX11_factOf_117 (by decide) ?_
      refine lv_goto (tgt := 122) hx hb dX11_factOf_118 (by decide) ?_
      exact hret _ _ _ _ _ _ ⟨Option.some.inj h, hM⟩ rfl hZ dX11_factOf_122
  rcases zsp h with ⟨c_17, h⟩ | ⟨c_17, h⟩
  · refine lv_tableIn (tgt := 123) hx hb dX11_factOf_1 (by rw [c_17]; decide) (by rw [c_17]; decide) (by rw [c_17]; rfl) (by decide) ?_
    refine lv_aload_n hx hb dX11_factOf_123 rfl (lv_at hl 0 rfl) ?_
    refine lv_iload_n hx hb dX11_factOf_124 rfl (lv_at hl 3 rfl) ?_
    obtain ⟨u_8, qu_8, h⟩ := zbn_some h
    refine zciR (zrunV E hZ (by decide) (re_0 _) rfl rfl v_X11_isThere kw_1773 (c_X11_isThere l g M  x3 qu_8 _) rfl hl.1 rfl (Nat.le_of_ble_eq_true rfl) ⟨by decide, by decide⟩ ⟨by decide, by decide⟩ dX11_factOf_125) hZ (fun H locs hZ => ?_)
    refine zif_eq (tgt := 135) h E dX11_factOf_128 (by decide) (fun c_9 h => ?_) (fun c_9 h => ?_)
    · refine lv_iconst (v := 0) hx hb dX11_factOf_135 (by decide) ?_
      exact hret _ _ _ _ _ _ ⟨Option.some.inj h, hM⟩ rfl hZ dX11_factOf_136
    · refine lv_iconst (v := 1) hx hb dX11_factOf_131 (by decide) ?_
      refine lv_goto (tgt := 136) hx hb dX11_factOf_132 (by decide) ?_
      exact hret _ _ _ _ _ _ ⟨Option.some.inj h, hM⟩ rfl hZ dX11_factOf_136
  have hdf : W p l e (zrm 8 0 0) s m args below meth c H locs 0 0 Q (F0 m 137 ls []) := by
    refine lv_iload_n hx hb dX11_factOf_137 rfl (lv_at hl 2 rfl) ?_
    exact hret _ _ _ _ _ _ ⟨Option.some.inj h, hM⟩ rfl hZ dX11_factOf_138
  exact lv_tableOut (tgt := 137) hx hb dX11_factOf_1 (zsw_out [0, 1, 2, 3, 4, 5, 6, 7] (by decide) (by simp [c_10, c_11, c_12, c_13, c_14, c_15, c_16, c_17])) (by decide) hdf
theorem c_X11_factOf (l : Launch) (g : zG) (M : zM)  (x1 : Int32) (x2 : Int32) (x3 : Int32) {r : Int32} (h : f_X11_factOf M x1 x2 x3 = some r) : zMi l g rE 15 yX11_factOf (zWs yX11_factOf cX11_factOf 4 (some .int)) 8 [.ref (g.2.2 0), .int x1, .int x2, .int x3] M (fun v M1 => v = r ∧ M1 = M) :=
  zMi_of (by decide +kernel) (Nat.le_of_ble_eq_true rfl) (fun p e s m args below meth c Q ls E hret hZ hl => w_X11_factOf g  E hret M rfl x1 x2 x3 _ _ ls h hZ hl)
theorem v_X11_factOf : zYV yX11_factOf cX11_factOf 4 (some .int) 3 := ⟨kw_1764, kw_15, kw_1763, kp_80, by decide +kernel⟩

def b_X11_holdsLine_263  (M : zM) (x3 : Int32) : Option (Int32 × zM) :=
  if x3 = 0 then (some (1, M)) else (zck (zin 0 400) (if (M 8 (0 : Int32).toNatClampNeg) = 1 then (some (1, M)) else (some (0, M))))
set_option maxRecDepth 100000 in
set_option maxHeartbeats 4000000 in
theorem lb_X11_holdsLine_263 (g : zG)  {r : Int32 × zM} (E : zX g p m c cX11_holdsLine 10 s args (zWs yX11_holdsLine cX11_holdsLine 10 (some .boolean)) RX11) (hret : zRi g rE 15 p l e (zrm 9 0 0) s m args below meth c 0 0 Q cX11_holdsLine .boolean (fun v M1 => r = (v, M1))) (M : zM) (x3 : Int32)  (H : Heap) (locs : List Loc) (ls : Array Slot) (h : b_X11_holdsLine_263  M x3 = some r) (hZ : zS g rE 15 s H locs M) (hl : lv_has ls 10 [(0, .ref (g.2.2 0)), (3, .int x3)]) : W p l e (zrm 9 0 0) s m args below meth c H locs 0 0 Q (F0 m 263 ls []) := by
  have hx := E.1.1
  have hb := E.1.2.1
  unfold b_X11_holdsLine_263 at h
  refine lv_iload_n hx hb dX11_holdsLine_263 rfl (lv_at hl 1 rfl) ?_
  refine zif_eq (tgt := 277) h E dX11_holdsLine_264 (by decide) (fun c_2 h => ?_) (fun c_2 h => ?_)
  · refine lv_iconst (v := 1) hx hb dX11_holdsLine_277 (by decide) ?_
    refine lv_goto (tgt := 282) hx hb dX11_holdsLine_278 (by decide) ?_
    exact hret _ _ _ _ _ _ (Option.some.inj h).symm rfl hZ dX11_holdsLine_282
  · refine lv_aload_n hx hb dX11_holdsLine_267 rfl (lv_at hl 0 rfl) ?_
    refine zg (v := .ref (g.2.2 8)) E hZ (by decide) (re_0 _) kc_X11 17 (by decide) kw_1385 rfl rfl dX11_holdsLine_268 ?_
    refine lv_iconst (v := 0) hx hb dX11_holdsLine_271 (by decide) ?_
    refine zia h E hZ (by decide) re_8 dX11_holdsLine_272 (fun h => ?_)
    refine lv_iconst (v := 1) hx hb dX11_holdsLine_273 (by decide) ?_
    refine zic_ne (tgt := 281) h E dX11_holdsLine_274 (by decide) (fun c_1 h => ?_) (fun c_1 h => ?_)
    · refine lv_iconst (v := 0) hx hb dX11_holdsLine_281 (by decide) ?_
      exact hret _ _ _ _ _ _ (Option.some.inj h).symm rfl hZ dX11_holdsLine_282
    · refine lv_iconst (v := 1) hx hb dX11_holdsLine_277 (by decide) ?_
      refine lv_goto (tgt := 282) hx hb dX11_holdsLine_278 (by decide) ?_
      exact hret _ _ _ _ _ _ (Option.some.inj h).symm rfl hZ dX11_holdsLine_282
def b_X11_holdsLine_257 (K22 : zM → Int32 → Int32 → Option (Int32 × zM)) (M : zM) (x2 : Int32) (x3 : Int32) (x4 : Int32) (x5 : Int32) : Option (Int32 × zM) :=
  znm (x5 + 1) (fun x5_3 => K22 M x3 x5_3)
set_option maxRecDepth 100000 in
set_option maxHeartbeats 4000000 in
theorem lb_X11_holdsLine_257 (g : zG)  {r : Int32 × zM} (E : zX g p m c cX11_holdsLine 10 s args (zWs yX11_holdsLine cX11_holdsLine 10 (some .boolean)) RX11) (hret : zRi g rE 15 p l e (zrm 9 0 0) s m args below meth c 0 0 Q cX11_holdsLine .boolean (fun v M1 => r = (v, M1))) (M : zM) (x2 : Int32) (x3 : Int32) (x4 : Int32) (x5 : Int32) (K22 : zM → Int32 → Int32 → Option (Int32 × zM)) (hK22 : ∀ (M : zM) (x3 : Int32) (x5 : Int32) (H : Heap) (locs : List Loc) (ls : Array Slot), K22 M x3 x5 = some r → zS g rE 15 s H locs M → lv_has ls 10 [(0, .ref (g.2.2 0)), (2, .int x2), (3, .int x3), (4, .int x4), (5, .int x5)] → W p l e (zrm 9 0 0) s m args below meth c H locs 0 0 Q (F0 m 22 ls [])) (H : Heap) (locs : List Loc) (ls : Array Slot) (h : b_X11_holdsLine_257 K22 M x2 x3 x4 x5 = some r) (hZ : zS g rE 15 s H locs M) (hl : lv_has ls 10 [(0, .ref (g.2.2 0)), (2, .int x2), (3, .int x3), (4, .int x4), (5, .int x5)]) : W p l e (zrm 9 0 0) s m args below meth c H locs 0 0 Q (F0 m 257 ls []) := by
  have hx := E.1.1
  have hb := E.1.2.1
  unfold b_X11_holdsLine_257 at h
  obtain ⟨x5_3, ex5_3, h⟩ := znm_ex h
  refine lv_iinc (v := x5_3) (lv' := [(5, .int x5_3), (0, .ref (g.2.2 0)), (2, .int x2), (3, .int x3), (4, .int x4)]) hx hb dX11_holdsLine_257 hl (k := 4) rfl (by rw [ex5_3]; rfl) (by decide) rfl (fun ls hl => ?_)
  refine lv_goto (tgt := 22) hx hb dX11_holdsLine_260 (by decide) ?_
  exact hK22 M x3 x5_3 H locs ls h hZ (lv_sub hl [1, 2, 3, 4, 0] rfl)
def b_X11_holdsLine_256 (K22 : zM → Int32 → Int32 → Option (Int32 × zM)) (M : zM) (x2 : Int32) (x3 : Int32) (x4 : Int32) (x5 : Int32) (t0 : Int32) (t1 : Int32) : Option (Int32 × zM) :=
  zck (zin t1 400) (znm (zu M 8 (t1 : Int32).toNatClampNeg t0) (fun M_4 => b_X11_holdsLine_257 K22 M_4 x2 x3 x4 x5))
set_option maxRecDepth 100000 in
set_option maxHeartbeats 4000000 in
theorem lb_X11_holdsLine_256 (g : zG)  {r : Int32 × zM} (E : zX g p m c cX11_holdsLine 10 s args (zWs yX11_holdsLine cX11_holdsLine 10 (some .boolean)) RX11) (hret : zRi g rE 15 p l e (zrm 9 0 0) s m args below meth c 0 0 Q cX11_holdsLine .boolean (fun v M1 => r = (v, M1))) (M : zM) (x2 : Int32) (x3 : Int32) (x4 : Int32) (x5 : Int32) (t0 : Int32) (t1 : Int32) (K22 : zM → Int32 → Int32 → Option (Int32 × zM)) (hK22 : ∀ (M : zM) (x3 : Int32) (x5 : Int32) (H : Heap) (locs : List Loc) (ls : Array Slot), K22 M x3 x5 = some r → zS g rE 15 s H locs M → lv_has ls 10 [(0, .ref (g.2.2 0)), (2, .int x2), (3, .int x3), (4, .int x4), (5, .int x5)] → W p l e (zrm 9 0 0) s m args below meth c H locs 0 0 Q (F0 m 22 ls [])) (H : Heap) (locs : List Loc) (ls : Array Slot) (h : b_X11_holdsLine_256 K22 M x2 x3 x4 x5 t0 t1 = some r) (hZ : zS g rE 15 s H locs M) (hl : lv_has ls 10 [(0, .ref (g.2.2 0)), (2, .int x2), (3, .int x3), (4, .int x4), (5, .int x5)]) : W p l e (zrm 9 0 0) s m args below meth c H locs 0 0 Q (F0 m 256 ls [.int t0, .int t1, .ref (g.2.2 8)]) := by
  have hx := E.1.1
  have hb := E.1.2.1
  unfold b_X11_holdsLine_256 at h
  refine zis h E hZ (by decide) re_8 dX11_holdsLine_256 (fun M_4 H locs eM_4 h hZ => ?_)
  exact lb_X11_holdsLine_257 g  E hret M_4 x2 x3 x4 x5 K22 hK22 H locs ls h hZ (lv_sub hl [0, 1, 2, 3, 4] rfl)
def b_X11_holdsLine_222 (K22 : zM → Int32 → Int32 → Option (Int32 × zM)) (M : zM) (x2 : Int32) (x3 : Int32) (x4 : Int32) (x5 : Int32) (x6 : Int32) (x7 : Int32) (x8 : Int32) (t0 : Int32) : Option (Int32 × zM) :=
  if x6 = 9 then (b_X11_holdsLine_256 K22 M x2 x3 x4 x5 (x7 + x8) (x3 - 1)) else (if t0 = 0 then (b_X11_holdsLine_256 K22 M x2 x3 x4 x5 0 (x3 - 1)) else (b_X11_holdsLine_256 K22 M x2 x3 x4 x5 1 (x3 - 1)))
set_option maxRecDepth 100000 in
set_option maxHeartbeats 4000000 in
theorem lb_X11_holdsLine_222 (g : zG)  {r : Int32 × zM} (E : zX g p m c cX11_holdsLine 10 s args (zWs yX11_holdsLine cX11_holdsLine 10 (some .boolean)) RX11) (hret : zRi g rE 15 p l e (zrm 9 0 0) s m args below meth c 0 0 Q cX11_holdsLine .boolean (fun v M1 => r = (v, M1))) (M : zM) (x2 : Int32) (x3 : Int32) (x4 : Int32) (x5 : Int32) (x6 : Int32) (x7 : Int32) (x8 : Int32) (t0 : Int32) (K22 : zM → Int32 → Int32 → Option (Int32 × zM)) (hK22 : ∀ (M : zM) (x3 : Int32) (x5 : Int32) (H : Heap) (locs : List Loc) (ls : Array Slot), K22 M x3 x5 = some r → zS g rE 15 s H locs M → lv_has ls 10 [(0, .ref (g.2.2 0)), (2, .int x2), (3, .int x3), (4, .int x4), (5, .int x5)] → W p l e (zrm 9 0 0) s m args below meth c H locs 0 0 Q (F0 m 22 ls [])) (H : Heap) (locs : List Loc) (ls : Array Slot) (h : b_X11_holdsLine_222 K22 M x2 x3 x4 x5 x6 x7 x8 t0 = some r) (hZ : zS g rE 15 s H locs M) (hl : lv_has ls 10 [(0, .ref (g.2.2 0)), (2, .int x2), (3, .int x3), (4, .int x4), (5, .int x5), (6, .int x6), (7, .int x7), (8, .int x8)]) : W p l e (zrm 9 0 0) s m args below meth c H locs 0 0 Q (F0 m 222 ls [.int t0]) := by
  have hx := E.1.1
  have hb := E.1.2.1
  unfold b_X11_holdsLine_222 at h
  refine lv_istore (lv' := [(9, .int t0), (0, .ref (g.2.2 0)), (2, .int x2), (3, .int x3), (4, .int x4), (5, .int x5), (6, .int x6), (7, .int x7), (8, .int x8)]) hx hb dX11_holdsLine_222 hl (by decide) rfl (fun ls hl => ?_)
  refine lv_aload_n hx hb dX11_holdsLine_224 rfl (lv_at hl 1 rfl) ?_
  refine zg (v := .ref (g.2.2 8)) E hZ (by decide) (re_0 _) kc_X11 17 (by decide) kw_1385 rfl rfl dX11_holdsLine_225 ?_
  refine lv_iload_n hx hb dX11_holdsLine_228 rfl (lv_at hl 3 rfl) ?_
  refine lv_iconst (v := 1) hx hb dX11_holdsLine_229 (by decide) ?_
  refine lv_isub hx hb dX11_holdsLine_230 ?_
  refine lv_iload hx hb dX11_holdsLine_231 (lv_at hl 6 rfl) ?_
  refine lv_bipush (v := 9) hx hb dX11_holdsLine_233 (by decide) ?_
  refine zic_ne (tgt := 246) h E dX11_holdsLine_235 (by decide) (fun c_6 h => ?_) (fun c_6 h => ?_)
  · refine lv_iload hx hb dX11_holdsLine_246 (lv_at hl 0 rfl) ?_
    refine zif_eq (tgt := 255) h E dX11_holdsLine_248 (by decide) (fun c_5 h => ?_) (fun c_5 h => ?_)
    · refine lv_iconst (v := 0) hx hb dX11_holdsLine_255 (by decide) ?_
      exact lb_X11_holdsLine_256 g  E hret M x2 x3 x4 x5 0 (x3 - 1) K22 hK22 H locs ls h hZ (lv_sub hl [1, 2, 3, 4, 5] rfl)
    · refine lv_iconst (v := 1) hx hb dX11_holdsLine_251 (by decide) ?_
      refine lv_goto (tgt := 256) hx hb dX11_holdsLine_252 (by decide) ?_
      exact lb_X11_holdsLine_256 g  E hret M x2 x3 x4 x5 1 (x3 - 1) K22 hK22 H locs ls h hZ (lv_sub hl [1, 2, 3, 4, 5] rfl)
  · refine lv_iload hx hb dX11_holdsLine_238 (lv_at hl 7 rfl) ?_
    refine lv_iload hx hb dX11_holdsLine_240 (lv_at hl 8 rfl) ?_
    refine lv_iadd hx hb dX11_holdsLine_242 ?_
    refine lv_goto (tgt := 256) hx hb dX11_holdsLine_243 (by decide) ?_
    exact lb_X11_holdsLine_256 g  E hret M x2 x3 x4 x5 (x7 + x8) (x3 - 1) K22 hK22 H locs ls h hZ (lv_sub hl [1, 2, 3, 4, 5] rfl)
def b_X11_holdsLine_22  (x2 : Int32) (x4 : Int32) : Nat → zM → Int32 → Int32 → Option (Int32 × zM)
  | 0, _, _, _ => none
  | n + 1, M, x3, x5 =>
    zck (zin (x4 + 3) 2030) (if (M 1 (x4 + 3 : Int32).toNatClampNeg) ≤ x5 then (b_X11_holdsLine_263  M x3) else (zck (zin (381 + (2 * x5)) 2030) (znm (M 1 (381 + (2 * x5) : Int32).toNatClampNeg) (fun x6_7 => if 8 < x6_7 then (if x6_7 = 12 then (zck (zin (x3 - 1) 400) (zck (zin (x3 - 1) 400) (znm (zu M 8 (x3 - 1 : Int32).toNatClampNeg (1 - (M 8 (x3 - 1 : Int32).toNatClampNeg))) (fun M_18 => b_X11_holdsLine_257 (fun M x3 x5 => b_X11_holdsLine_22  x2 x4 n M x3 x5) M_18 x2 x3 x4 x5)))) else (znm (x3 + (-1)) (fun x3_8 => zck (zin (x3_8 - 1) 400) (znm (M 8 (x3_8 - 1 : Int32).toNatClampNeg) (fun x7_9 => zck (zin x3_8 400) (znm (M 8 (x3_8 : Int32).toNatClampNeg) (fun x8_10 => if x6_7 = 10 then (if x8_10 ≤ x7_9 then (b_X11_holdsLine_222 (fun M x3 x5 => b_X11_holdsLine_22  x2 x4 n M x3 x5) M x2 x3_8 x4 x5 x6_7 x7_9 x8_10 0) else (b_X11_holdsLine_222 (fun M x3 x5 => b_X11_holdsLine_22  x2 x4 n M x3 x5) M x2 x3_8 x4 x5 x6_7 x7_9 x8_10 1)) else (if x6_7 = 11 then (if x7_9 ≤ x8_10 then (b_X11_holdsLine_222 (fun M x3 x5 => b_X11_holdsLine_22  x2 x4 n M x3 x5) M x2 x3_8 x4 x5 x6_7 x7_9 x8_10 0) else (b_X11_holdsLine_222 (fun M x3 x5 => b_X11_holdsLine_22  x2 x4 n M x3 x5) M x2 x3_8 x4 x5 x6_7 x7_9 x8_10 1)) else (if x6_7 = 13 then (if (x7_9 + x8_10) = 2 then (b_X11_holdsLine_222 (fun M x3 x5 => b_X11_holdsLine_22  x2 x4 n M x3 x5) M x2 x3_8 x4 x5 x6_7 x7_9 x8_10 1) else (b_X11_holdsLine_222 (fun M x3 x5 => b_X11_holdsLine_22  x2 x4 n M x3 x5) M x2 x3_8 x4 x5 x6_7 x7_9 x8_10 0)) else (if (x7_9 + x8_10) ≤ 0 then (b_X11_holdsLine_222 (fun M x3 x5 => b_X11_holdsLine_22  x2 x4 n M x3 x5) M x2 x3_8 x4 x5 x6_7 x7_9 x8_10 0) else (b_X11_holdsLine_222 (fun M x3 x5 => b_X11_holdsLine_22  x2 x4 n M x3 x5) M x2 x3_8 x4 x5 x6_7 x7_9 x8_10 1))))))))))) else (zck (zin ((381 + (2 * x5)) + 1) 2030) (zbn (f_X11_factOf M x6_7 (M 1 ((381 + (2 * x5)) + 1 : Int32).toNatClampNeg) x2) (fun u_20 => zck (zin x3 400) (znm (zu M 8 (x3 : Int32).toNatClampNeg u_20) (fun M_21 => znm (x3 + 1) (fun x3_22 => b_X11_holdsLine_257 (fun M x3 x5 => b_X11_holdsLine_22  x2 x4 n M x3 x5) M_21 x2 x3_22 x4 x5))))))))))
set_option maxRecDepth 100000 in
set_option maxHeartbeats 4000000 in
theorem lb_X11_holdsLine_22 (g : zG)  {r : Int32 × zM} (E : zX g p m c cX11_holdsLine 10 s args (zWs yX11_holdsLine cX11_holdsLine 10 (some .boolean)) RX11) (hret : zRi g rE 15 p l e (zrm 9 0 0) s m args below meth c 0 0 Q cX11_holdsLine .boolean (fun v M1 => r = (v, M1))) (x2 : Int32) (x4 : Int32)  : ∀ (n : Nat) (M : zM) (x3 : Int32) (x5 : Int32) (H : Heap) (locs : List Loc) (ls : Array Slot), b_X11_holdsLine_22  x2 x4 n M x3 x5 = some r → zS g rE 15 s H locs M → lv_has ls 10 [(0, .ref (g.2.2 0)), (2, .int x2), (3, .int x3), (4, .int x4), (5, .int x5)] → W p l e (zrm 9 0 0) s m args below meth c H locs 0 0 Q (F0 m 22 ls []) := by
  have hx := E.1.1
  have hb := E.1.2.1
  intro n
  induction n with
  | zero => intro M x3 x5 H locs ls h hZ hl; cases h
  | succ n ih =>
    intro M x3 x5 H locs ls h hZ hl
    rw [b_X11_holdsLine_22] at h
    refine lv_iload hx hb dX11_holdsLine_22 (lv_at hl 4 rfl) ?_
    refine lv_aload_n hx hb dX11_holdsLine_24 rfl (lv_at hl 0 rfl) ?_
    refine zg (v := .ref (g.2.2 1)) E hZ (by decide) (re_0 _) kc_X11 1 (by decide) kw_1369 rfl rfl dX11_holdsLine_25 ?_
    refine lv_iload hx hb dX11_holdsLine_28 (lv_at hl 3 rfl) ?_
    refine lv_iconst (v := 3) hx hb dX11_holdsLine_30 (by decide) ?_
    refine lv_iadd hx hb dX11_holdsLine_31 ?_
    refine zia h E hZ (by decide) re_1 dX11_holdsLine_32 (fun h => ?_)
    refine zic_ge (tgt := 263) h E dX11_holdsLine_33 (by decide) (fun c_24 h => ?_) (fun c_24 h => ?_)
    · exact lb_X11_holdsLine_263 g  E hret M x3  H locs ls h hZ (lv_sub hl [0, 2] rfl)
    · refine lv_aload_n hx hb dX11_holdsLine_36 rfl (lv_at hl 0 rfl) ?_
      refine zg (v := .ref (g.2.2 1)) E hZ (by decide) (re_0 _) kc_X11 1 (by decide) kw_1369 rfl rfl dX11_holdsLine_37 ?_
      refine lv_sipush (v := 381) hx hb dX11_holdsLine_40 (by decide) ?_
      refine lv_iconst (v := 2) hx hb dX11_holdsLine_43 (by decide) ?_
      refine lv_iload hx hb dX11_holdsLine_44 (lv_at hl 4 rfl) ?_
      refine lv_imul hx hb dX11_holdsLine_46 ?_
      refine lv_iadd hx hb dX11_holdsLine_47 ?_
      refine zia h E hZ (by decide) re_1 dX11_holdsLine_48 (fun h => ?_)
      refine zni h (fun x6_7 ex6_7 h => ?_)
      refine lv_istore (lv' := [(6, .int x6_7), (0, .ref (g.2.2 0)), (2, .int x2), (3, .int x3), (4, .int x4), (5, .int x5)]) hx hb dX11_holdsLine_49 hl (by decide) rfl (fun ls hl => ?_)
      refine lv_iload hx hb dX11_holdsLine_51 (lv_at hl 0 rfl) ?_
      refine lv_bipush (v := 8) hx hb dX11_holdsLine_53 (by decide) ?_
      refine zic_gt (tgt := 92) h E dX11_holdsLine_55 (by decide) (fun c_23 h => ?_) (fun c_23 h => ?_)
      · refine lv_iload hx hb dX11_holdsLine_92 (lv_at hl 0 rfl) ?_
        refine lv_bipush (v := 12) hx hb dX11_holdsLine_94 (by decide) ?_
        refine zic_ne (tgt := 120) h E dX11_holdsLine_96 (by decide) (fun c_19 h => ?_) (fun c_19 h => ?_)
        · obtain ⟨x3_8, ex3_8, h⟩ := znm_ex h
          refine lv_iinc (v := x3_8) (lv' := [(3, .int x3_8), (6, .int x6_7), (0, .ref (g.2.2 0)), (2, .int x2), (4, .int x4), (5, .int x5)]) hx hb dX11_holdsLine_120 hl (k := 3) rfl (by rw [ex3_8]; rfl) (by decide) rfl (fun ls hl => ?_)
          refine lv_aload_n hx hb dX11_holdsLine_123 rfl (lv_at hl 2 rfl) ?_
          refine zg (v := .ref (g.2.2 8)) E hZ (by decide) (re_0 _) kc_X11 17 (by decide) kw_1385 rfl rfl dX11_holdsLine_124 ?_
          refine lv_iload_n hx hb dX11_holdsLine_127 rfl (lv_at hl 0 rfl) ?_
          refine lv_iconst (v := 1) hx hb dX11_holdsLine_128 (by decide) ?_
          refine lv_isub hx hb dX11_holdsLine_129 ?_
          refine zia h E hZ (by decide) re_8 dX11_holdsLine_130 (fun h => ?_)
          refine zni h (fun x7_9 ex7_9 h => ?_)
          refine lv_istore (lv' := [(7, .int x7_9), (3, .int x3_8), (6, .int x6_7), (0, .ref (g.2.2 0)), (2, .int x2), (4, .int x4), (5, .int x5)]) hx hb dX11_holdsLine_131 hl (by decide) rfl (fun ls hl => ?_)
          refine lv_aload_n hx hb dX11_holdsLine_133 rfl (lv_at hl 3 rfl) ?_
          refine zg (v := .ref (g.2.2 8)) E hZ (by decide) (re_0 _) kc_X11 17 (by decide) kw_1385 rfl rfl dX11_holdsLine_134 ?_
          refine lv_iload_n hx hb dX11_holdsLine_137 rfl (lv_at hl 1 rfl) ?_
          refine zia h E hZ (by decide) re_8 dX11_holdsLine_138 (fun h => ?_)
          refine zni h (fun x8_10 ex8_10 h => ?_)
          refine lv_istore (lv' := [(8, .int x8_10), (7, .int x7_9), (3, .int x3_8), (6, .int x6_7), (0, .ref (g.2.2 0)), (2, .int x2), (4, .int x4), (5, .int x5)]) hx hb dX11_holdsLine_139 hl (by decide) rfl (fun ls hl => ?_)
          refine lv_iload hx hb dX11_holdsLine_141 (lv_at hl 3 rfl) ?_
          refine lv_bipush (v := 10) hx hb dX11_holdsLine_143 (by decide) ?_
          refine zic_ne (tgt := 163) h E dX11_holdsLine_145 (by decide) (fun c_17 h => ?_) (fun c_17 h => ?_)
          · refine lv_iload hx hb dX11_holdsLine_163 (lv_at hl 3 rfl) ?_
            refine lv_bipush (v := 11) hx hb dX11_holdsLine_165 (by decide) ?_
            refine zic_ne (tgt := 185) h E dX11_holdsLine_167 (by decide) (fun c_15 h => ?_) (fun c_15 h => ?_)
            · refine lv_iload hx hb dX11_holdsLine_185 (lv_at hl 3 rfl) ?_
              refine lv_bipush (v := 13) hx hb dX11_holdsLine_187 (by decide) ?_
              refine zic_ne (tgt := 209) h E dX11_holdsLine_189 (by decide) (fun c_13 h => ?_) (fun c_13 h => ?_)
              · refine lv_iload hx hb dX11_holdsLine_209 (lv_at hl 1 rfl) ?_
                refine lv_iload hx hb dX11_holdsLine_211 (lv_at hl 0 rfl) ?_
                refine lv_iadd hx hb dX11_holdsLine_213 ?_
                refine zif_le (tgt := 221) h E dX11_holdsLine_214 (by decide) (fun c_11 h => ?_) (fun c_11 h => ?_)
                · refine lv_iconst (v := 0) hx hb dX11_holdsLine_221 (by decide) ?_
                  exact lb_X11_holdsLine_222 g  E hret M x2 x3_8 x4 x5 x6_7 x7_9 x8_10 0 (fun M x3 x5 => b_X11_holdsLine_22  x2 x4 n M x3 x5) ih H locs ls h hZ (lv_sub hl [4, 5, 2, 6, 7, 3, 1, 0] rfl)
                · refine lv_iconst (v := 1) hx hb dX11_holdsLine_217 (by decide) ?_
                  refine lv_goto (tgt := 222) hx hb dX11_holdsLine_218 (by decide) ?_
                  exact lb_X11_holdsLine_222 g  E hret M x2 x3_8 x4 x5 x6_7 x7_9 x8_10 1 (fun M x3 x5 => b_X11_holdsLine_22  x2 x4 n M x3 x5) ih H locs ls h hZ (lv_sub hl [4, 5, 2, 6, 7, 3, 1, 0] rfl)
              · refine lv_iload hx hb dX11_holdsLine_192 (lv_at hl 1 rfl) ?_
                refine lv_iload hx hb dX11_holdsLine_194 (lv_at hl 0 rfl) ?_
                refine lv_iadd hx hb dX11_holdsLine_196 ?_
                refine lv_iconst (v := 2) hx hb dX11_holdsLine_197 (by decide) ?_
                refine zic_ne (tgt := 205) h E dX11_holdsLine_198 (by decide) (fun c_12 h => ?_) (fun c_12 h => ?_)
                · refine lv_iconst (v := 0) hx hb dX11_holdsLine_205 (by decide) ?_
                  refine lv_goto (tgt := 222) hx hb dX11_holdsLine_206 (by decide) ?_
                  exact lb_X11_holdsLine_222 g  E hret M x2 x3_8 x4 x5 x6_7 x7_9 x8_10 0 (fun M x3 x5 => b_X11_holdsLine_22  x2 x4 n M x3 x5) ih H locs ls h hZ (lv_sub hl [4, 5, 2, 6, 7, 3, 1, 0] rfl)
                · refine lv_iconst (v := 1) hx hb dX11_holdsLine_201 (by decide) ?_
                  refine lv_goto (tgt := 222) hx hb dX11_holdsLine_202 (by decide) ?_
                  exact lb_X11_holdsLine_222 g  E hret M x2 x3_8 x4 x5 x6_7 x7_9 x8_10 1 (fun M x3 x5 => b_X11_holdsLine_22  x2 x4 n M x3 x5) ih H locs ls h hZ (lv_sub hl [4, 5, 2, 6, 7, 3, 1, 0] rfl)
            · refine lv_iload hx hb dX11_holdsLine_170 (lv_at hl 1 rfl) ?_
              refine lv_iload hx hb dX11_holdsLine_172 (lv_at hl 0 rfl) ?_
              refine zic_le (tgt := 181) h E dX11_holdsLine_174 (by decide) (fun c_14 h => ?_) (fun c_14 h => ?_)
              · refine lv_iconst (v := 0) hx hb dX11_holdsLine_181 (by decide) ?_
                refine lv_goto (tgt := 222) hx hb dX11_holdsLine_182 (by decide) ?_
                exact lb_X11_holdsLine_222 g  E hret M x2 x3_8 x4 x5 x6_7 x7_9 x8_10 0 (fun M x3 x5 => b_X11_holdsLine_22  x2 x4 n M x3 x5) ih H locs ls h hZ (lv_sub hl [4, 5, 2, 6, 7, 3, 1, 0] rfl)
              · refine lv_iconst (v := 1) hx hb dX11_holdsLine_177 (by decide) ?_
                refine lv_goto (tgt := 222) hx hb dX11_holdsLine_178 (by decide) ?_
                exact lb_X11_holdsLine_222 g  E hret M x2 x3_8 x4 x5 x6_7 x7_9 x8_10 1 (fun M x3 x5 => b_X11_holdsLine_22  x2 x4 n M x3 x5) ih H locs ls h hZ (lv_sub hl [4, 5, 2, 6, 7, 3, 1, 0] rfl)
          · refine lv_iload hx hb dX11_holdsLine_148 (lv_at hl 1 rfl) ?_
            refine lv_iload hx hb dX11_holdsLine_150 (lv_at hl 0 rfl) ?_
            refine zic_ge (tgt := 159) h E dX11_holdsLine_152 (by decide) (fun c_16 h => ?_) (fun c_16 h => ?_)
            · refine lv_iconst (v := 0) hx hb dX11_holdsLine_159 (by decide) ?_
              refine lv_goto (tgt := 222) hx hb dX11_holdsLine_160 (by decide) ?_
              exact lb_X11_holdsLine_222 g  E hret M x2 x3_8 x4 x5 x6_7 x7_9 x8_10 0 (fun M x3 x5 => b_X11_holdsLine_22  x2 x4 n M x3 x5) ih H locs ls h hZ (lv_sub hl [4, 5, 2, 6, 7, 3, 1, 0] rfl)
            · refine lv_iconst (v := 1) hx hb dX11_holdsLine_155 (by decide) ?_
              refine lv_goto (tgt := 222) hx hb dX11_holdsLine_156 (by decide) ?_
              exact lb_X11_holdsLine_222 g  E hret M x2 x3_8 x4 x5 x6_7 x7_9 x8_10 1 (fun M x3 x5 => b_X11_holdsLine_22  x2 x4 n M x3 x5) ih H locs ls h hZ (lv_sub hl [4, 5, 2, 6, 7, 3, 1, 0] rfl)
        · refine lv_aload_n hx hb dX11_holdsLine_99 rfl (lv_at hl 1 rfl) ?_
          refine zg (v := .ref (g.2.2 8)) E hZ (by decide) (re_0 _) kc_X11 17 (by decide) kw_1385 rfl rfl dX11_holdsLine_100 ?_
          refine lv_iload_n hx hb dX11_holdsLine_103 rfl (lv_at hl 3 rfl) ?_
          refine lv_iconst (v := 1) hx hb dX11_holdsLine_104 (by decide) ?_
          refine lv_isub hx hb dX11_holdsLine_105 ?_
          refine lv_iconst (v := 1) hx hb dX11_holdsLine_106 (by decide) ?_
          refine lv_aload_n hx hb dX11_holdsLine_107 rfl (lv_at hl 1 rfl) ?_
          refine zg (v := .ref (g.2.2 8)) E hZ (by decide) (re_0 _) kc_X11 17 (by decide) kw_1385 rfl rfl dX11_holdsLine_108 ?_
          refine lv_iload_n hx hb dX11_holdsLine_111 rfl (lv_at hl 3 rfl) ?_
          refine lv_iconst (v := 1) hx hb dX11_holdsLine_112 (by decide) ?_
          refine lv_isub hx hb dX11_holdsLine_113 ?_
          refine zia h E hZ (by decide) re_8 dX11_holdsLine_114 (fun h => ?_)
          refine lv_isub hx hb dX11_holdsLine_115 ?_
          refine zis h E hZ (by decide) re_8 dX11_holdsLine_116 (fun M_18 H locs eM_18 h hZ => ?_)
          refine lv_goto (tgt := 257) hx hb dX11_holdsLine_117 (by decide) ?_
          exact lb_X11_holdsLine_257 g  E hret M_18 x2 x3 x4 x5 (fun M x3 x5 => b_X11_holdsLine_22  x2 x4 n M x3 x5) ih H locs ls h hZ (lv_sub hl [1, 2, 3, 4, 5] rfl)
      · refine lv_aload_n hx hb dX11_holdsLine_58 rfl (lv_at hl 1 rfl) ?_
        refine zg (v := .ref (g.2.2 8)) E hZ (by decide) (re_0 _) kc_X11 17 (by decide) kw_1385 rfl rfl dX11_holdsLine_59 ?_
        refine lv_iload_n hx hb dX11_holdsLine_62 rfl (lv_at hl 3 rfl) ?_
        refine lv_aload_n hx hb dX11_holdsLine_63 rfl (lv_at hl 1 rfl) ?_
        refine lv_iload hx hb dX11_holdsLine_64 (lv_at hl 0 rfl) ?_
        refine lv_aload_n hx hb dX11_holdsLine_66 rfl (lv_at hl 1 rfl) ?_
        refine zg (v := .ref (g.2.2 1)) E hZ (by decide) (re_0 _) kc_X11 1 (by decide) kw_1369 rfl rfl dX11_holdsLine_67 ?_
        refine lv_sipush (v := 381) hx hb dX11_holdsLine_70 (by decide) ?_
        refine lv_iconst (v := 2) hx hb dX11_holdsLine_73 (by decide) ?_
        refine lv_iload hx hb dX11_holdsLine_74 (lv_at hl 5 rfl) ?_
        refine lv_imul hx hb dX11_holdsLine_76 ?_
        refine lv_iadd hx hb dX11_holdsLine_77 ?_
        refine lv_iconst (v := 1) hx hb dX11_holdsLine_78 (by decide) ?_
        refine lv_iadd hx hb dX11_holdsLine_79 ?_
        refine zia h E hZ (by decide) re_1 dX11_holdsLine_80 (fun h => ?_)
        refine lv_iload_n hx hb dX11_holdsLine_81 rfl (lv_at hl 2 rfl) ?_
        obtain ⟨u_20, qu_20, h⟩ := zbn_some h
        refine zciR (zrunV E hZ (by decide) (re_0 _) rfl rfl v_X11_factOf kw_1761 (c_X11_factOf l g M  x6_7 (M 1 ((381 + (2 * x5)) + 1 : Int32).toNatClampNeg) x2 qu_20 _) rfl hl.1 rfl (Nat.le_of_ble_eq_true rfl) ⟨by decide, by decide⟩ ⟨by decide, by decide⟩ dX11_holdsLine_82) hZ (fun H locs hZ => ?_)
        refine zis h E hZ (by decide) re_8 dX11_holdsLine_85 (fun M_21 H locs eM_21 h hZ => ?_)
        obtain ⟨x3_22, ex3_22, h⟩ := znm_ex h
        refine lv_iinc (v := x3_22) (lv' := [(3, .int x3_22), (6, .int x6_7), (0, .ref (g.2.2 0)), (2, .int x2), (4, .int x4), (5, .int x5)]) hx hb dX11_holdsLine_86 hl (k := 3) rfl (by rw [ex3_22]; rfl) (by decide) rfl (fun ls hl => ?_)
        refine lv_goto (tgt := 257) hx hb dX11_holdsLine_89 (by decide) ?_
        exact lb_X11_holdsLine_257 g  E hret M_21 x2 x3_22 x4 x5 (fun M x3 x5 => b_X11_holdsLine_22  x2 x4 n M x3 x5) ih H locs ls h hZ (lv_sub hl [2, 3, 0, 4, 5] rfl)
def f_X11_holdsLine (M : zM) (x1 : Int32) (x2 : Int32) : Option (Int32 × zM) :=
  znm (333 + (4 * x1)) (fun x4_25 => zck (zin (x4_25 + 2) 2030) (znm (M 1 (x4_25 + 2 : Int32).toNatClampNeg) (fun x5_26 => b_X11_holdsLine_22  x2 x4_25 6000 M 0 x5_26)))
set_option maxRecDepth 100000 in
set_option maxHeartbeats 4000000 in
theorem w_X11_holdsLine (g : zG)  {r : Int32 × zM} (E : zX g p m c cX11_holdsLine 10 s args (zWs yX11_holdsLine cX11_holdsLine 10 (some .boolean)) RX11) (hret : zRi g rE 15 p l e (zrm 9 0 0) s m args below meth c 0 0 Q cX11_holdsLine .boolean (fun v M1 => r = (v, M1))) (M : zM) (x1 : Int32) (x2 : Int32) (H : Heap) (locs : List Loc) (ls : Array Slot) (h : f_X11_holdsLine M x1 x2 = some r) (hZ : zS g rE 15 s H locs M) (hl : lv_has ls 10 [(0, .ref (g.2.2 0)), (1, .int x1), (2, .int x2)]) : W p l e (zrm 9 0 0) s m args below meth c H locs 0 0 Q (F0 m 0 ls []) := by
  have hx := E.1.1
  have hb := E.1.2.1
  unfold f_X11_holdsLine at h
  refine lv_iconst (v := 0) hx hb dX11_holdsLine_0 (by decide) ?_
  refine lv_istore_n (lv' := [(3, .int 0), (0, .ref (g.2.2 0)), (1, .int x1), (2, .int x2)]) hx hb dX11_holdsLine_1 rfl hl (by decide) rfl (fun ls hl => ?_)
  refine lv_sipush (v := 333) hx hb dX11_holdsLine_2 (by decide) ?_
  refine lv_iconst (v := 4) hx hb dX11_holdsLine_5 (by decide) ?_
  refine lv_iload_n hx hb dX11_holdsLine_6 rfl (lv_at hl 2 rfl) ?_
  refine lv_imul hx hb dX11_holdsLine_7 ?_
  refine lv_iadd hx hb dX11_holdsLine_8 ?_
  refine zni h (fun x4_25 ex4_25 h => ?_)
  refine lv_istore (lv' := [(4, .int x4_25), (3, .int 0), (0, .ref (g.2.2 0)), (1, .int x1), (2, .int x2)]) hx hb dX11_holdsLine_9 hl (by decide) rfl (fun ls hl => ?_)
  refine lv_aload_n hx hb dX11_holdsLine_11 rfl (lv_at hl 2 rfl) ?_
  refine zg (v := .ref (g.2.2 1)) E hZ (by decide) (re_0 _) kc_X11 1 (by decide) kw_1369 rfl rfl dX11_holdsLine_12 ?_
  refine lv_iload hx hb dX11_holdsLine_15 (lv_at hl 0 rfl) ?_
  refine lv_iconst (v := 2) hx hb dX11_holdsLine_17 (by decide) ?_
  refine lv_iadd hx hb dX11_holdsLine_18 ?_
  refine zia h E hZ (by decide) re_1 dX11_holdsLine_19 (fun h => ?_)
  refine zni h (fun x5_26 ex5_26 h => ?_)
  refine lv_istore (lv' := [(5, .int x5_26), (4, .int x4_25), (3, .int 0), (0, .ref (g.2.2 0)), (1, .int x1), (2, .int x2)]) hx hb dX11_holdsLine_20 hl (by decide) rfl (fun ls hl => ?_)
  exact lb_X11_holdsLine_22 g  E hret x2 x4_25  6000 M 0 x5_26 H locs ls h hZ (lv_sub hl [3, 5, 2, 1, 0] rfl)
theorem c_X11_holdsLine (l : Launch) (g : zG) (M : zM)  (x1 : Int32) (x2 : Int32) {r : Int32 × zM} (h : f_X11_holdsLine M x1 x2 = some r) : zMi l g rE 15 yX11_holdsLine (zWs yX11_holdsLine cX11_holdsLine 10 (some .boolean)) 9 [.ref (g.2.2 0), .int x1, .int x2] M (fun v M1 => r = (v, M1)) :=
  zMi_of (by decide +kernel) (Nat.le_of_ble_eq_true rfl) (fun p e s m args below meth c Q ls E hret hZ hl => w_X11_holdsLine g  E hret M x1 x2 _ _ ls h hZ hl)
theorem v_X11_holdsLine : zYV yX11_holdsLine cX11_holdsLine 10 (some .boolean) 2 := ⟨kw_1760, kw_15, kw_1759, kp_79, by decide +kernel⟩

def b_X11_sumOf_73 (K5 : zM → Int32 → Int32 → Option (Int32 × zM)) (M : zM) (x1 : Int32) (x2 : Int32) (x3 : Int32) (x4 : Int32) : Option (Int32 × zM) :=
  znm (x4 + 1) (fun x4_1 => K5 M x3 x4_1)
set_option maxRecDepth 100000 in
set_option maxHeartbeats 4000000 in
theorem lb_X11_sumOf_73 (g : zG)  {r : Int32 × zM} (E : zX g p m c cX11_sumOf 5 s args (zWs yX11_sumOf cX11_sumOf 5 (some .int)) RX11) (hret : zRi g rE 15 p l e (zrm 10 0 0) s m args below meth c 0 0 Q cX11_sumOf .int (fun v M1 => r = (v, M1))) (M : zM) (x1 : Int32) (x2 : Int32) (x3 : Int32) (x4 : Int32) (K5 : zM → Int32 → Int32 → Option (Int32 × zM)) (hK5 : ∀ (M : zM) (x3 : Int32) (x4 : Int32) (H : Heap) (locs : List Loc) (ls : Array Slot), K5 M x3 x4 = some r → zS g rE 15 s H locs M → lv_has ls 5 [(0, .ref (g.2.2 0)), (1, .int x1), (2, .int x2), (3, .int x3), (4, .int x4)] → W p l e (zrm 10 0 0) s m args below meth c H locs 0 0 Q (F0 m 5 ls [])) (H : Heap) (locs : List Loc) (ls : Array Slot) (h : b_X11_sumOf_73 K5 M x1 x2 x3 x4 = some r) (hZ : zS g rE 15 s H locs M) (hl : lv_has ls 5 [(0, .ref (g.2.2 0)), (1, .int x1), (2, .int x2), (3, .int x3), (4, .int x4)]) : W p l e (zrm 10 0 0) s m args below meth c H locs 0 0 Q (F0 m 73 ls []) := by
  have hx := E.1.1
  have hb := E.1.2.1
  unfold b_X11_sumOf_73 at h
  obtain ⟨x4_1, ex4_1, h⟩ := znm_ex h
  refine lv_iinc (v := x4_1) (lv' := [(4, .int x4_1), (0, .ref (g.2.2 0)), (1, .int x1), (2, .int x2), (3, .int x3)]) hx hb dX11_sumOf_73 hl (k := 4) rfl (by rw [ex4_1]; rfl) (by decide) rfl (fun ls hl => ?_)
  refine lv_goto (tgt := 5) hx hb dX11_sumOf_76 (by decide) ?_
  exact hK5 M x3 x4_1 H locs ls h hZ (lv_sub hl [1, 2, 3, 4, 0] rfl)
def b_X11_sumOf_5  (x1 : Int32) (x2 : Int32) : Nat → zM → Int32 → Int32 → Option (Int32 × zM)
  | 0, _, _, _ => none
  | n + 1, M, x3, x4 =>
    zck (zin 3 2030) (if (M 1 (3 : Int32).toNatClampNeg) = 1 then (zck (zin 332 2030) (if (M 1 (332 : Int32).toNatClampNeg) ≤ x4 then (some (x3, M)) else (zck (zin (333 + (4 * x4)) 2030) (if (M 1 (333 + (4 * x4) : Int32).toNatClampNeg) = x1 then (zbn (f_X11_holdsLine M x4 x2) (fun u_2 => if u_2.1 = 0 then (b_X11_sumOf_73 (fun M x3 x4 => b_X11_sumOf_5  x1 x2 n M x3 x4) u_2.2 x1 x2 x3 x4) else (zck (zin ((333 + (4 * x4)) + 1) 2030) (znm (x3 + (u_2.2 1 ((333 + (4 * x4)) + 1 : Int32).toNatClampNeg)) (fun x3_3 => b_X11_sumOf_73 (fun M x3 x4 => b_X11_sumOf_5  x1 x2 n M x3 x4) u_2.2 x1 x2 x3_3 x4))))) else (b_X11_sumOf_73 (fun M x3 x4 => b_X11_sumOf_5  x1 x2 n M x3 x4) M x1 x2 x3 x4))))) else (some (x3, M)))
set_option maxRecDepth 100000 in
set_option maxHeartbeats 4000000 in
theorem lb_X11_sumOf_5 (g : zG)  {r : Int32 × zM} (E : zX g p m c cX11_sumOf 5 s args (zWs yX11_sumOf cX11_sumOf 5 (some .int)) RX11) (hret : zRi g rE 15 p l e (zrm 10 0 0) s m args below meth c 0 0 Q cX11_sumOf .int (fun v M1 => r = (v, M1))) (x1 : Int32) (x2 : Int32)  : ∀ (n : Nat) (M : zM) (x3 : Int32) (x4 : Int32) (H : Heap) (locs : List Loc) (ls : Array Slot), b_X11_sumOf_5  x1 x2 n M x3 x4 = some r → zS g rE 15 s H locs M → lv_has ls 5 [(0, .ref (g.2.2 0)), (1, .int x1), (2, .int x2), (3, .int x3), (4, .int x4)] → W p l e (zrm 10 0 0) s m args below meth c H locs 0 0 Q (F0 m 5 ls []) := by
  have hx := E.1.1
  have hb := E.1.2.1
  intro n
  induction n with
  | zero => intro M x3 x4 H locs ls h hZ hl; cases h
  | succ n ih =>
    intro M x3 x4 H locs ls h hZ hl
    rw [b_X11_sumOf_5] at h
    refine lv_aload_n hx hb dX11_sumOf_5 rfl (lv_at hl 0 rfl) ?_
    refine zg (v := .ref (g.2.2 1)) E hZ (by decide) (re_0 _) kc_X11 1 (by decide) kw_1369 rfl rfl dX11_sumOf_6 ?_
    refine lv_iconst (v := 3) hx hb dX11_sumOf_9 (by decide) ?_
    refine zia h E hZ (by decide) re_1 dX11_sumOf_10 (fun h => ?_)
    refine lv_iconst (v := 1) hx hb dX11_sumOf_11 (by decide) ?_
    refine zic_ne (tgt := 79) h E dX11_sumOf_12 (by decide) (fun c_7 h => ?_) (fun c_7 h => ?_)
    · refine lv_iload_n hx hb dX11_sumOf_79 rfl (lv_at hl 3 rfl) ?_
      exact hret _ _ _ _ _ _ (Option.some.inj h).symm rfl hZ dX11_sumOf_80
    · refine lv_iload hx hb dX11_sumOf_15 (lv_at hl 4 rfl) ?_
      refine lv_aload_n hx hb dX11_sumOf_17 rfl (lv_at hl 0 rfl) ?_
      refine zg (v := .ref (g.2.2 1)) E hZ (by decide) (re_0 _) kc_X11 1 (by decide) kw_1369 rfl rfl dX11_sumOf_18 ?_
      refine lv_sipush (v := 332) hx hb dX11_sumOf_21 (by decide) ?_
      refine zia h E hZ (by decide) re_1 dX11_sumOf_24 (fun h => ?_)
      refine zic_ge (tgt := 79) h E dX11_sumOf_25 (by decide) (fun c_6 h => ?_) (fun c_6 h => ?_)
      · refine lv_iload_n hx hb dX11_sumOf_79 rfl (lv_at hl 3 rfl) ?_
        exact hret _ _ _ _ _ _ (Option.some.inj h).symm rfl hZ dX11_sumOf_80
      · refine lv_aload_n hx hb dX11_sumOf_28 rfl (lv_at hl 0 rfl) ?_
        refine zg (v := .ref (g.2.2 1)) E hZ (by decide) (re_0 _) kc_X11 1 (by decide) kw_1369 rfl rfl dX11_sumOf_29 ?_
        refine lv_sipush (v := 333) hx hb dX11_sumOf_32 (by decide) ?_
        refine lv_iconst (v := 4) hx hb dX11_sumOf_35 (by decide) ?_
        refine lv_iload hx hb dX11_sumOf_36 (lv_at hl 4 rfl) ?_
        refine lv_imul hx hb dX11_sumOf_38 ?_
        refine lv_iadd hx hb dX11_sumOf_39 ?_
        refine zia h E hZ (by decide) re_1 dX11_sumOf_40 (fun h => ?_)
        refine lv_iload_n hx hb dX11_sumOf_41 rfl (lv_at hl 1 rfl) ?_
        refine zic_ne (tgt := 73) h E dX11_sumOf_42 (by decide) (fun c_5 h => ?_) (fun c_5 h => ?_)
        · exact lb_X11_sumOf_73 g  E hret M x1 x2 x3 x4 (fun M x3 x4 => b_X11_sumOf_5  x1 x2 n M x3 x4) ih H locs ls h hZ (lv_sub hl [0, 1, 2, 3, 4] rfl)
        · refine lv_aload_n hx hb dX11_sumOf_45 rfl (lv_at hl 0 rfl) ?_
          refine lv_iload hx hb dX11_sumOf_46 (lv_at hl 4 rfl) ?_
          refine lv_iload_n hx hb dX11_sumOf_48 rfl (lv_at hl 2 rfl) ?_
          obtain ⟨u_2, qu_2, h⟩ := zbn_some h
          refine zciS (zrunV E hZ (by decide) (re_0 _) rfl rfl v_X11_holdsLine kw_1757 (c_X11_holdsLine l g M  x4 x2 qu_2 _) rfl hl.1 rfl (Nat.le_of_ble_eq_true rfl) ⟨by decide, by decide⟩ ⟨by decide, by decide⟩ dX11_sumOf_49) hZ (fun H locs hZ => ?_)
          refine zif_eq (tgt := 73) h E dX11_sumOf_52 (by decide) (fun c_4 h => ?_) (fun c_4 h => ?_)
          · exact lb_X11_sumOf_73 g  E hret u_2.2 x1 x2 x3 x4 (fun M x3 x4 => b_X11_sumOf_5  x1 x2 n M x3 x4) ih H locs ls h hZ (lv_sub hl [0, 1, 2, 3, 4] rfl)
          · refine lv_iload_n hx hb dX11_sumOf_55 rfl (lv_at hl 3 rfl) ?_
            refine lv_aload_n hx hb dX11_sumOf_56 rfl (lv_at hl 0 rfl) ?_
            refine zg (v := .ref (g.2.2 1)) E hZ (by decide) (re_0 _) kc_X11 1 (by decide) kw_1369 rfl rfl dX11_sumOf_57 ?_
            refine lv_sipush (v := 333) hx hb dX11_sumOf_60 (by decide) ?_
            refine lv_iconst (v := 4) hx hb dX11_sumOf_63 (by decide) ?_
            refine lv_iload hx hb dX11_sumOf_64 (lv_at hl 4 rfl) ?_
            refine lv_imul hx hb dX11_sumOf_66 ?_
            refine lv_iadd hx hb dX11_sumOf_67 ?_
            refine lv_iconst (v := 1) hx hb dX11_sumOf_68 (by decide) ?_
            refine lv_iadd hx hb dX11_sumOf_69 ?_
            refine zia h E hZ (by decide) re_1 dX11_sumOf_70 (fun h => ?_)
            refine lv_iadd hx hb dX11_sumOf_71 ?_
            refine zni h (fun x3_3 ex3_3 h => ?_)
            refine lv_istore_n (lv' := [(3, .int x3_3), (0, .ref (g.2.2 0)), (1, .int x1), (2, .int x2), (4, .int x4)]) hx hb dX11_sumOf_72 rfl hl (by decide) rfl (fun ls hl => ?_)
            exact lb_X11_sumOf_73 g  E hret u_2.2 x1 x2 x3_3 x4 (fun M x3 x4 => b_X11_sumOf_5  x1 x2 n M x3 x4) ih H locs ls h hZ (lv_sub hl [1, 2, 3, 0, 4] rfl)
def f_X11_sumOf (M : zM) (x1 : Int32) (x2 : Int32) : Option (Int32 × zM) :=
  b_X11_sumOf_5  x1 x2 6000 M 0 0
set_option maxRecDepth 100000 in
set_option maxHeartbeats 4000000 in
theorem w_X11_sumOf (g : zG)  {r : Int32 × zM} (E : zX g p m c cX11_sumOf 5 s args (zWs yX11_sumOf cX11_sumOf 5 (some .int)) RX11) (hret : zRi g rE 15 p l e (zrm 10 0 0) s m args below meth c 0 0 Q cX11_sumOf .int (fun v M1 => r = (v, M1))) (M : zM) (x1 : Int32) (x2 : Int32) (H : Heap) (locs : List Loc) (ls : Array Slot) (h : f_X11_sumOf M x1 x2 = some r) (hZ : zS g rE 15 s H locs M) (hl : lv_has ls 5 [(0, .ref (g.2.2 0)), (1, .int x1), (2, .int x2)]) : W p l e (zrm 10 0 0) s m args below meth c H locs 0 0 Q (F0 m 0 ls []) := by
  have hx := E.1.1
  have hb := E.1.2.1
  unfold f_X11_sumOf at h
  refine lv_iconst (v := 0) hx hb dX11_sumOf_0 (by decide) ?_
  refine lv_istore_n (lv' := [(3, .int 0), (0, .ref (g.2.2 0)), (1, .int x1), (2, .int x2)]) hx hb dX11_sumOf_1 rfl hl (by decide) rfl (fun ls hl => ?_)
  refine lv_iconst (v := 0) hx hb dX11_sumOf_2 (by decide) ?_
  refine lv_istore (lv' := [(4, .int 0), (3, .int 0), (0, .ref (g.2.2 0)), (1, .int x1), (2, .int x2)]) hx hb dX11_sumOf_3 hl (by decide) rfl (fun ls hl => ?_)
  exact lb_X11_sumOf_5 g  E hret x1 x2  6000 M 0 0 H locs ls h hZ (lv_sub hl [2, 3, 4, 1, 0] rfl)
theorem c_X11_sumOf (l : Launch) (g : zG) (M : zM)  (x1 : Int32) (x2 : Int32) {r : Int32 × zM} (h : f_X11_sumOf M x1 x2 = some r) : zMi l g rE 15 yX11_sumOf (zWs yX11_sumOf cX11_sumOf 5 (some .int)) 10 [.ref (g.2.2 0), .int x1, .int x2] M (fun v M1 => r = (v, M1)) :=
  zMi_of (by decide +kernel) (Nat.le_of_ble_eq_true rfl) (fun p e s m args below meth c Q ls E hret hZ hl => w_X11_sumOf g  E hret M x1 x2 _ _ ls h hZ hl)
theorem v_X11_sumOf : zYV yX11_sumOf cX11_sumOf 5 (some .int) 2 := ⟨kw_1756, kw_15, kw_1755, kp_78, by decide +kernel⟩

def f_X11_wadesBy (M : zM) (x1 : Int32) : Option (Int32 × zM) :=
  zbn (f_X11_sumOf M 0 x1) (fun u_1 => some (1 + u_1.1, u_1.2))
set_option maxRecDepth 100000 in
set_option maxHeartbeats 4000000 in
theorem w_X11_wadesBy (g : zG)  {r : Int32 × zM} (E : zX g p m c cX11_wadesBy 2 s args (zWs yX11_wadesBy cX11_wadesBy 2 (some .int)) RX11) (hret : zRi g rE 15 p l e (zrm 11 0 0) s m args below meth c 0 0 Q cX11_wadesBy .int (fun v M1 => r = (v, M1))) (M : zM) (x1 : Int32) (H : Heap) (locs : List Loc) (ls : Array Slot) (h : f_X11_wadesBy M x1 = some r) (hZ : zS g rE 15 s H locs M) (hl : lv_has ls 2 [(0, .ref (g.2.2 0)), (1, .int x1)]) : W p l e (zrm 11 0 0) s m args below meth c H locs 0 0 Q (F0 m 0 ls []) := by
  have hx := E.1.1
  have hb := E.1.2.1
  unfold f_X11_wadesBy at h
  refine lv_iconst (v := 1) hx hb dX11_wadesBy_0 (by decide) ?_
  refine lv_aload_n hx hb dX11_wadesBy_1 rfl (lv_at hl 0 rfl) ?_
  refine lv_iconst (v := 0) hx hb dX11_wadesBy_2 (by decide) ?_
  refine lv_iload_n hx hb dX11_wadesBy_3 rfl (lv_at hl 1 rfl) ?_
  obtain ⟨u_1, qu_1, h⟩ := zbn_some h
  refine zciS (zrunV E hZ (by decide) (re_0 _) rfl rfl v_X11_sumOf kw_1753 (c_X11_sumOf l g M  0 x1 qu_1 _) rfl hl.1 rfl (Nat.le_of_ble_eq_true rfl) ⟨by decide, by decide⟩ ⟨by decide, by decide⟩ dX11_wadesBy_4) hZ (fun H locs hZ => ?_)
  refine lv_iadd hx hb dX11_wadesBy_7 ?_
  exact hret _ _ _ _ _ _ (Option.some.inj h).symm rfl hZ dX11_wadesBy_8
theorem c_X11_wadesBy (l : Launch) (g : zG) (M : zM)  (x1 : Int32) {r : Int32 × zM} (h : f_X11_wadesBy M x1 = some r) : zMi l g rE 15 yX11_wadesBy (zWs yX11_wadesBy cX11_wadesBy 2 (some .int)) 11 [.ref (g.2.2 0), .int x1] M (fun v M1 => r = (v, M1)) :=
  zMi_of (by decide +kernel) (Nat.le_of_ble_eq_true rfl) (fun p e s m args below meth c Q ls E hret hZ hl => w_X11_wadesBy g  E hret M x1 _ _ ls h hZ hl)
theorem v_X11_wadesBy : zYV yX11_wadesBy cX11_wadesBy 2 (some .int) 1 := ⟨kw_1752, kw_15, kw_1751, kp_77, by decide +kernel⟩

def f_X11_doesWait (M : zM) (x1 : Int32) : Option (Int32 × zM) :=
  zbn (f_X11_sumOf M 1 x1) (fun u_1 => if u_1.1 ≤ 0 then (some (0, u_1.2)) else (some (1, u_1.2)))
set_option maxRecDepth 100000 in
set_option maxHeartbeats 4000000 in
theorem w_X11_doesWait (g : zG)  {r : Int32 × zM} (E : zX g p m c cX11_doesWait 2 s args (zWs yX11_doesWait cX11_doesWait 2 (some .boolean)) RX11) (hret : zRi g rE 15 p l e (zrm 11 0 0) s m args below meth c 0 0 Q cX11_doesWait .boolean (fun v M1 => r = (v, M1))) (M : zM) (x1 : Int32) (H : Heap) (locs : List Loc) (ls : Array Slot) (h : f_X11_doesWait M x1 = some r) (hZ : zS g rE 15 s H locs M) (hl : lv_has ls 2 [(0, .ref (g.2.2 0)), (1, .int x1)]) : W p l e (zrm 11 0 0) s m args below meth c H locs 0 0 Q (F0 m 0 ls []) := by
  have hx := E.1.1
  have hb := E.1.2.1
  unfold f_X11_doesWait at h
  refine lv_aload_n hx hb dX11_doesWait_0 rfl (lv_at hl 0 rfl) ?_
  refine lv_iconst (v := 1) hx hb dX11_doesWait_1 (by decide) ?_
  refine lv_iload_n hx hb dX11_doesWait_2 rfl (lv_at hl 1 rfl) ?_
  obtain ⟨u_1, qu_1, h⟩ := zbn_some h
  refine zciS (zrunV E hZ (by decide) (re_0 _) rfl rfl v_X11_sumOf kw_1753 (c_X11_sumOf l g M  1 x1 qu_1 _) rfl hl.1 rfl (Nat.le_of_ble_eq_true rfl) ⟨by decide, by decide⟩ ⟨by decide, by decide⟩ dX11_doesWait_3) hZ (fun H locs hZ => ?_)
  refine zif_le (tgt := 13) h E dX11_doesWait_6 (by decide) (fun c_2 h => ?_) (fun c_2 h => ?_)
  · refine lv_iconst (v := 0) hx hb dX11_doesWait_13 (by decide) ?_
    exact hret _ _ _ _ _ _ (Option.some.inj h).symm rfl hZ dX11_doesWait_14
  · refine lv_iconst (v := 1) hx hb dX11_doesWait_9 (by decide) ?_
    refine lv_goto (tgt := 14) hx hb dX11_doesWait_10 (by decide) ?_
    exact hret _ _ _ _ _ _ (Option.some.inj h).symm rfl hZ dX11_doesWait_14
theorem c_X11_doesWait (l : Launch) (g : zG) (M : zM)  (x1 : Int32) {r : Int32 × zM} (h : f_X11_doesWait M x1 = some r) : zMi l g rE 15 yX11_doesWait (zWs yX11_doesWait cX11_doesWait 2 (some .boolean)) 11 [.ref (g.2.2 0), .int x1] M (fun v M1 => r = (v, M1)) :=
  zMi_of (by decide +kernel) (Nat.le_of_ble_eq_true rfl) (fun p e s m args below meth c Q ls E hret hZ hl => w_X11_doesWait g  E hret M x1 _ _ ls h hZ hl)
theorem v_X11_doesWait : zYV yX11_doesWait cX11_doesWait 2 (some .boolean) 1 := ⟨kw_1780, kw_15, kw_1779, kp_84, by decide +kernel⟩

def b_X11_monk_34  (M : zM) (x1 : Int32) (x2 : Int32) (t0 : Int32) : Option (Int32 × zM) :=
  zbn (f_X11_throwsIf M t0 2) (fun u_1 => if u_1.1 = 0 then (if x2 = 5 then (zbn (f_X11_wadesBy u_1.2 x1) (fun u_3 => some (u_3.1, u_3.2))) else if x2 = 6 then (zbn (f_X11_doesWait u_1.2 x1) (fun u_4 => if u_4.1 = 0 then (some (0, u_4.2)) else (some (1, u_4.2)))) else if x2 = 7 then (zbn (f_X11_sumOf u_1.2 2 x1) (fun u_6 => some (u_6.1, u_6.2))) else (zbn (f_X11_of u_1.2 x1 x2) (fun u_2 => some (u_2, u_1.2)))) else (some (0, u_1.2)))
set_option maxRecDepth 100000 in
set_option maxHeartbeats 4000000 in
theorem lb_X11_monk_34 (g : zG)  {r : Int32 × zM} (E : zX g p m c cX11_monk 3 s args (zWs yX11_monk cX11_monk 3 (some .int)) RX11) (hret : zRi g rE 15 p l e (zrm 12 0 0) s m args below meth c 0 0 Q cX11_monk .int (fun v M1 => r = (v, M1))) (M : zM) (x1 : Int32) (x2 : Int32) (t0 : Int32)  (H : Heap) (locs : List Loc) (ls : Array Slot) (h : b_X11_monk_34  M x1 x2 t0 = some r) (hZ : zS g rE 15 s H locs M) (hl : lv_has ls 3 [(0, .ref (g.2.2 0)), (1, .int x1), (2, .int x2)]) : W p l e (zrm 12 0 0) s m args below meth c H locs 0 0 Q (F0 m 34 ls [.int t0, .ref (g.2.2 0)]) := by
  have hx := E.1.1
  have hb := E.1.2.1
  unfold b_X11_monk_34 at h
  refine lv_iconst (v := 2) hx hb dX11_monk_34 (by decide) ?_
  obtain ⟨u_1, qu_1, h⟩ := zbn_some h
  refine zciS (zrunV E hZ (by decide) (re_0 _) rfl rfl v_X11_throwsIf kw_1651 (c_X11_throwsIf l g M  t0 2 qu_1 _) rfl hl.1 rfl (Nat.le_of_ble_eq_true rfl) ⟨by decide, by decide⟩ ⟨by decide, by decide⟩ dX11_monk_35) hZ (fun H locs hZ => ?_)
  refine zif_eq (tgt := 43) h E dX11_monk_38 (by decide) (fun c_10 h => ?_) (fun c_10 h => ?_)
  · refine lv_iload_n hx hb dX11_monk_43 rfl (lv_at hl 2 rfl) ?_
    rcases zsp h with ⟨c_7, h⟩ | ⟨c_7, h⟩
    · refine lv_tableIn (tgt := 72) hx hb dX11_monk_44 (by rw [c_7]; decide) (by rw [c_7]; decide) (by rw [c_7]; rfl) (by decide) ?_
      refine lv_aload_n hx hb dX11_monk_72 rfl (lv_at hl 0 rfl) ?_
      refine lv_iload_n hx hb dX11_monk_73 rfl (lv_at hl 1 rfl) ?_
      obtain ⟨u_3, qu_3, h⟩ := zbn_some h
      refine zciS (zrunV E hZ (by decide) (re_0 _) rfl rfl v_X11_wadesBy kw_1749 (c_X11_wadesBy l g u_1.2  x1 qu_3 _) rfl hl.1 rfl (Nat.le_of_ble_eq_true rfl) ⟨by decide, by decide⟩ ⟨by decide, by decide⟩ dX11_monk_74) hZ (fun H locs hZ => ?_)
      exact hret _ _ _ _ _ _ (Option.some.inj h).symm rfl hZ dX11_monk_77
    rcases zsp h with ⟨c_8, h⟩ | ⟨c_8, h⟩
    · refine lv_tableIn (tgt := 78) hx hb dX11_monk_44 (by rw [c_8]; decide) (by rw [c_8]; decide) (by rw [c_8]; rfl) (by decide) ?_
      refine lv_aload_n hx hb dX11_monk_78 rfl (lv_at hl 0 rfl) ?_
      refine lv_iload_n hx hb dX11_monk_79 rfl (lv_at hl 1 rfl) ?_
      obtain ⟨u_4, qu_4, h⟩ := zbn_some h
      refine zciS (zrunV E hZ (by decide) (re_0 _) rfl rfl v_X11_doesWait kw_1777 (c_X11_doesWait l g u_1.2  x1 qu_4 _) rfl hl.1 rfl (Nat.le_of_ble_eq_true rfl) ⟨by decide, by decide⟩ ⟨by decide, by decide⟩ dX11_monk_80) hZ (fun H locs hZ => ?_)
      refine zif_eq (tgt := 90) h E dX11_monk_83 (by decide) (fun c_5 h => ?_) (fun c_5 h => ?_)
      · refine lv_iconst (v := 0) hx hb dX11_monk_90 (by decide) ?_
        exact hret _ _ _ _ _ _ (Option.some.inj h).symm rfl hZ dX11_monk_91
      · refine lv_iconst (v := 1) hx hb dX11_monk_86 (by decide) ?_
        refine lv_goto (tgt := 91) hx hb dX11_monk_87 (by decide) ?_
        exact hret _ _ _ _ _ _ (Option.some.inj h).symm rfl hZ dX11_monk_91
    rcases zsp h with ⟨c_9, h⟩ | ⟨c_9, h⟩
    · refine lv_tableIn (tgt := 92) hx hb dX11_monk_44 (by rw [c_9]; decide) (by rw [c_9]; decide) (by rw [c_9]; rfl) (by decide) ?_
      refine lv_aload_n hx hb dX11_monk_92 rfl (lv_at hl 0 rfl) ?_
      refine lv_iconst (v := 2) hx hb dX11_monk_93 (by decide) ?_
      refine lv_iload_n hx hb dX11_monk_94 rfl (lv_at hl 1 rfl) ?_
      obtain ⟨u_6, qu_6, h⟩ := zbn_some h
      refine zciS (zrunV E hZ (by decide) (re_0 _) rfl rfl v_X11_sumOf kw_1753 (c_X11_sumOf l g u_1.2  2 x1 qu_6 _) rfl hl.1 rfl (Nat.le_of_ble_eq_true rfl) ⟨by decide, by decide⟩ ⟨by decide, by decide⟩ dX11_monk_95) hZ (fun H locs hZ => ?_)
      exact hret _ _ _ _ _ _ (Option.some.inj h).symm rfl hZ dX11_monk_98
    have hdf : W p l e (zrm 12 0 0) s m args below meth c H locs 0 0 Q (F0 m 99 ls []) := by
      refine lv_aload_n hx hb dX11_monk_99 rfl (lv_at hl 0 rfl) ?_
      refine lv_iload_n hx hb dX11_monk_100 rfl (lv_at hl 1 rfl) ?_
      refine lv_iload_n hx hb dX11_monk_101 rfl (lv_at hl 2 rfl) ?_
      obtain ⟨u_2, qu_2, h⟩ := zbn_some h
      refine zciR (zrunV E hZ (by decide) (re_0 _) rfl rfl v_X11_of kw_1765 (c_X11_of l g u_1.2  x1 x2 qu_2 _) rfl hl.1 rfl (Nat.le_of_ble_eq_true rfl) ⟨by decide, by decide⟩ ⟨by decide, by decide⟩ dX11_monk_102) hZ (fun H locs hZ => ?_)
      exact hret _ _ _ _ _ _ (Option.some.inj h).symm rfl hZ dX11_monk_105
    exact lv_tableOut (tgt := 99) hx hb dX11_monk_44 (zsw_out [5, 6, 7] (by decide) (by simp [c_7, c_8, c_9])) (by decide) hdf
  · refine lv_iconst (v := 0) hx hb dX11_monk_41 (by decide) ?_
    exact hret _ _ _ _ _ _ (Option.some.inj h).symm rfl hZ dX11_monk_42
def f_X11_monk (M : zM) (x1 : Int32) (x2 : Int32) : Option (Int32 × zM) :=
  znm (zu M 0 0 0) (fun M_11 => zbn (f_X11_noMonk M_11 x1) (fun u_12 => zbn (f_X11_throwsIf M_11 u_12 1) (fun u_13 => if u_13.1 = 0 then (zbn (f_X11_in u_13.2 x2 0 7) (fun u_14 => if u_14 = 0 then (b_X11_monk_34  u_13.2 x1 x2 1) else (b_X11_monk_34  u_13.2 x1 x2 0))) else (some (0, u_13.2)))))
set_option maxRecDepth 100000 in
set_option maxHeartbeats 4000000 in
theorem w_X11_monk (g : zG)  {r : Int32 × zM} (E : zX g p m c cX11_monk 3 s args (zWs yX11_monk cX11_monk 3 (some .int)) RX11) (hret : zRi g rE 15 p l e (zrm 12 0 0) s m args below meth c 0 0 Q cX11_monk .int (fun v M1 => r = (v, M1))) (M : zM) (x1 : Int32) (x2 : Int32) (H : Heap) (locs : List Loc) (ls : Array Slot) (h : f_X11_monk M x1 x2 = some r) (hZ : zS g rE 15 s H locs M) (hl : lv_has ls 3 [(0, .ref (g.2.2 0)), (1, .int x1), (2, .int x2)]) : W p l e (zrm 12 0 0) s m args below meth c H locs 0 0 Q (F0 m 0 ls []) := by
  have hx := E.1.1
  have hb := E.1.2.1
  unfold f_X11_monk at h
  refine lv_aload_n hx hb dX11_monk_0 rfl (lv_at hl 0 rfl) ?_
  refine lv_iconst (v := 0) hx hb dX11_monk_1 (by decide) ?_
  refine zp h E hZ (by decide) (re_0 _) ((re_0 _).trans (congrArg (fun z => Sum.inr (10, z)) (fs_X11_0 g _ _ _))) kc_X11 (by decide) kw_1368 rfl rfl rfl (Nat.le_of_ble_eq_true rfl) dX11_monk_2 (fun M_11 H locs eM_11 h hZ => ?_)
  refine lv_aload_n hx hb dX11_monk_5 rfl (lv_at hl 0 rfl) ?_
  refine lv_aload_n hx hb dX11_monk_6 rfl (lv_at hl 0 rfl) ?_
  refine lv_iload_n hx hb dX11_monk_7 rfl (lv_at hl 1 rfl) ?_
  obtain ⟨u_12, qu_12, h⟩ := zbn_some h
  refine zciR (zrunV E hZ (by decide) (re_0 _) rfl rfl v_X11_noMonk kw_1745 (c_X11_noMonk l g M_11  x1 qu_12 _) rfl hl.1 rfl (Nat.le_of_ble_eq_true rfl) ⟨by decide, by decide⟩ ⟨by decide, by decide⟩ dX11_monk_8) hZ (fun H locs hZ => ?_)
  refine lv_iconst (v := 1) hx hb dX11_monk_11 (by decide) ?_
  obtain ⟨u_13, qu_13, h⟩ := zbn_some h
  refine zciS (zrunV E hZ (by decide) (re_0 _) rfl rfl v_X11_throwsIf kw_1651 (c_X11_throwsIf l g M_11  u_12 1 qu_13 _) rfl hl.1 rfl (Nat.le_of_ble_eq_true rfl) ⟨by decide, by decide⟩ ⟨by decide, by decide⟩ dX11_monk_12) hZ (fun H locs hZ => ?_)
  refine zif_ne (tgt := 41) h E dX11_monk_15 (by decide) (fun c_16 h => ?_) (fun c_16 h => ?_)
  · refine lv_iconst (v := 0) hx hb dX11_monk_41 (by decide) ?_
    exact hret _ _ _ _ _ _ (Option.some.inj h).symm rfl hZ dX11_monk_42
  · refine lv_aload_n hx hb dX11_monk_18 rfl (lv_at hl 0 rfl) ?_
    refine lv_iload_n hx hb dX11_monk_19 rfl (lv_at hl 2 rfl) ?_
    refine lv_iconst (v := 0) hx hb dX11_monk_20 (by decide) ?_
    refine lv_bipush (v := 7) hx hb dX11_monk_21 (by decide) ?_
    obtain ⟨u_14, qu_14, h⟩ := zbn_some h
    refine zciR (zrunS E hZ v_X11_in kw_1666 (c_X11_in l g u_13.2  x2 0 7 qu_14 _) rfl hl.1 rfl (Nat.le_of_ble_eq_true rfl) ⟨by decide, by decide⟩ ⟨by decide, by decide⟩ dX11_monk_23) hZ (fun H locs hZ => ?_)
    refine zif_ne (tgt := 33) h E dX11_monk_26 (by decide) (fun c_15 h => ?_) (fun c_15 h => ?_)
    · refine lv_iconst (v := 0) hx hb dX11_monk_33 (by decide) ?_
      exact lb_X11_monk_34 g  E hret u_13.2 x1 x2 0  H locs ls h hZ (lv_sub hl [0, 1, 2] rfl)
    · refine lv_iconst (v := 1) hx hb dX11_monk_29 (by decide) ?_
      refine lv_goto (tgt := 34) hx hb dX11_monk_30 (by decide) ?_
      exact lb_X11_monk_34 g  E hret u_13.2 x1 x2 1  H locs ls h hZ (lv_sub hl [0, 1, 2] rfl)
theorem c_X11_monk (l : Launch) (g : zG) (M : zM)  (x1 : Int32) (x2 : Int32) {r : Int32 × zM} (h : f_X11_monk M x1 x2 = some r) : zMi l g rE 15 yX11_monk (zWs yX11_monk cX11_monk 3 (some .int)) 12 [.ref (g.2.2 0), .int x1, .int x2] M (fun v M1 => r = (v, M1)) :=
  zMi_of (by decide +kernel) (Nat.le_of_ble_eq_true rfl) (fun p e s m args below meth c Q ls E hret hZ hl => w_X11_monk g  E hret M x1 x2 _ _ ls h hZ hl)
theorem v_X11_monk : zYV yX11_monk cX11_monk 3 (some .int) 2 := ⟨kw_1744, kw_15, kw_1742, kw_1743, by decide +kernel⟩

def b_X11_duty_33  (M : zM) (x1 : Int32) (x2 : Int32) (t0 : Int32) : Option (Int32 × zM) :=
  zbn (f_X11_throwsIf M t0 2) (fun u_1 => if u_1.1 = 0 then (zbn (f_X11_ofDuty u_1.2 x1 x2) (fun u_2 => some (u_2, u_1.2))) else (some (0, u_1.2)))
set_option maxRecDepth 100000 in
set_option maxHeartbeats 4000000 in
theorem lb_X11_duty_33 (g : zG)  {r : Int32 × zM} (E : zX g p m c cX11_duty 3 s args (zWs yX11_duty cX11_duty 3 (some .int)) RX11) (hret : zRi g rE 15 p l e (zrm 4 0 0) s m args below meth c 0 0 Q cX11_duty .int (fun v M1 => r = (v, M1))) (M : zM) (x1 : Int32) (x2 : Int32) (t0 : Int32)  (H : Heap) (locs : List Loc) (ls : Array Slot) (h : b_X11_duty_33  M x1 x2 t0 = some r) (hZ : zS g rE 15 s H locs M) (hl : lv_has ls 3 [(0, .ref (g.2.2 0)), (1, .int x1), (2, .int x2)]) : W p l e (zrm 4 0 0) s m args below meth c H locs 0 0 Q (F0 m 33 ls [.int t0, .ref (g.2.2 0)]) := by
  have hx := E.1.1
  have hb := E.1.2.1
  unfold b_X11_duty_33 at h
  refine lv_iconst (v := 2) hx hb dX11_duty_33 (by decide) ?_
  obtain ⟨u_1, qu_1, h⟩ := zbn_some h
  refine zciS (zrunV E hZ (by decide) (re_0 _) rfl rfl v_X11_throwsIf kw_1651 (c_X11_throwsIf l g M  t0 2 qu_1 _) rfl hl.1 rfl (Nat.le_of_ble_eq_true rfl) ⟨by decide, by decide⟩ ⟨by decide, by decide⟩ dX11_duty_34) hZ (fun H locs hZ => ?_)
  refine zif_eq (tgt := 44) h E dX11_duty_37 (by decide) (fun c_3 h => ?_) (fun c_3 h => ?_)
  · refine lv_aload_n hx hb dX11_duty_44 rfl (lv_at hl 0 rfl) ?_
    refine lv_iload_n hx hb dX11_duty_45 rfl (lv_at hl 1 rfl) ?_
    refine lv_iload_n hx hb dX11_duty_46 rfl (lv_at hl 2 rfl) ?_
    obtain ⟨u_2, qu_2, h⟩ := zbn_some h
    refine zciR (zrunV E hZ (by decide) (re_0 _) rfl rfl v_X11_ofDuty kw_1789 (c_X11_ofDuty l g u_1.2  x1 x2 qu_2 _) rfl hl.1 rfl (Nat.le_of_ble_eq_true rfl) ⟨by decide, by decide⟩ ⟨by decide, by decide⟩ dX11_duty_47) hZ (fun H locs hZ => ?_)
    exact hret _ _ _ _ _ _ (Option.some.inj h).symm rfl hZ dX11_duty_50
  · refine lv_iconst (v := 0) hx hb dX11_duty_40 (by decide) ?_
    refine lv_goto (tgt := 50) hx hb dX11_duty_41 (by decide) ?_
    exact hret _ _ _ _ _ _ (Option.some.inj h).symm rfl hZ dX11_duty_50
def f_X11_duty (M : zM) (x1 : Int32) (x2 : Int32) : Option (Int32 × zM) :=
  znm (zu M 0 0 0) (fun M_4 => zbn (f_X11_noDuty M_4 x1) (fun u_5 => zbn (f_X11_throwsIf M_4 u_5 1) (fun u_6 => if u_6.1 = 0 then (zbn (f_X11_in u_6.2 x2 0 3) (fun u_7 => if u_7 = 0 then (b_X11_duty_33  u_6.2 x1 x2 1) else (b_X11_duty_33  u_6.2 x1 x2 0))) else (some (0, u_6.2)))))
set_option maxRecDepth 100000 in
set_option maxHeartbeats 4000000 in
theorem w_X11_duty (g : zG)  {r : Int32 × zM} (E : zX g p m c cX11_duty 3 s args (zWs yX11_duty cX11_duty 3 (some .int)) RX11) (hret : zRi g rE 15 p l e (zrm 4 0 0) s m args below meth c 0 0 Q cX11_duty .int (fun v M1 => r = (v, M1))) (M : zM) (x1 : Int32) (x2 : Int32) (H : Heap) (locs : List Loc) (ls : Array Slot) (h : f_X11_duty M x1 x2 = some r) (hZ : zS g rE 15 s H locs M) (hl : lv_has ls 3 [(0, .ref (g.2.2 0)), (1, .int x1), (2, .int x2)]) : W p l e (zrm 4 0 0) s m args below meth c H locs 0 0 Q (F0 m 0 ls []) := by
  have hx := E.1.1
  have hb := E.1.2.1
  unfold f_X11_duty at h
  refine lv_aload_n hx hb dX11_duty_0 rfl (lv_at hl 0 rfl) ?_
  refine lv_iconst (v := 0) hx hb dX11_duty_1 (by decide) ?_
  refine zp h E hZ (by decide) (re_0 _) ((re_0 _).trans (congrArg (fun z => Sum.inr (10, z)) (fs_X11_0 g _ _ _))) kc_X11 (by decide) kw_1368 rfl rfl rfl (Nat.le_of_ble_eq_true rfl) dX11_duty_2 (fun M_4 H locs eM_4 h hZ => ?_)
  refine lv_aload_n hx hb dX11_duty_5 rfl (lv_at hl 0 rfl) ?_
  refine lv_aload_n hx hb dX11_duty_6 rfl (lv_at hl 0 rfl) ?_
  refine lv_iload_n hx hb dX11_duty_7 rfl (lv_at hl 1 rfl) ?_
  obtain ⟨u_5, qu_5, h⟩ := zbn_some h
  refine zciR (zrunV E hZ (by decide) (re_0 _) rfl rfl v_X11_noDuty kw_1785 (c_X11_noDuty l g M_4  x1 qu_5 _) rfl hl.1 rfl (Nat.le_of_ble_eq_true rfl) ⟨by decide, by decide⟩ ⟨by decide, by decide⟩ dX11_duty_8) hZ (fun H locs hZ => ?_)
  refine lv_iconst (v := 1) hx hb dX11_duty_11 (by decide) ?_
  obtain ⟨u_6, qu_6, h⟩ := zbn_some h
  refine zciS (zrunV E hZ (by decide) (re_0 _) rfl rfl v_X11_throwsIf kw_1651 (c_X11_throwsIf l g M_4  u_5 1 qu_6 _) rfl hl.1 rfl (Nat.le_of_ble_eq_true rfl) ⟨by decide, by decide⟩ ⟨by decide, by decide⟩ dX11_duty_12) hZ (fun H locs hZ => ?_)
  refine zif_ne (tgt := 40) h E dX11_duty_15 (by decide) (fun c_9 h => ?_) (fun c_9 h => ?_)
  · refine lv_iconst (v := 0) hx hb dX11_duty_40 (by decide) ?_
    refine lv_goto (tgt := 50) hx hb dX11_duty_41 (by decide) ?_
    exact hret _ _ _ _ _ _ (Option.some.inj h).symm rfl hZ dX11_duty_50
  · refine lv_aload_n hx hb dX11_duty_18 rfl (lv_at hl 0 rfl) ?_
    refine lv_iload_n hx hb dX11_duty_19 rfl (lv_at hl 2 rfl) ?_
    refine lv_iconst (v := 0) hx hb dX11_duty_20 (by decide) ?_
    refine lv_iconst (v := 3) hx hb dX11_duty_21 (by decide) ?_
    obtain ⟨u_7, qu_7, h⟩ := zbn_some h
    refine zciR (zrunS E hZ v_X11_in kw_1666 (c_X11_in l g u_6.2  x2 0 3 qu_7 _) rfl hl.1 rfl (Nat.le_of_ble_eq_true rfl) ⟨by decide, by decide⟩ ⟨by decide, by decide⟩ dX11_duty_22) hZ (fun H locs hZ => ?_)
    refine zif_ne (tgt := 32) h E dX11_duty_25 (by decide) (fun c_8 h => ?_) (fun c_8 h => ?_)
    · refine lv_iconst (v := 0) hx hb dX11_duty_32 (by decide) ?_
      exact lb_X11_duty_33 g  E hret u_6.2 x1 x2 0  H locs ls h hZ (lv_sub hl [0, 1, 2] rfl)
    · refine lv_iconst (v := 1) hx hb dX11_duty_28 (by decide) ?_
      refine lv_goto (tgt := 33) hx hb dX11_duty_29 (by decide) ?_
      exact lb_X11_duty_33 g  E hret u_6.2 x1 x2 1  H locs ls h hZ (lv_sub hl [0, 1, 2] rfl)
theorem c_X11_duty (l : Launch) (g : zG) (M : zM)  (x1 : Int32) (x2 : Int32) {r : Int32 × zM} (h : f_X11_duty M x1 x2 = some r) : zMi l g rE 15 yX11_duty (zWs yX11_duty cX11_duty 3 (some .int)) 4 [.ref (g.2.2 0), .int x1, .int x2] M (fun v M1 => r = (v, M1)) :=
  zMi_of (by decide +kernel) (Nat.le_of_ble_eq_true rfl) (fun p e s m args below meth c Q ls E hret hZ hl => w_X11_duty g  E hret M x1 x2 _ _ ls h hZ hl)
theorem v_X11_duty : zYV yX11_duty cX11_duty 3 (some .int) 2 := ⟨kw_1784, kw_15, kw_1782, kw_1783, by decide +kernel⟩

def b_X11_goal_26  (M : zM) (x1 : Int32) (x2 : Int32) (t0 : Int32) : Option (Int32 × zM) :=
  zbn (f_X11_throwsIf M t0 1) (fun u_1 => if u_1.1 = 0 then (zbn (f_X11_isDrowned u_1.2 x1) (fun u_2 => zbn (f_X11_throwsIf u_1.2 u_2 2) (fun u_3 => if u_3.1 = 0 then (zbn (f_X11_remembers u_3.2 ) (fun u_4 => zbn (f_X11_of u_4 x1 1) (fun u_5 => zbn (f_X11_monkAt u_4 x1 1) (fun u_6 => zck (zin u_6 2030) (znm (zu u_4 1 (u_6 : Int32).toNatClampNeg x2) (fun M_7 => some (u_5, M_7))))))) else (some (0, u_3.2))))) else (some (0, u_1.2)))
set_option maxRecDepth 100000 in
set_option maxHeartbeats 4000000 in
theorem lb_X11_goal_26 (g : zG)  {r : Int32 × zM} (E : zX g p m c cX11_goal 4 s args (zWs yX11_goal cX11_goal 4 (some .int)) RX11) (hret : zRi g rE 15 p l e (zrm 5 0 0) s m args below meth c 0 0 Q cX11_goal .int (fun v M1 => r = (v, M1))) (M : zM) (x1 : Int32) (x2 : Int32) (t0 : Int32)  (H : Heap) (locs : List Loc) (ls : Array Slot) (h : b_X11_goal_26  M x1 x2 t0 = some r) (hZ : zS g rE 15 s H locs M) (hl : lv_has ls 4 [(0, .ref (g.2.2 0)), (1, .int x1), (2, .int x2)]) : W p l e (zrm 5 0 0) s m args below meth c H locs 0 0 Q (F0 m 26 ls [.int t0, .ref (g.2.2 0)]) := by
  have hx := E.1.1
  have hb := E.1.2.1
  unfold b_X11_goal_26 at h
  refine lv_iconst (v := 1) hx hb dX11_goal_26 (by decide) ?_
  obtain ⟨u_1, qu_1, h⟩ := zbn_some h
  refine zciS (zrunV E hZ (by decide) (re_0 _) rfl rfl v_X11_throwsIf kw_1651 (c_X11_throwsIf l g M  t0 1 qu_1 _) rfl hl.1 rfl (Nat.le_of_ble_eq_true rfl) ⟨by decide, by decide⟩ ⟨by decide, by decide⟩ dX11_goal_27) hZ (fun H locs hZ => ?_)
  refine zif_ne (tgt := 46) h E dX11_goal_30 (by decide) (fun c_9 h => ?_) (fun c_9 h => ?_)
  · refine lv_iconst (v := 0) hx hb dX11_goal_46 (by decide) ?_
    exact hret _ _ _ _ _ _ (Option.some.inj h).symm rfl hZ dX11_goal_47
  · refine lv_aload_n hx hb dX11_goal_33 rfl (lv_at hl 0 rfl) ?_
    refine lv_aload_n hx hb dX11_goal_34 rfl (lv_at hl 0 rfl) ?_
    refine lv_iload_n hx hb dX11_goal_35 rfl (lv_at hl 1 rfl) ?_
    obtain ⟨u_2, qu_2, h⟩ := zbn_some h
    refine zciR (zrunV E hZ (by decide) (re_0 _) rfl rfl v_X11_isDrowned kw_1797 (c_X11_isDrowned l g u_1.2  x1 qu_2 _) rfl hl.1 rfl (Nat.le_of_ble_eq_true rfl) ⟨by decide, by decide⟩ ⟨by decide, by decide⟩ dX11_goal_36) hZ (fun H locs hZ => ?_)
    refine lv_iconst (v := 2) hx hb dX11_goal_39 (by decide) ?_
    obtain ⟨u_3, qu_3, h⟩ := zbn_some h
    refine zciS (zrunV E hZ (by decide) (re_0 _) rfl rfl v_X11_throwsIf kw_1651 (c_X11_throwsIf l g u_1.2  u_2 2 qu_3 _) rfl hl.1 rfl (Nat.le_of_ble_eq_true rfl) ⟨by decide, by decide⟩ ⟨by decide, by decide⟩ dX11_goal_40) hZ (fun H locs hZ => ?_)
    refine zif_eq (tgt := 48) h E dX11_goal_43 (by decide) (fun c_8 h => ?_) (fun c_8 h => ?_)
    · refine lv_aload_n hx hb dX11_goal_48 rfl (lv_at hl 0 rfl) ?_
      obtain ⟨u_4, qu_4, h⟩ := zbn_some h
      refine zcvS (zrunV E hZ (by decide) (re_0 _) rfl rfl v_X11_remembers kw_1801 (c_X11_remembers l g u_3.2   qu_4 _) rfl hl.1 rfl (Nat.le_of_ble_eq_true rfl) ⟨by decide, by decide⟩ ⟨by decide, by decide⟩ dX11_goal_49) hZ (fun H locs hZ => ?_)
      refine lv_aload_n hx hb dX11_goal_52 rfl (lv_at hl 0 rfl) ?_
      refine lv_iload_n hx hb dX11_goal_53 rfl (lv_at hl 1 rfl) ?_
      refine lv_iconst (v := 1) hx hb dX11_goal_54 (by decide) ?_
      obtain ⟨u_5, qu_5, h⟩ := zbn_some h
      refine zciR (zrunV E hZ (by decide) (re_0 _) rfl rfl v_X11_of kw_1765 (c_X11_of l g u_4  x1 1 qu_5 _) rfl hl.1 rfl (Nat.le_of_ble_eq_true rfl) ⟨by decide, by decide⟩ ⟨by decide, by decide⟩ dX11_goal_55) hZ (fun H locs hZ => ?_)
      refine lv_istore_n (lv' := [(3, .int u_5), (0, .ref (g.2.2 0)), (1, .int x1), (2, .int x2)]) hx hb dX11_goal_58 rfl hl (by decide) rfl (fun ls hl => ?_)
      refine lv_aload_n hx hb dX11_goal_59 rfl (lv_at hl 1 rfl) ?_
      refine zg (v := .ref (g.2.2 1)) E hZ (by decide) (re_0 _) kc_X11 1 (by decide) kw_1369 rfl rfl dX11_goal_60 ?_
      refine lv_iload_n hx hb dX11_goal_63 rfl (lv_at hl 2 rfl) ?_
      refine lv_iconst (v := 1) hx hb dX11_goal_64 (by decide) ?_
      obtain ⟨u_6, qu_6, h⟩ := zbn_some h
      refine zciR (zrunS E hZ v_X11_monkAt kw_1572 (c_X11_monkAt l g u_4  x1 1 qu_6 _) rfl hl.1 rfl (Nat.le_of_ble_eq_true rfl) ⟨by decide, by decide⟩ ⟨by decide, by decide⟩ dX11_goal_65) hZ (fun H locs hZ => ?_)
      refine lv_iload_n hx hb dX11_goal_68 rfl (lv_at hl 3 rfl) ?_
      refine zis h E hZ (by decide) re_1 dX11_goal_69 (fun M_7 H locs eM_7 h hZ => ?_)
      refine lv_iload_n hx hb dX11_goal_70 rfl (lv_at hl 0 rfl) ?_
      exact hret _ _ _ _ _ _ (Option.some.inj h).symm rfl hZ dX11_goal_71
    · refine lv_iconst (v := 0) hx hb dX11_goal_46 (by decide) ?_
      exact hret _ _ _ _ _ _ (Option.some.inj h).symm rfl hZ dX11_goal_47
def b_X11_goal_21  (M : zM) (x1 : Int32) (x2 : Int32) : Option (Int32 × zM) :=
  b_X11_goal_26  M x1 x2 1
set_option maxRecDepth 100000 in
set_option maxHeartbeats 4000000 in
theorem lb_X11_goal_21 (g : zG)  {r : Int32 × zM} (E : zX g p m c cX11_goal 4 s args (zWs yX11_goal cX11_goal 4 (some .int)) RX11) (hret : zRi g rE 15 p l e (zrm 5 0 0) s m args below meth c 0 0 Q cX11_goal .int (fun v M1 => r = (v, M1))) (M : zM) (x1 : Int32) (x2 : Int32)  (H : Heap) (locs : List Loc) (ls : Array Slot) (h : b_X11_goal_21  M x1 x2 = some r) (hZ : zS g rE 15 s H locs M) (hl : lv_has ls 4 [(0, .ref (g.2.2 0)), (1, .int x1), (2, .int x2)]) : W p l e (zrm 5 0 0) s m args below meth c H locs 0 0 Q (F0 m 21 ls [.ref (g.2.2 0)]) := by
  have hx := E.1.1
  have hb := E.1.2.1
  unfold b_X11_goal_21 at h
  refine lv_iconst (v := 1) hx hb dX11_goal_21 (by decide) ?_
  refine lv_goto (tgt := 26) hx hb dX11_goal_22 (by decide) ?_
  exact lb_X11_goal_26 g  E hret M x1 x2 1  H locs ls h hZ (lv_sub hl [0, 1, 2] rfl)
def f_X11_goal (M : zM) (x1 : Int32) (x2 : Int32) : Option (Int32 × zM) :=
  znm (zu M 0 0 0) (fun M_10 => zbn (f_X11_noMonk M_10 x1) (fun u_11 => if u_11 = 0 then (zbn (f_X11_noPlace M_10 x2) (fun u_12 => if u_12 = 0 then (b_X11_goal_26  M_10 x1 x2 0) else (b_X11_goal_21  M_10 x1 x2))) else (b_X11_goal_21  M_10 x1 x2)))
set_option maxRecDepth 100000 in
set_option maxHeartbeats 4000000 in
theorem w_X11_goal (g : zG)  {r : Int32 × zM} (E : zX g p m c cX11_goal 4 s args (zWs yX11_goal cX11_goal 4 (some .int)) RX11) (hret : zRi g rE 15 p l e (zrm 5 0 0) s m args below meth c 0 0 Q cX11_goal .int (fun v M1 => r = (v, M1))) (M : zM) (x1 : Int32) (x2 : Int32) (H : Heap) (locs : List Loc) (ls : Array Slot) (h : f_X11_goal M x1 x2 = some r) (hZ : zS g rE 15 s H locs M) (hl : lv_has ls 4 [(0, .ref (g.2.2 0)), (1, .int x1), (2, .int x2)]) : W p l e (zrm 5 0 0) s m args below meth c H locs 0 0 Q (F0 m 0 ls []) := by
  have hx := E.1.1
  have hb := E.1.2.1
  unfold f_X11_goal at h
  refine lv_aload_n hx hb dX11_goal_0 rfl (lv_at hl 0 rfl) ?_
  refine lv_iconst (v := 0) hx hb dX11_goal_1 (by decide) ?_
  refine zp h E hZ (by decide) (re_0 _) ((re_0 _).trans (congrArg (fun z => Sum.inr (10, z)) (fs_X11_0 g _ _ _))) kc_X11 (by decide) kw_1368 rfl rfl rfl (Nat.le_of_ble_eq_true rfl) dX11_goal_2 (fun M_10 H locs eM_10 h hZ => ?_)
  refine lv_aload_n hx hb dX11_goal_5 rfl (lv_at hl 0 rfl) ?_
  refine lv_aload_n hx hb dX11_goal_6 rfl (lv_at hl 0 rfl) ?_
  refine lv_iload_n hx hb dX11_goal_7 rfl (lv_at hl 1 rfl) ?_
  obtain ⟨u_11, qu_11, h⟩ := zbn_some h
  refine zciR (zrunV E hZ (by decide) (re_0 _) rfl rfl v_X11_noMonk kw_1745 (c_X11_noMonk l g M_10  x1 qu_11 _) rfl hl.1 rfl (Nat.le_of_ble_eq_true rfl) ⟨by decide, by decide⟩ ⟨by decide, by decide⟩ dX11_goal_8) hZ (fun H locs hZ => ?_)
  refine zif_ne (tgt := 21) h E dX11_goal_11 (by decide) (fun c_14 h => ?_) (fun c_14 h => ?_)
  · exact lb_X11_goal_21 g  E hret M_10 x1 x2  H locs ls h hZ (lv_sub hl [0, 1, 2] rfl)
  · refine lv_iload_n hx hb dX11_goal_14 rfl (lv_at hl 2 rfl) ?_
    obtain ⟨u_12, qu_12, h⟩ := zbn_some h
    refine zciR (zrunS E hZ v_X11_noPlace kw_1663 (c_X11_noPlace l g M_10  x2 qu_12 _) rfl hl.1 rfl (Nat.le_of_ble_eq_true rfl) ⟨by decide, by decide⟩ ⟨by decide, by decide⟩ dX11_goal_15) hZ (fun H locs hZ => ?_)
    refine zif_eq (tgt := 25) h E dX11_goal_18 (by decide) (fun c_13 h => ?_) (fun c_13 h => ?_)
    · refine lv_iconst (v := 0) hx hb dX11_goal_25 (by decide) ?_
      exact lb_X11_goal_26 g  E hret M_10 x1 x2 0  H locs ls h hZ (lv_sub hl [0, 1, 2] rfl)
    · exact lb_X11_goal_21 g  E hret M_10 x1 x2  H locs ls h hZ (lv_sub hl [0, 1, 2] rfl)
theorem c_X11_goal (l : Launch) (g : zG) (M : zM)  (x1 : Int32) (x2 : Int32) {r : Int32 × zM} (h : f_X11_goal M x1 x2 = some r) : zMi l g rE 15 yX11_goal (zWs yX11_goal cX11_goal 4 (some .int)) 5 [.ref (g.2.2 0), .int x1, .int x2] M (fun v M1 => r = (v, M1)) :=
  zMi_of (by decide +kernel) (Nat.le_of_ble_eq_true rfl) (fun p e s m args below meth c Q ls E hret hZ hl => w_X11_goal g  E hret M x1 x2 _ _ ls h hZ hl)
theorem v_X11_goal : zYV yX11_goal cX11_goal 4 (some .int) 2 := ⟨kw_1796, kw_15, kw_1794, kw_1795, by decide +kernel⟩

def f_X11_rest (M : zM) (x1 : Int32) : Option (Int32 × zM) :=
  znm (zu M 0 0 0) (fun M_1 => zbn (f_X11_noMonk M_1 x1) (fun u_2 => zbn (f_X11_throwsIf M_1 u_2 1) (fun u_3 => if u_3.1 = 0 then (zbn (f_X11_isDrowned u_3.2 x1) (fun u_4 => zbn (f_X11_throwsIf u_3.2 u_4 2) (fun u_5 => if u_5.1 = 0 then (zbn (f_X11_remembers u_5.2 ) (fun u_6 => zbn (f_X11_of u_6 x1 3) (fun u_7 => zbn (f_X11_monkAt u_6 x1 3) (fun u_8 => zck (zin u_8 2030) (znm (zu u_6 1 (u_8 : Int32).toNatClampNeg 0) (fun M_9 => some (u_7, M_9))))))) else (some (0, u_5.2))))) else (some (0, u_3.2)))))
set_option maxRecDepth 100000 in
set_option maxHeartbeats 4000000 in
theorem w_X11_rest (g : zG)  {r : Int32 × zM} (E : zX g p m c cX11_rest 3 s args (zWs yX11_rest cX11_rest 3 (some .int)) RX11) (hret : zRi g rE 15 p l e (zrm 5 0 0) s m args below meth c 0 0 Q cX11_rest .int (fun v M1 => r = (v, M1))) (M : zM) (x1 : Int32) (H : Heap) (locs : List Loc) (ls : Array Slot) (h : f_X11_rest M x1 = some r) (hZ : zS g rE 15 s H locs M) (hl : lv_has ls 3 [(0, .ref (g.2.2 0)), (1, .int x1)]) : W p l e (zrm 5 0 0) s m args below meth c H locs 0 0 Q (F0 m 0 ls []) := by
  have hx := E.1.1
  have hb := E.1.2.1
  unfold f_X11_rest at h
  refine lv_aload_n hx hb dX11_rest_0 rfl (lv_at hl 0 rfl) ?_
  refine lv_iconst (v := 0) hx hb dX11_rest_1 (by decide) ?_
  refine zp h E hZ (by decide) (re_0 _) ((re_0 _).trans (congrArg (fun z => Sum.inr (10, z)) (fs_X11_0 g _ _ _))) kc_X11 (by decide) kw_1368 rfl rfl rfl (Nat.le_of_ble_eq_true rfl) dX11_rest_2 (fun M_1 H locs eM_1 h hZ => ?_)
  refine lv_aload_n hx hb dX11_rest_5 rfl (lv_at hl 0 rfl) ?_
  refine lv_aload_n hx hb dX11_rest_6 rfl (lv_at hl 0 rfl) ?_
  refine lv_iload_n hx hb dX11_rest_7 rfl (lv_at hl 1 rfl) ?_
  obtain ⟨u_2, qu_2, h⟩ := zbn_some h
  refine zciR (zrunV E hZ (by decide) (re_0 _) rfl rfl v_X11_noMonk kw_1745 (c_X11_noMonk l g M_1  x1 qu_2 _) rfl hl.1 rfl (Nat.le_of_ble_eq_true rfl) ⟨by decide, by decide⟩ ⟨by decide, by decide⟩ dX11_rest_8) hZ (fun H locs hZ => ?_)
  refine lv_iconst (v := 1) hx hb dX11_rest_11 (by decide) ?_
  obtain ⟨u_3, qu_3, h⟩ := zbn_some h
  refine zciS (zrunV E hZ (by decide) (re_0 _) rfl rfl v_X11_throwsIf kw_1651 (c_X11_throwsIf l g M_1  u_2 1 qu_3 _) rfl hl.1 rfl (Nat.le_of_ble_eq_true rfl) ⟨by decide, by decide⟩ ⟨by decide, by decide⟩ dX11_rest_12) hZ (fun H locs hZ => ?_)
  refine zif_ne (tgt := 31) h E dX11_rest_15 (by decide) (fun c_11 h => ?_) (fun c_11 h => ?_)
  · refine lv_iconst (v := 0) hx hb dX11_rest_31 (by decide) ?_
    exact hret _ _ _ _ _ _ (Option.some.inj h).symm rfl hZ dX11_rest_32
  · refine lv_aload_n hx hb dX11_rest_18 rfl (lv_at hl 0 rfl) ?_
    refine lv_aload_n hx hb dX11_rest_19 rfl (lv_at hl 0 rfl) ?_
    refine lv_iload_n hx hb dX11_rest_20 rfl (lv_at hl 1 rfl) ?_
    obtain ⟨u_4, qu_4, h⟩ := zbn_some h
    refine zciR (zrunV E hZ (by decide) (re_0 _) rfl rfl v_X11_isDrowned kw_1797 (c_X11_isDrowned l g u_3.2  x1 qu_4 _) rfl hl.1 rfl (Nat.le_of_ble_eq_true rfl) ⟨by decide, by decide⟩ ⟨by decide, by decide⟩ dX11_rest_21) hZ (fun H locs hZ => ?_)
    refine lv_iconst (v := 2) hx hb dX11_rest_24 (by decide) ?_
    obtain ⟨u_5, qu_5, h⟩ := zbn_some h
    refine zciS (zrunV E hZ (by decide) (re_0 _) rfl rfl v_X11_throwsIf kw_1651 (c_X11_throwsIf l g u_3.2  u_4 2 qu_5 _) rfl hl.1 rfl (Nat.le_of_ble_eq_true rfl) ⟨by decide, by decide⟩ ⟨by decide, by decide⟩ dX11_rest_25) hZ (fun H locs hZ => ?_)
    refine zif_eq (tgt := 33) h E dX11_rest_28 (by decide) (fun c_10 h => ?_) (fun c_10 h => ?_)
    · refine lv_aload_n hx hb dX11_rest_33 rfl (lv_at hl 0 rfl) ?_
      obtain ⟨u_6, qu_6, h⟩ := zbn_some h
      refine zcvS (zrunV E hZ (by decide) (re_0 _) rfl rfl v_X11_remembers kw_1801 (c_X11_remembers l g u_5.2   qu_6 _) rfl hl.1 rfl (Nat.le_of_ble_eq_true rfl) ⟨by decide, by decide⟩ ⟨by decide, by decide⟩ dX11_rest_34) hZ (fun H locs hZ => ?_)
      refine lv_aload_n hx hb dX11_rest_37 rfl (lv_at hl 0 rfl) ?_
      refine lv_iload_n hx hb dX11_rest_38 rfl (lv_at hl 1 rfl) ?_
      refine lv_iconst (v := 3) hx hb dX11_rest_39 (by decide) ?_
      obtain ⟨u_7, qu_7, h⟩ := zbn_some h
      refine zciR (zrunV E hZ (by decide) (re_0 _) rfl rfl v_X11_of kw_1765 (c_X11_of l g u_6  x1 3 qu_7 _) rfl hl.1 rfl (Nat.le_of_ble_eq_true rfl) ⟨by decide, by decide⟩ ⟨by decide, by decide⟩ dX11_rest_40) hZ (fun H locs hZ => ?_)
      refine lv_istore_n (lv' := [(2, .int u_7), (0, .ref (g.2.2 0)), (1, .int x1)]) hx hb dX11_rest_43 rfl hl (by decide) rfl (fun ls hl => ?_)
      refine lv_aload_n hx hb dX11_rest_44 rfl (lv_at hl 1 rfl) ?_
      refine zg (v := .ref (g.2.2 1)) E hZ (by decide) (re_0 _) kc_X11 1 (by decide) kw_1369 rfl rfl dX11_rest_45 ?_
      refine lv_iload_n hx hb dX11_rest_48 rfl (lv_at hl 2 rfl) ?_
      refine lv_iconst (v := 3) hx hb dX11_rest_49 (by decide) ?_
      obtain ⟨u_8, qu_8, h⟩ := zbn_some h
      refine zciR (zrunS E hZ v_X11_monkAt kw_1572 (c_X11_monkAt l g u_6  x1 3 qu_8 _) rfl hl.1 rfl (Nat.le_of_ble_eq_true rfl) ⟨by decide, by decide⟩ ⟨by decide, by decide⟩ dX11_rest_50) hZ (fun H locs hZ => ?_)
      refine lv_iconst (v := 0) hx hb dX11_rest_53 (by decide) ?_
      refine zis h E hZ (by decide) re_1 dX11_rest_54 (fun M_9 H locs eM_9 h hZ => ?_)
      refine lv_iload_n hx hb dX11_rest_55 rfl (lv_at hl 0 rfl) ?_
      exact hret _ _ _ _ _ _ (Option.some.inj h).symm rfl hZ dX11_rest_56
    · refine lv_iconst (v := 0) hx hb dX11_rest_31 (by decide) ?_
      exact hret _ _ _ _ _ _ (Option.some.inj h).symm rfl hZ dX11_rest_32
theorem c_X11_rest (l : Launch) (g : zG) (M : zM)  (x1 : Int32) {r : Int32 × zM} (h : f_X11_rest M x1 = some r) : zMi l g rE 15 yX11_rest (zWs yX11_rest cX11_rest 3 (some .int)) 5 [.ref (g.2.2 0), .int x1] M (fun v M1 => r = (v, M1)) :=
  zMi_of (by decide +kernel) (Nat.le_of_ble_eq_true rfl) (fun p e s m args below meth c Q ls E hret hZ hl => w_X11_rest g  E hret M x1 _ _ ls h hZ hl)
theorem v_X11_rest : zYV yX11_rest cX11_rest 3 (some .int) 1 := ⟨kw_1808, kw_15, kw_1806, kw_1807, by decide +kernel⟩

def f_X11_noEdition (M : zM) (x0 : Int32) : Option (Int32) :=
  zbn (f_X11_in M x0 ((-3)) 3) (fun u_1 => if u_1 = 0 then (some 1) else (some 0))
set_option maxRecDepth 100000 in
set_option maxHeartbeats 4000000 in
theorem w_X11_noEdition (g : zG)  {r : Int32} {M0 : zM} (E : zX g p m c cX11_noEdition 1 s args (zWs yX11_noEdition cX11_noEdition 1 (some .boolean)) RX11) (hret : zRi g rE 15 p l e (zrm 3 0 0) s m args below meth c 0 0 Q cX11_noEdition .boolean (fun v M1 => v = r ∧ M1 = M0)) (M : zM) (hM : M = M0) (x0 : Int32) (H : Heap) (locs : List Loc) (ls : Array Slot) (h : f_X11_noEdition M x0 = some r) (hZ : zS g rE 15 s H locs M) (hl : lv_has ls 1 [(0, .int x0)]) : W p l e (zrm 3 0 0) s m args below meth c H locs 0 0 Q (F0 m 0 ls []) := by
  have hx := E.1.1
  have hb := E.1.2.1
  unfold f_X11_noEdition at h
  refine lv_iload_n hx hb dX11_noEdition_0 rfl (lv_at hl 0 rfl) ?_
  refine lv_bipush (v := (-3)) hx hb dX11_noEdition_1 (by decide) ?_
  refine lv_iconst (v := 3) hx hb dX11_noEdition_3 (by decide) ?_
  obtain ⟨u_1, qu_1, h⟩ := zbn_some h
  refine zciR (zrunS E hZ v_X11_in kw_1666 (c_X11_in l g M  x0 ((-3)) 3 qu_1 _) rfl hl.1 rfl (Nat.le_of_ble_eq_true rfl) ⟨by decide, by decide⟩ ⟨by decide, by decide⟩ dX11_noEdition_4) hZ (fun H locs hZ => ?_)
  refine zif_ne (tgt := 14) h E dX11_noEdition_7 (by decide) (fun c_2 h => ?_) (fun c_2 h => ?_)
  · refine lv_iconst (v := 0) hx hb dX11_noEdition_14 (by decide) ?_
    exact hret _ _ _ _ _ _ ⟨Option.some.inj h, hM⟩ rfl hZ dX11_noEdition_15
  · refine lv_iconst (v := 1) hx hb dX11_noEdition_10 (by decide) ?_
    refine lv_goto (tgt := 15) hx hb dX11_noEdition_11 (by decide) ?_
    exact hret _ _ _ _ _ _ ⟨Option.some.inj h, hM⟩ rfl hZ dX11_noEdition_15
theorem c_X11_noEdition (l : Launch) (g : zG) (M : zM)  (x0 : Int32) {r : Int32} (h : f_X11_noEdition M x0 = some r) : zMi l g rE 15 yX11_noEdition (zWs yX11_noEdition cX11_noEdition 1 (some .boolean)) 3 [.int x0] M (fun v M1 => v = r ∧ M1 = M) :=
  zMi_of (by decide +kernel) (Nat.le_of_ble_eq_true rfl) (fun p e s m args below meth c Q ls E hret hZ hl => w_X11_noEdition g  E hret M rfl x0 _ _ ls h hZ hl)
theorem v_X11_noEdition : zYS yX11_noEdition cX11_noEdition 1 (some .boolean) 1 := ⟨kw_1815, kw_15, kw_1814, by decide +kernel⟩

def b_X11_error_28  (M : zM) (x1 : Int32) (x2 : Int32) (t0 : Int32) : Option (Int32 × zM) :=
  zbn (f_X11_throwsIf M t0 1) (fun u_1 => if u_1.1 = 0 then (zbn (f_X11_remembers u_1.2 ) (fun u_2 => zck (zin (26 + x1) 2030) (znm (zu u_2 1 (26 + x1 : Int32).toNatClampNeg x2) (fun M_3 => zbn (f_X11_printedOf M_3 x1) (fun u_4 => some (u_4, M_3)))))) else (some (0, u_1.2)))
set_option maxRecDepth 100000 in
set_option maxHeartbeats 4000000 in
theorem lb_X11_error_28 (g : zG)  {r : Int32 × zM} (E : zX g p m c cX11_error 3 s args (zWs yX11_error cX11_error 3 (some .int)) RX11) (hret : zRi g rE 15 p l e (zrm 4 0 0) s m args below meth c 0 0 Q cX11_error .int (fun v M1 => r = (v, M1))) (M : zM) (x1 : Int32) (x2 : Int32) (t0 : Int32)  (H : Heap) (locs : List Loc) (ls : Array Slot) (h : b_X11_error_28  M x1 x2 t0 = some r) (hZ : zS g rE 15 s H locs M) (hl : lv_has ls 3 [(0, .ref (g.2.2 0)), (1, .int x1), (2, .int x2)]) : W p l e (zrm 4 0 0) s m args below meth c H locs 0 0 Q (F0 m 28 ls [.int t0, .ref (g.2.2 0)]) := by
  have hx := E.1.1
  have hb := E.1.2.1
  unfold b_X11_error_28 at h
  refine lv_iconst (v := 1) hx hb dX11_error_28 (by decide) ?_
  obtain ⟨u_1, qu_1, h⟩ := zbn_some h
  refine zciS (zrunV E hZ (by decide) (re_0 _) rfl rfl v_X11_throwsIf kw_1651 (c_X11_throwsIf l g M  t0 1 qu_1 _) rfl hl.1 rfl (Nat.le_of_ble_eq_true rfl) ⟨by decide, by decide⟩ ⟨by decide, by decide⟩ dX11_error_29) hZ (fun H locs hZ => ?_)
  refine zif_eq (tgt := 37) h E dX11_error_32 (by decide) (fun c_5 h => ?_) (fun c_5 h => ?_)
  · refine lv_aload_n hx hb dX11_error_37 rfl (lv_at hl 0 rfl) ?_
    obtain ⟨u_2, qu_2, h⟩ := zbn_some h
    refine zcvS (zrunV E hZ (by decide) (re_0 _) rfl rfl v_X11_remembers kw_1801 (c_X11_remembers l g u_1.2   qu_2 _) rfl hl.1 rfl (Nat.le_of_ble_eq_true rfl) ⟨by decide, by decide⟩ ⟨by decide, by decide⟩ dX11_error_38) hZ (fun H locs hZ => ?_)
    refine lv_aload_n hx hb dX11_error_41 rfl (lv_at hl 0 rfl) ?_
    refine zg (v := .ref (g.2.2 1)) E hZ (by decide) (re_0 _) kc_X11 1 (by decide) kw_1369 rfl rfl dX11_error_42 ?_
    refine lv_bipush (v := 26) hx hb dX11_error_45 (by decide) ?_
    refine lv_iload_n hx hb dX11_error_47 rfl (lv_at hl 1 rfl) ?_
    refine lv_iadd hx hb dX11_error_48 ?_
    refine lv_iload_n hx hb dX11_error_49 rfl (lv_at hl 2 rfl) ?_
    refine zis h E hZ (by decide) re_1 dX11_error_50 (fun M_3 H locs eM_3 h hZ => ?_)
    refine lv_aload_n hx hb dX11_error_51 rfl (lv_at hl 0 rfl) ?_
    refine lv_iload_n hx hb dX11_error_52 rfl (lv_at hl 1 rfl) ?_
    obtain ⟨u_4, qu_4, h⟩ := zbn_some h
    refine zciR (zrunV E hZ (by decide) (re_0 _) rfl rfl v_X11_printedOf kw_1710 (c_X11_printedOf l g M_3  x1 qu_4 _) rfl hl.1 rfl (Nat.le_of_ble_eq_true rfl) ⟨by decide, by decide⟩ ⟨by decide, by decide⟩ dX11_error_53) hZ (fun H locs hZ => ?_)
    exact hret _ _ _ _ _ _ (Option.some.inj h).symm rfl hZ dX11_error_56
  · refine lv_iconst (v := 0) hx hb dX11_error_35 (by decide) ?_
    exact hret _ _ _ _ _ _ (Option.some.inj h).symm rfl hZ dX11_error_36
def b_X11_error_23  (M : zM) (x1 : Int32) (x2 : Int32) : Option (Int32 × zM) :=
  b_X11_error_28  M x1 x2 1
set_option maxRecDepth 100000 in
set_option maxHeartbeats 4000000 in
theorem lb_X11_error_23 (g : zG)  {r : Int32 × zM} (E : zX g p m c cX11_error 3 s args (zWs yX11_error cX11_error 3 (some .int)) RX11) (hret : zRi g rE 15 p l e (zrm 4 0 0) s m args below meth c 0 0 Q cX11_error .int (fun v M1 => r = (v, M1))) (M : zM) (x1 : Int32) (x2 : Int32)  (H : Heap) (locs : List Loc) (ls : Array Slot) (h : b_X11_error_23  M x1 x2 = some r) (hZ : zS g rE 15 s H locs M) (hl : lv_has ls 3 [(0, .ref (g.2.2 0)), (1, .int x1), (2, .int x2)]) : W p l e (zrm 4 0 0) s m args below meth c H locs 0 0 Q (F0 m 23 ls [.ref (g.2.2 0)]) := by
  have hx := E.1.1
  have hb := E.1.2.1
  unfold b_X11_error_23 at h
  refine lv_iconst (v := 1) hx hb dX11_error_23 (by decide) ?_
  refine lv_goto (tgt := 28) hx hb dX11_error_24 (by decide) ?_
  exact lb_X11_error_28 g  E hret M x1 x2 1  H locs ls h hZ (lv_sub hl [0, 1, 2] rfl)
def f_X11_error (M : zM) (x1 : Int32) (x2 : Int32) : Option (Int32 × zM) :=
  znm (zu M 0 0 0) (fun M_6 => zbn (f_X11_in M_6 x1 0 11) (fun u_7 => if u_7 = 0 then (b_X11_error_23  M_6 x1 x2) else (zbn (f_X11_noEdition M_6 x2) (fun u_8 => if u_8 = 0 then (b_X11_error_28  M_6 x1 x2 0) else (b_X11_error_23  M_6 x1 x2)))))
set_option maxRecDepth 100000 in
set_option maxHeartbeats 4000000 in
theorem w_X11_error (g : zG)  {r : Int32 × zM} (E : zX g p m c cX11_error 3 s args (zWs yX11_error cX11_error 3 (some .int)) RX11) (hret : zRi g rE 15 p l e (zrm 4 0 0) s m args below meth c 0 0 Q cX11_error .int (fun v M1 => r = (v, M1))) (M : zM) (x1 : Int32) (x2 : Int32) (H : Heap) (locs : List Loc) (ls : Array Slot) (h : f_X11_error M x1 x2 = some r) (hZ : zS g rE 15 s H locs M) (hl : lv_has ls 3 [(0, .ref (g.2.2 0)), (1, .int x1), (2, .int x2)]) : W p l e (zrm 4 0 0) s m args below meth c H locs 0 0 Q (F0 m 0 ls []) := by
  have hx := E.1.1
  have hb := E.1.2.1
  unfold f_X11_error at h
  refine lv_aload_n hx hb dX11_error_0 rfl (lv_at hl 0 rfl) ?_
  refine lv_iconst (v := 0) hx hb dX11_error_1 (by decide) ?_
  refine zp h E hZ (by decide) (re_0 _) ((re_0 _).trans (congrArg (fun z => Sum.inr (10, z)) (fs_X11_0 g _ _ _))) kc_X11 (by decide) kw_1368 rfl rfl rfl (Nat.le_of_ble_eq_true rfl) dX11_error_2 (fun M_6 H locs eM_6 h hZ => ?_)
  refine lv_aload_n hx hb dX11_error_5 rfl (lv_at hl 0 rfl) ?_
  refine lv_iload_n hx hb dX11_error_6 rfl (lv_at hl 1 rfl) ?_
  refine lv_iconst (v := 0) hx hb dX11_error_7 (by decide) ?_
  refine lv_bipush (v := 11) hx hb dX11_error_8 (by decide) ?_
  obtain ⟨u_7, qu_7, h⟩ := zbn_some h
  refine zciR (zrunS E hZ v_X11_in kw_1666 (c_X11_in l g M_6  x1 0 11 qu_7 _) rfl hl.1 rfl (Nat.le_of_ble_eq_true rfl) ⟨by decide, by decide⟩ ⟨by decide, by decide⟩ dX11_error_10) hZ (fun H locs hZ => ?_)
  refine zif_eq (tgt := 23) h E dX11_error_13 (by decide) (fun c_10 h => ?_) (fun c_10 h => ?_)
  · exact lb_X11_error_23 g  E hret M_6 x1 x2  H locs ls h hZ (lv_sub hl [0, 1, 2] rfl)
  · refine lv_iload_n hx hb dX11_error_16 rfl (lv_at hl 2 rfl) ?_
    obtain ⟨u_8, qu_8, h⟩ := zbn_some h
    refine zciR (zrunS E hZ v_X11_noEdition kw_1813 (c_X11_noEdition l g M_6  x2 qu_8 _) rfl hl.1 rfl (Nat.le_of_ble_eq_true rfl) ⟨by decide, by decide⟩ ⟨by decide, by decide⟩ dX11_error_17) hZ (fun H locs hZ => ?_)
    refine zif_eq (tgt := 27) h E dX11_error_20 (by decide) (fun c_9 h => ?_) (fun c_9 h => ?_)
    · refine lv_iconst (v := 0) hx hb dX11_error_27 (by decide) ?_
      exact lb_X11_error_28 g  E hret M_6 x1 x2 0  H locs ls h hZ (lv_sub hl [0, 1, 2] rfl)
    · exact lb_X11_error_23 g  E hret M_6 x1 x2  H locs ls h hZ (lv_sub hl [0, 1, 2] rfl)
theorem c_X11_error (l : Launch) (g : zG) (M : zM)  (x1 : Int32) (x2 : Int32) {r : Int32 × zM} (h : f_X11_error M x1 x2 = some r) : zMi l g rE 15 yX11_error (zWs yX11_error cX11_error 3 (some .int)) 4 [.ref (g.2.2 0), .int x1, .int x2] M (fun v M1 => r = (v, M1)) :=
  zMi_of (by decide +kernel) (Nat.le_of_ble_eq_true rfl) (fun p e s m args below meth c Q ls E hret hZ hl => w_X11_error g  E hret M x1 x2 _ _ ls h hZ hl)
theorem v_X11_error : zYV yX11_error cX11_error 3 (some .int) 2 := ⟨kw_1812, kw_15, kw_1810, kw_1811, by decide +kernel⟩

def f_X11_edition (M : zM) (x1 : Int32) : Option (Int32 × zM) :=
  znm (zu M 0 0 0) (fun M_1 => zbn (f_X11_noEdition M_1 x1) (fun u_2 => zbn (f_X11_throwsIf M_1 u_2 1) (fun u_3 => if u_3.1 = 0 then (zbn (f_X11_remembers u_3.2 ) (fun u_4 => zck (zin 10 2030) (znm (u_4 1 (10 : Int32).toNatClampNeg) (fun x2_5 => zck (zin 10 2030) (znm (zu u_4 1 (10 : Int32).toNatClampNeg x1) (fun M_6 => some (x2_5, M_6))))))) else (some (0, u_3.2)))))
set_option maxRecDepth 100000 in
set_option maxHeartbeats 4000000 in
theorem w_X11_edition (g : zG)  {r : Int32 × zM} (E : zX g p m c cX11_edition 3 s args (zWs yX11_edition cX11_edition 3 (some .int)) RX11) (hret : zRi g rE 15 p l e (zrm 4 0 0) s m args below meth c 0 0 Q cX11_edition .int (fun v M1 => r = (v, M1))) (M : zM) (x1 : Int32) (H : Heap) (locs : List Loc) (ls : Array Slot) (h : f_X11_edition M x1 = some r) (hZ : zS g rE 15 s H locs M) (hl : lv_has ls 3 [(0, .ref (g.2.2 0)), (1, .int x1)]) : W p l e (zrm 4 0 0) s m args below meth c H locs 0 0 Q (F0 m 0 ls []) := by
  have hx := E.1.1
  have hb := E.1.2.1
  unfold f_X11_edition at h
  refine lv_aload_n hx hb dX11_edition_0 rfl (lv_at hl 0 rfl) ?_
  refine lv_iconst (v := 0) hx hb dX11_edition_1 (by decide) ?_
  refine zp h E hZ (by decide) (re_0 _) ((re_0 _).trans (congrArg (fun z => Sum.inr (10, z)) (fs_X11_0 g _ _ _))) kc_X11 (by decide) kw_1368 rfl rfl rfl (Nat.le_of_ble_eq_true rfl) dX11_edition_2 (fun M_1 H locs eM_1 h hZ => ?_)
  refine lv_aload_n hx hb dX11_edition_5 rfl (lv_at hl 0 rfl) ?_
  refine lv_iload_n hx hb dX11_edition_6 rfl (lv_at hl 1 rfl) ?_
  obtain ⟨u_2, qu_2, h⟩ := zbn_some h
  refine zciR (zrunS E hZ v_X11_noEdition kw_1813 (c_X11_noEdition l g M_1  x1 qu_2 _) rfl hl.1 rfl (Nat.le_of_ble_eq_true rfl) ⟨by decide, by decide⟩ ⟨by decide, by decide⟩ dX11_edition_7) hZ (fun H locs hZ => ?_)
  refine lv_iconst (v := 1) hx hb dX11_edition_10 (by decide) ?_
  obtain ⟨u_3, qu_3, h⟩ := zbn_some h
  refine zciS (zrunV E hZ (by decide) (re_0 _) rfl rfl v_X11_throwsIf kw_1651 (c_X11_throwsIf l g M_1  u_2 1 qu_3 _) rfl hl.1 rfl (Nat.le_of_ble_eq_true rfl) ⟨by decide, by decide⟩ ⟨by decide, by decide⟩ dX11_edition_11) hZ (fun H locs hZ => ?_)
  refine zif_eq (tgt := 19) h E dX11_edition_14 (by decide) (fun c_7 h => ?_) (fun c_7 h => ?_)
  · refine lv_aload_n hx hb dX11_edition_19 rfl (lv_at hl 0 rfl) ?_
    obtain ⟨u_4, qu_4, h⟩ := zbn_some h
    refine zcvS (zrunV E hZ (by decide) (re_0 _) rfl rfl v_X11_remembers kw_1801 (c_X11_remembers l g u_3.2   qu_4 _) rfl hl.1 rfl (Nat.le_of_ble_eq_true rfl) ⟨by decide, by decide⟩ ⟨by decide, by decide⟩ dX11_edition_20) hZ (fun H locs hZ => ?_)
    refine lv_aload_n hx hb dX11_edition_23 rfl (lv_at hl 0 rfl) ?_
    refine zg (v := .ref (g.2.2 1)) E hZ (by decide) (re_0 _) kc_X11 1 (by decide) kw_1369 rfl rfl dX11_edition_24 ?_
    refine lv_bipush (v := 10) hx hb dX11_edition_27 (by decide) ?_
    refine zia h E hZ (by decide) re_1 dX11_edition_29 (fun h => ?_)
    refine zni h (fun x2_5 ex2_5 h => ?_)
    refine lv_istore_n (lv' := [(2, .int x2_5), (0, .ref (g.2.2 0)), (1, .int x1)]) hx hb dX11_edition_30 rfl hl (by decide) rfl (fun ls hl => ?_)
    refine lv_aload_n hx hb dX11_edition_31 rfl (lv_at hl 1 rfl) ?_
    refine zg (v := .ref (g.2.2 1)) E hZ (by decide) (re_0 _) kc_X11 1 (by decide) kw_1369 rfl rfl dX11_edition_32 ?_
    refine lv_bipush (v := 10) hx hb dX11_edition_35 (by decide) ?_
    refine lv_iload_n hx hb dX11_edition_37 rfl (lv_at hl 2 rfl) ?_
    refine zis h E hZ (by decide) re_1 dX11_edition_38 (fun M_6 H locs eM_6 h hZ => ?_)
    refine lv_iload_n hx hb dX11_edition_39 rfl (lv_at hl 0 rfl) ?_
    exact hret _ _ _ _ _ _ (Option.some.inj h).symm rfl hZ dX11_edition_40
  · refine lv_iconst (v := 0) hx hb dX11_edition_17 (by decide) ?_
    exact hret _ _ _ _ _ _ (Option.some.inj h).symm rfl hZ dX11_edition_18
theorem c_X11_edition (l : Launch) (g : zG) (M : zM)  (x1 : Int32) {r : Int32 × zM} (h : f_X11_edition M x1 = some r) : zMi l g rE 15 yX11_edition (zWs yX11_edition cX11_edition 3 (some .int)) 4 [.ref (g.2.2 0), .int x1] M (fun v M1 => r = (v, M1)) :=
  zMi_of (by decide +kernel) (Nat.le_of_ble_eq_true rfl) (fun p e s m args below meth c Q ls E hret hZ hl => w_X11_edition g  E hret M x1 _ _ ls h hZ hl)
theorem v_X11_edition : zYV yX11_edition cX11_edition 3 (some .int) 1 := ⟨kw_1819, kw_15, kw_1817, kw_1818, by decide +kernel⟩

def b_X11_wind_21  (M : zM) (x1 : Int32) (t0 : Int32) : Option (Int32 × zM) :=
  zbn (f_X11_throwsIf M t0 1) (fun u_1 => if u_1.1 = 0 then (zbn (f_X11_remembers u_1.2 ) (fun u_2 => zck (zin 9 2030) (znm (u_2 1 (9 : Int32).toNatClampNeg) (fun x2_3 => zck (zin 9 2030) (znm (zu u_2 1 (9 : Int32).toNatClampNeg x1) (fun M_4 => some (x2_3, M_4))))))) else (some (0, u_1.2)))
set_option maxRecDepth 100000 in
set_option maxHeartbeats 4000000 in
theorem lb_X11_wind_21 (g : zG)  {r : Int32 × zM} (E : zX g p m c cX11_wind 3 s args (zWs yX11_wind cX11_wind 3 (some .int)) RX11) (hret : zRi g rE 15 p l e (zrm 3 0 0) s m args below meth c 0 0 Q cX11_wind .int (fun v M1 => r = (v, M1))) (M : zM) (x1 : Int32) (t0 : Int32)  (H : Heap) (locs : List Loc) (ls : Array Slot) (h : b_X11_wind_21  M x1 t0 = some r) (hZ : zS g rE 15 s H locs M) (hl : lv_has ls 3 [(0, .ref (g.2.2 0)), (1, .int x1)]) : W p l e (zrm 3 0 0) s m args below meth c H locs 0 0 Q (F0 m 21 ls [.int t0, .ref (g.2.2 0)]) := by
  have hx := E.1.1
  have hb := E.1.2.1
  unfold b_X11_wind_21 at h
  refine lv_iconst (v := 1) hx hb dX11_wind_21 (by decide) ?_
  obtain ⟨u_1, qu_1, h⟩ := zbn_some h
  refine zciS (zrunV E hZ (by decide) (re_0 _) rfl rfl v_X11_throwsIf kw_1651 (c_X11_throwsIf l g M  t0 1 qu_1 _) rfl hl.1 rfl (Nat.le_of_ble_eq_true rfl) ⟨by decide, by decide⟩ ⟨by decide, by decide⟩ dX11_wind_22) hZ (fun H locs hZ => ?_)
  refine zif_eq (tgt := 30) h E dX11_wind_25 (by decide) (fun c_5 h => ?_) (fun c_5 h => ?_)
  · refine lv_aload_n hx hb dX11_wind_30 rfl (lv_at hl 0 rfl) ?_
    obtain ⟨u_2, qu_2, h⟩ := zbn_some h
    refine zcvS (zrunV E hZ (by decide) (re_0 _) rfl rfl v_X11_remembers kw_1801 (c_X11_remembers l g u_1.2   qu_2 _) rfl hl.1 rfl (Nat.le_of_ble_eq_true rfl) ⟨by decide, by decide⟩ ⟨by decide, by decide⟩ dX11_wind_31) hZ (fun H locs hZ => ?_)
    refine lv_aload_n hx hb dX11_wind_34 rfl (lv_at hl 0 rfl) ?_
    refine zg (v := .ref (g.2.2 1)) E hZ (by decide) (re_0 _) kc_X11 1 (by decide) kw_1369 rfl rfl dX11_wind_35 ?_
    refine lv_bipush (v := 9) hx hb dX11_wind_38 (by decide) ?_
    refine zia h E hZ (by decide) re_1 dX11_wind_40 (fun h => ?_)
    refine zni h (fun x2_3 ex2_3 h => ?_)
    refine lv_istore_n (lv' := [(2, .int x2_3), (0, .ref (g.2.2 0)), (1, .int x1)]) hx hb dX11_wind_41 rfl hl (by decide) rfl (fun ls hl => ?_)
    refine lv_aload_n hx hb dX11_wind_42 rfl (lv_at hl 1 rfl) ?_
    refine zg (v := .ref (g.2.2 1)) E hZ (by decide) (re_0 _) kc_X11 1 (by decide) kw_1369 rfl rfl dX11_wind_43 ?_
    refine lv_bipush (v := 9) hx hb dX11_wind_46 (by decide) ?_
    refine lv_iload_n hx hb dX11_wind_48 rfl (lv_at hl 2 rfl) ?_
    refine zis h E hZ (by decide) re_1 dX11_wind_49 (fun M_4 H locs eM_4 h hZ => ?_)
    refine lv_iload_n hx hb dX11_wind_50 rfl (lv_at hl 0 rfl) ?_
    exact hret _ _ _ _ _ _ (Option.some.inj h).symm rfl hZ dX11_wind_51
  · refine lv_iconst (v := 0) hx hb dX11_wind_28 (by decide) ?_
    exact hret _ _ _ _ _ _ (Option.some.inj h).symm rfl hZ dX11_wind_29
def f_X11_wind (M : zM) (x1 : Int32) : Option (Int32 × zM) :=
  znm (zu M 0 0 0) (fun M_6 => zbn (f_X11_in M_6 x1 ((-5)) 5) (fun u_7 => if u_7 = 0 then (b_X11_wind_21  M_6 x1 1) else (b_X11_wind_21  M_6 x1 0)))
set_option maxRecDepth 100000 in
set_option maxHeartbeats 4000000 in
theorem w_X11_wind (g : zG)  {r : Int32 × zM} (E : zX g p m c cX11_wind 3 s args (zWs yX11_wind cX11_wind 3 (some .int)) RX11) (hret : zRi g rE 15 p l e (zrm 3 0 0) s m args below meth c 0 0 Q cX11_wind .int (fun v M1 => r = (v, M1))) (M : zM) (x1 : Int32) (H : Heap) (locs : List Loc) (ls : Array Slot) (h : f_X11_wind M x1 = some r) (hZ : zS g rE 15 s H locs M) (hl : lv_has ls 3 [(0, .ref (g.2.2 0)), (1, .int x1)]) : W p l e (zrm 3 0 0) s m args below meth c H locs 0 0 Q (F0 m 0 ls []) := by
  have hx := E.1.1
  have hb := E.1.2.1
  unfold f_X11_wind at h
  refine lv_aload_n hx hb dX11_wind_0 rfl (lv_at hl 0 rfl) ?_
  refine lv_iconst (v := 0) hx hb dX11_wind_1 (by decide) ?_
  refine zp h E hZ (by decide) (re_0 _) ((re_0 _).trans (congrArg (fun z => Sum.inr (10, z)) (fs_X11_0 g _ _ _))) kc_X11 (by decide) kw_1368 rfl rfl rfl (Nat.le_of_ble_eq_true rfl) dX11_wind_2 (fun M_6 H locs eM_6 h hZ => ?_)
  refine lv_aload_n hx hb dX11_wind_5 rfl (lv_at hl 0 rfl) ?_
  refine lv_iload_n hx hb dX11_wind_6 rfl (lv_at hl 1 rfl) ?_
  refine lv_bipush (v := (-5)) hx hb dX11_wind_7 (by decide) ?_
  refine lv_iconst (v := 5) hx hb dX11_wind_9 (by decide) ?_
  obtain ⟨u_7, qu_7, h⟩ := zbn_some h
  refine zciR (zrunS E hZ v_X11_in kw_1666 (c_X11_in l g M_6  x1 ((-5)) 5 qu_7 _) rfl hl.1 rfl (Nat.le_of_ble_eq_true rfl) ⟨by decide, by decide⟩ ⟨by decide, by decide⟩ dX11_wind_10) hZ (fun H locs hZ => ?_)
  refine zif_ne (tgt := 20) h E dX11_wind_13 (by decide) (fun c_8 h => ?_) (fun c_8 h => ?_)
  · refine lv_iconst (v := 0) hx hb dX11_wind_20 (by decide) ?_
    exact lb_X11_wind_21 g  E hret M_6 x1 0  H locs ls h hZ (lv_sub hl [0, 1] rfl)
  · refine lv_iconst (v := 1) hx hb dX11_wind_16 (by decide) ?_
    refine lv_goto (tgt := 21) hx hb dX11_wind_17 (by decide) ?_
    exact lb_X11_wind_21 g  E hret M_6 x1 1  H locs ls h hZ (lv_sub hl [0, 1] rfl)
theorem c_X11_wind (l : Launch) (g : zG) (M : zM)  (x1 : Int32) {r : Int32 × zM} (h : f_X11_wind M x1 = some r) : zMi l g rE 15 yX11_wind (zWs yX11_wind cX11_wind 3 (some .int)) 3 [.ref (g.2.2 0), .int x1] M (fun v M1 => r = (v, M1)) :=
  zMi_of (by decide +kernel) (Nat.le_of_ble_eq_true rfl) (fun p e s m args below meth c Q ls E hret hZ hl => w_X11_wind g  E hret M x1 _ _ ls h hZ hl)
theorem v_X11_wind : zYV yX11_wind cX11_wind 3 (some .int) 1 := ⟨kw_1823, kw_15, kw_1821, kw_1822, by decide +kernel⟩

def f_X11_anew (M : zM) (x1 : Int32) : Option (Int32 × zM) :=
  znm (zu M 0 0 0) (fun M_1 => zbn (f_X11_noDuty M_1 x1) (fun u_2 => zbn (f_X11_throwsIf M_1 u_2 1) (fun u_3 => if u_3.1 = 0 then (zbn (f_X11_remembers u_3.2 ) (fun u_4 => zbn (f_X11_isKept u_4 x1) (fun u_5 => zbn (f_X11_dutyAt u_4 x1 3) (fun u_6 => zck (zin u_6 2030) (znm (zu u_4 1 (u_6 : Int32).toNatClampNeg 0) (fun M_7 => zck (zbl u_5) (some (u_5, M_7)))))))) else (some (0, u_3.2)))))
set_option maxRecDepth 100000 in
set_option maxHeartbeats 4000000 in
theorem w_X11_anew (g : zG)  {r : Int32 × zM} (E : zX g p m c cX11_anew 3 s args (zWs yX11_anew cX11_anew 3 (some .boolean)) RX11) (hret : zRi g rE 15 p l e (zrm 5 0 0) s m args below meth c 0 0 Q cX11_anew .boolean (fun v M1 => r = (v, M1))) (M : zM) (x1 : Int32) (H : Heap) (locs : List Loc) (ls : Array Slot) (h : f_X11_anew M x1 = some r) (hZ : zS g rE 15 s H locs M) (hl : lv_has ls 3 [(0, .ref (g.2.2 0)), (1, .int x1)]) : W p l e (zrm 5 0 0) s m args below meth c H locs 0 0 Q (F0 m 0 ls []) := by
  have hx := E.1.1
  have hb := E.1.2.1
  unfold f_X11_anew at h
  refine lv_aload_n hx hb dX11_anew_0 rfl (lv_at hl 0 rfl) ?_
  refine lv_iconst (v := 0) hx hb dX11_anew_1 (by decide) ?_
  refine zp h E hZ (by decide) (re_0 _) ((re_0 _).trans (congrArg (fun z => Sum.inr (10, z)) (fs_X11_0 g _ _ _))) kc_X11 (by decide) kw_1368 rfl rfl rfl (Nat.le_of_ble_eq_true rfl) dX11_anew_2 (fun M_1 H locs eM_1 h hZ => ?_)
  refine lv_aload_n hx hb dX11_anew_5 rfl (lv_at hl 0 rfl) ?_
  refine lv_aload_n hx hb dX11_anew_6 rfl (lv_at hl 0 rfl) ?_
  refine lv_iload_n hx hb dX11_anew_7 rfl (lv_at hl 1 rfl) ?_
  obtain ⟨u_2, qu_2, h⟩ := zbn_some h
  refine zciR (zrunV E hZ (by decide) (re_0 _) rfl rfl v_X11_noDuty kw_1785 (c_X11_noDuty l g M_1  x1 qu_2 _) rfl hl.1 rfl (Nat.le_of_ble_eq_true rfl) ⟨by decide, by decide⟩ ⟨by decide, by decide⟩ dX11_anew_8) hZ (fun H locs hZ => ?_)
  refine lv_iconst (v := 1) hx hb dX11_anew_11 (by decide) ?_
  obtain ⟨u_3, qu_3, h⟩ := zbn_some h
  refine zciS (zrunV E hZ (by decide) (re_0 _) rfl rfl v_X11_throwsIf kw_1651 (c_X11_throwsIf l g M_1  u_2 1 qu_3 _) rfl hl.1 rfl (Nat.le_of_ble_eq_true rfl) ⟨by decide, by decide⟩ ⟨by decide, by decide⟩ dX11_anew_12) hZ (fun H locs hZ => ?_)
  refine zif_eq (tgt := 20) h E dX11_anew_15 (by decide) (fun c_8 h => ?_) (fun c_8 h => ?_)
  · refine lv_aload_n hx hb dX11_anew_20 rfl (lv_at hl 0 rfl) ?_
    obtain ⟨u_4, qu_4, h⟩ := zbn_some h
    refine zcvS (zrunV E hZ (by decide) (re_0 _) rfl rfl v_X11_remembers kw_1801 (c_X11_remembers l g u_3.2   qu_4 _) rfl hl.1 rfl (Nat.le_of_ble_eq_true rfl) ⟨by decide, by decide⟩ ⟨by decide, by decide⟩ dX11_anew_21) hZ (fun H locs hZ => ?_)
    refine lv_aload_n hx hb dX11_anew_24 rfl (lv_at hl 0 rfl) ?_
    refine lv_iload_n hx hb dX11_anew_25 rfl (lv_at hl 1 rfl) ?_
    obtain ⟨u_5, qu_5, h⟩ := zbn_some h
    refine zciR (zrunV E hZ (by decide) (re_0 _) rfl rfl v_X11_isKept kw_1828 (c_X11_isKept l g u_4  x1 qu_5 _) rfl hl.1 rfl (Nat.le_of_ble_eq_true rfl) ⟨by decide, by decide⟩ ⟨by decide, by decide⟩ dX11_anew_26) hZ (fun H locs hZ => ?_)
    refine lv_istore_n (lv' := [(2, .int u_5), (0, .ref (g.2.2 0)), (1, .int x1)]) hx hb dX11_anew_29 rfl hl (by decide) rfl (fun ls hl => ?_)
    refine lv_aload_n hx hb dX11_anew_30 rfl (lv_at hl 1 rfl) ?_
    refine zg (v := .ref (g.2.2 1)) E hZ (by decide) (re_0 _) kc_X11 1 (by decide) kw_1369 rfl rfl dX11_anew_31 ?_
    refine lv_iload_n hx hb dX11_anew_34 rfl (lv_at hl 2 rfl) ?_
    refine lv_iconst (v := 3) hx hb dX11_anew_35 (by decide) ?_
    obtain ⟨u_6, qu_6, h⟩ := zbn_some h
    refine zciR (zrunS E hZ v_X11_dutyAt kw_1585 (c_X11_dutyAt l g u_4  x1 3 qu_6 _) rfl hl.1 rfl (Nat.le_of_ble_eq_true rfl) ⟨by decide, by decide⟩ ⟨by decide, by decide⟩ dX11_anew_36) hZ (fun H locs hZ => ?_)
    refine lv_iconst (v := 0) hx hb dX11_anew_39 (by decide) ?_
    refine zis h E hZ (by decide) re_1 dX11_anew_40 (fun M_7 H locs eM_7 h hZ => ?_)
    refine lv_iload_n hx hb dX11_anew_41 rfl (lv_at hl 0 rfl) ?_
    obtain ⟨hbl, h⟩ := zck_some h
    exact hret _ _ _ _ _ _ (Option.some.inj h).symm (zbl_n hbl) hZ dX11_anew_42
  · refine lv_iconst (v := 0) hx hb dX11_anew_18 (by decide) ?_
    exact hret _ _ _ _ _ _ (Option.some.inj h).symm rfl hZ dX11_anew_19
theorem c_X11_anew (l : Launch) (g : zG) (M : zM)  (x1 : Int32) {r : Int32 × zM} (h : f_X11_anew M x1 = some r) : zMi l g rE 15 yX11_anew (zWs yX11_anew cX11_anew 3 (some .boolean)) 5 [.ref (g.2.2 0), .int x1] M (fun v M1 => r = (v, M1)) :=
  zMi_of (by decide +kernel) (Nat.le_of_ble_eq_true rfl) (fun p e s m args below meth c Q ls E hret hZ hl => w_X11_anew g  E hret M x1 _ _ ls h hZ hl)
theorem v_X11_anew : zYV yX11_anew cX11_anew 3 (some .boolean) 1 := ⟨kw_1827, kw_15, kw_1825, kw_1826, by decide +kernel⟩

end
