section
variable {p : Program} {l : Launch} {e : Env} {s : State} {m : MethodId} {args : Array Value} {below : List Frame} {meth : Method} {c : Code} {Q : State → Prop}
def b_X11_isWord_60 (K24 : Int32 → Int32 → Option (Int32)) (o1 : Nat) (M : zM) (x3 : Int32) (t0 : Int32) : Option (Int32) :=
  znm (x3 + 1) (fun x3_1 => K24 t0 x3_1)
set_option maxRecDepth 100000 in
set_option maxHeartbeats 4000000 in
theorem lb_X11_isWord_60 (g : zG)  (o1 : Nat) (ho1 : o1 < 30) {r : Int32} {M0 : zM} (E : zX g p m c cX11_isWord 4 s args (zWs yX11_isWord cX11_isWord 4 (some .boolean)) RX11) (S : zSg g 15 s.heap.size s s.heap) (hret : zRi g rE 15 p l e (zrm 13 0 0) s m args below meth c 0 0 Q cX11_isWord .boolean (fun v M1 => v = r ∧ M1 = M0)) (M : zM) (x3 : Int32) (t0 : Int32) (hM : M = M0) (K24 : Int32 → Int32 → Option (Int32)) (hK24 : ∀ (x2 : Int32) (x3 : Int32) (H : Heap) (locs : List Loc) (ls : Array Slot), K24 x2 x3 = some r → zS g rE 15 s H locs M → lv_has ls 4 [(0, .ref (g.2.2 0)), (1, .ref (g.2.2 (1000 + o1))), (2, .int x2), (3, .int x3)] → W p l e (zrm 13 0 0) s m args below meth c H locs 0 0 Q (F0 m 24 ls [])) (H : Heap) (locs : List Loc) (ls : Array Slot) (h : b_X11_isWord_60 K24 o1 M x3 t0 = some r) (hZ : zS g rE 15 s H locs M) (hl : lv_has ls 4 [(0, .ref (g.2.2 0)), (1, .ref (g.2.2 (1000 + o1))), (3, .int x3)]) : W p l e (zrm 13 0 0) s m args below meth c H locs 0 0 Q (F0 m 60 ls [.int t0]) := by
  have hx := E.1.1
  have hb := E.1.2.1
  unfold b_X11_isWord_60 at h
  refine lv_istore_n (lv' := [(2, .int t0), (0, .ref (g.2.2 0)), (1, .ref (g.2.2 (1000 + o1))), (3, .int x3)]) hx hb dX11_isWord_60 rfl hl (by decide) rfl (fun ls hl => ?_)
  obtain ⟨x3_1, ex3_1, h⟩ := znm_ex h
  refine lv_iinc (v := x3_1) (lv' := [(3, .int x3_1), (2, .int t0), (0, .ref (g.2.2 0)), (1, .ref (g.2.2 (1000 + o1)))]) hx hb dX11_isWord_61 hl (k := 3) rfl (by rw [ex3_1]; rfl) (by decide) rfl (fun ls hl => ?_)
  refine lv_goto (tgt := 24) hx hb dX11_isWord_64 (by decide) ?_
  exact hK24 t0 x3_1 H locs ls h hZ (lv_sub hl [2, 3, 1, 0] rfl)
def b_X11_isWord_24  (o1 : Nat) (M : zM) : Nat → Int32 → Int32 → Option (Int32)
  | 0, _, _ => none
  | n + 1, x2, x3 =>
    if x2 = 0 then (zck (zbl x2) (some x2)) else (if (nI (zLen.getD o1 0)) ≤ x3 then (zck (zbl x2) (some x2)) else (zck (zin ((M 0 12) + x3) 400) (zck (zin x3 (zLen.getD o1 0)) (if (M 6 ((M 0 12) + x3 : Int32).toNatClampNeg) = ((zByt.getD o1 []).getD (x3 : Int32).toNatClampNeg 0) then (b_X11_isWord_60 (fun x2 x3 => b_X11_isWord_24  o1 M n x2 x3) o1 M x3 1) else (b_X11_isWord_60 (fun x2 x3 => b_X11_isWord_24  o1 M n x2 x3) o1 M x3 0)))))
set_option maxRecDepth 100000 in
set_option maxHeartbeats 4000000 in
theorem lb_X11_isWord_24 (g : zG)  (o1 : Nat) (ho1 : o1 < 30) {r : Int32} {M0 : zM} (E : zX g p m c cX11_isWord 4 s args (zWs yX11_isWord cX11_isWord 4 (some .boolean)) RX11) (S : zSg g 15 s.heap.size s s.heap) (hret : zRi g rE 15 p l e (zrm 13 0 0) s m args below meth c 0 0 Q cX11_isWord .boolean (fun v M1 => v = r ∧ M1 = M0)) (M : zM) (hM : M = M0)  : ∀ (n : Nat) (x2 : Int32) (x3 : Int32) (H : Heap) (locs : List Loc) (ls : Array Slot), b_X11_isWord_24  o1 M n x2 x3 = some r → zS g rE 15 s H locs M → lv_has ls 4 [(0, .ref (g.2.2 0)), (1, .ref (g.2.2 (1000 + o1))), (2, .int x2), (3, .int x3)] → W p l e (zrm 13 0 0) s m args below meth c H locs 0 0 Q (F0 m 24 ls []) := by
  have hx := E.1.1
  have hb := E.1.2.1
  intro n
  induction n with
  | zero => intro x2 x3 H locs ls h hZ hl; cases h
  | succ n ih =>
    intro x2 x3 H locs ls h hZ hl
    rw [b_X11_isWord_24] at h
    refine lv_iload_n hx hb dX11_isWord_24 rfl (lv_at hl 2 rfl) ?_
    refine zif_eq (tgt := 67) h E dX11_isWord_25 (by decide) (fun c_4 h => ?_) (fun c_4 h => ?_)
    · refine lv_iload_n hx hb dX11_isWord_67 rfl (lv_at hl 2 rfl) ?_
      obtain ⟨hbl, h⟩ := zck_some h
      exact hret _ _ _ _ _ _ ⟨Option.some.inj h, hM⟩ (zbl_n hbl) hZ dX11_isWord_68
    · refine lv_iload_n hx hb dX11_isWord_28 rfl (lv_at hl 3 rfl) ?_
      refine lv_aload_n hx hb dX11_isWord_29 rfl (lv_at hl 1 rfl) ?_
      refine zciR (zrunVx E S hZ ho1 rfl v_J0_length_8abf5 kw_1505 (c_J0_length_8abf5 l g rE 15 M ho1 _) rfl hl.1 rfl (Nat.le_of_ble_eq_true rfl) ⟨by decide, by decide⟩ ⟨by decide, by decide⟩ dX11_isWord_30) hZ (fun H locs hZ => ?_)
      refine zic_ge (tgt := 67) h E dX11_isWord_33 (by decide) (fun c_3 h => ?_) (fun c_3 h => ?_)
      · refine lv_iload_n hx hb dX11_isWord_67 rfl (lv_at hl 2 rfl) ?_
        obtain ⟨hbl, h⟩ := zck_some h
        exact hret _ _ _ _ _ _ ⟨Option.some.inj h, hM⟩ (zbl_n hbl) hZ dX11_isWord_68
      · refine lv_aload_n hx hb dX11_isWord_36 rfl (lv_at hl 0 rfl) ?_
        refine zg (v := .ref (g.2.2 6)) E hZ (by decide) (re_0 _) kc_X11 8 (by decide) kw_1376 rfl rfl dX11_isWord_37 ?_
        refine lv_aload_n hx hb dX11_isWord_40 rfl (lv_at hl 0 rfl) ?_
        refine zg (v := .int (M 0 12)) E hZ (by decide) (re_0 _) kc_X11 12 (by decide) kw_1380 rfl rfl dX11_isWord_41 ?_
        refine lv_iload_n hx hb dX11_isWord_44 rfl (lv_at hl 3 rfl) ?_
        refine lv_iadd hx hb dX11_isWord_45 ?_
        refine zba h E hZ (by decide) re_6 dX11_isWord_46 (fun h => ?_)
        refine lv_aload_n hx hb dX11_isWord_47 rfl (lv_at hl 1 rfl) ?_
        refine lv_iload_n hx hb dX11_isWord_48 rfl (lv_at hl 3 rfl) ?_
        refine zcharAt h E S hZ ho1 kw_1513 hl.1 (Nat.le_of_ble_eq_true rfl) ⟨by decide, by decide⟩ ⟨by decide, by decide⟩ dX11_isWord_49 (fun h H locs hZ => ?_)
        refine zic_ne (tgt := 59) h E dX11_isWord_52 (by decide) (fun c_2 h => ?_) (fun c_2 h => ?_)
        · refine lv_iconst (v := 0) hx hb dX11_isWord_59 (by decide) ?_
          exact lb_X11_isWord_60 g o1 ho1 E S hret M x3 0 hM (fun x2 x3 => b_X11_isWord_24  o1 M n x2 x3) ih H locs ls h hZ (lv_sub hl [0, 1, 3] rfl)
        · refine lv_iconst (v := 1) hx hb dX11_isWord_55 (by decide) ?_
          refine lv_goto (tgt := 60) hx hb dX11_isWord_56 (by decide) ?_
          exact lb_X11_isWord_60 g o1 ho1 E S hret M x3 1 hM (fun x2 x3 => b_X11_isWord_24  o1 M n x2 x3) ih H locs ls h hZ (lv_sub hl [0, 1, 3] rfl)
def b_X11_isWord_21  (o1 : Nat) (M : zM) (t0 : Int32) : Option (Int32) :=
  b_X11_isWord_24  o1 M 6000 t0 0
set_option maxRecDepth 100000 in
set_option maxHeartbeats 4000000 in
theorem lb_X11_isWord_21 (g : zG)  (o1 : Nat) (ho1 : o1 < 30) {r : Int32} {M0 : zM} (E : zX g p m c cX11_isWord 4 s args (zWs yX11_isWord cX11_isWord 4 (some .boolean)) RX11) (S : zSg g 15 s.heap.size s s.heap) (hret : zRi g rE 15 p l e (zrm 13 0 0) s m args below meth c 0 0 Q cX11_isWord .boolean (fun v M1 => v = r ∧ M1 = M0)) (M : zM) (t0 : Int32) (hM : M = M0)  (H : Heap) (locs : List Loc) (ls : Array Slot) (h : b_X11_isWord_21  o1 M t0 = some r) (hZ : zS g rE 15 s H locs M) (hl : lv_has ls 4 [(0, .ref (g.2.2 0)), (1, .ref (g.2.2 (1000 + o1)))]) : W p l e (zrm 13 0 0) s m args below meth c H locs 0 0 Q (F0 m 21 ls [.int t0]) := by
  have hx := E.1.1
  have hb := E.1.2.1
  unfold b_X11_isWord_21 at h
  refine lv_istore_n (lv' := [(2, .int t0), (0, .ref (g.2.2 0)), (1, .ref (g.2.2 (1000 + o1)))]) hx hb dX11_isWord_21 rfl hl (by decide) rfl (fun ls hl => ?_)
  refine lv_iconst (v := 0) hx hb dX11_isWord_22 (by decide) ?_
  refine lv_istore_n (lv' := [(3, .int 0), (2, .int t0), (0, .ref (g.2.2 0)), (1, .ref (g.2.2 (1000 + o1)))]) hx hb dX11_isWord_23 rfl hl (by decide) rfl (fun ls hl => ?_)
  exact lb_X11_isWord_24 g o1 ho1 E S hret M hM  6000 t0 0 H locs ls h hZ (lv_sub hl [2, 3, 1, 0] rfl)
def f_X11_isWord (M : zM) (o1 : Nat) : Option (Int32) :=
  if ((M 0 10) - (M 0 12)) = (nI (zLen.getD o1 0)) then (b_X11_isWord_21  o1 M 1) else (b_X11_isWord_21  o1 M 0)
set_option maxRecDepth 100000 in
set_option maxHeartbeats 4000000 in
theorem w_X11_isWord (g : zG)  (o1 : Nat) (ho1 : o1 < 30) {r : Int32} {M0 : zM} (E : zX g p m c cX11_isWord 4 s args (zWs yX11_isWord cX11_isWord 4 (some .boolean)) RX11) (S : zSg g 15 s.heap.size s s.heap) (hret : zRi g rE 15 p l e (zrm 13 0 0) s m args below meth c 0 0 Q cX11_isWord .boolean (fun v M1 => v = r ∧ M1 = M0)) (M : zM) (hM : M = M0)  (H : Heap) (locs : List Loc) (ls : Array Slot) (h : f_X11_isWord M o1 = some r) (hZ : zS g rE 15 s H locs M) (hl : lv_has ls 4 [(0, .ref (g.2.2 0)), (1, .ref (g.2.2 (1000 + o1)))]) : W p l e (zrm 13 0 0) s m args below meth c H locs 0 0 Q (F0 m 0 ls []) := by
  have hx := E.1.1
  have hb := E.1.2.1
  unfold f_X11_isWord at h
  refine lv_aload_n hx hb dX11_isWord_0 rfl (lv_at hl 0 rfl) ?_
  refine zg (v := .int (M 0 10)) E hZ (by decide) (re_0 _) kc_X11 10 (by decide) kw_1378 rfl rfl dX11_isWord_1 ?_
  refine lv_aload_n hx hb dX11_isWord_4 rfl (lv_at hl 0 rfl) ?_
  refine zg (v := .int (M 0 12)) E hZ (by decide) (re_0 _) kc_X11 12 (by decide) kw_1380 rfl rfl dX11_isWord_5 ?_
  refine lv_isub hx hb dX11_isWord_8 ?_
  refine lv_aload_n hx hb dX11_isWord_9 rfl (lv_at hl 1 rfl) ?_
  refine zciR (zrunVx E S hZ ho1 rfl v_J0_length_8abf5 kw_1505 (c_J0_length_8abf5 l g rE 15 M ho1 _) rfl hl.1 rfl (Nat.le_of_ble_eq_true rfl) ⟨by decide, by decide⟩ ⟨by decide, by decide⟩ dX11_isWord_10) hZ (fun H locs hZ => ?_)
  refine zic_ne (tgt := 20) h E dX11_isWord_13 (by decide) (fun c_5 h => ?_) (fun c_5 h => ?_)
  · refine lv_iconst (v := 0) hx hb dX11_isWord_20 (by decide) ?_
    exact lb_X11_isWord_21 g o1 ho1 E S hret M 0 hM  H locs ls h hZ (lv_sub hl [0, 1] rfl)
  · refine lv_iconst (v := 1) hx hb dX11_isWord_16 (by decide) ?_
    refine lv_goto (tgt := 21) hx hb dX11_isWord_17 (by decide) ?_
    exact lb_X11_isWord_21 g o1 ho1 E S hret M 1 hM  H locs ls h hZ (lv_sub hl [0, 1] rfl)
theorem c_X11_isWord (l : Launch) (g : zG) (M : zM) (o1 : Nat) (ho1 : o1 < 30)  {r : Int32} (h : f_X11_isWord M o1 = some r) : zMis l g rE 15 yX11_isWord (zWs yX11_isWord cX11_isWord 4 (some .boolean)) 13 [.ref (g.2.2 0), .ref (g.2.2 (1000 + o1))] M (fun v M1 => v = r ∧ M1 = M) :=
  zMis_of (by decide +kernel) (Nat.le_of_ble_eq_true rfl) (fun p e s m args below meth c Q ls E S hret hZ hl => w_X11_isWord g o1 ho1 E S hret M rfl  _ _ ls h hZ hl)
theorem v_X11_isWord : zYV yX11_isWord cX11_isWord 4 (some .boolean) 1 := ⟨kw_1504, kw_15, kw_1503, kp_47, by decide +kernel⟩

def f_X11_passes (M : zM) (o1 : Nat) : Option (Int32 × zM) :=
  zbn (f_X11_letters M ) (fun u_1 => zbn (f_X11_isWord u_1 o1) (fun u_2 => if u_2 = 0 then (znm (zu u_1 0 10 (u_1 0 12)) (fun M_3 => some (0, M_3))) else (some (1, u_1))))
set_option maxRecDepth 100000 in
set_option maxHeartbeats 4000000 in
theorem w_X11_passes (g : zG)  (o1 : Nat) (ho1 : o1 < 30) {r : Int32 × zM} (E : zX g p m c cX11_passes 2 s args (zWs yX11_passes cX11_passes 2 (some .boolean)) RX11) (S : zSg g 15 s.heap.size s s.heap) (hret : zRi g rE 15 p l e (zrm 14 0 0) s m args below meth c 0 0 Q cX11_passes .boolean (fun v M1 => r = (v, M1))) (M : zM)  (H : Heap) (locs : List Loc) (ls : Array Slot) (h : f_X11_passes M o1 = some r) (hZ : zS g rE 15 s H locs M) (hl : lv_has ls 2 [(0, .ref (g.2.2 0)), (1, .ref (g.2.2 (1000 + o1)))]) : W p l e (zrm 14 0 0) s m args below meth c H locs 0 0 Q (F0 m 0 ls []) := by
  have hx := E.1.1
  have hb := E.1.2.1
  unfold f_X11_passes at h
  refine lv_aload_n hx hb dX11_passes_0 rfl (lv_at hl 0 rfl) ?_
  obtain ⟨u_1, qu_1, h⟩ := zbn_some h
  refine zcvS (zrunV E hZ (by decide) (re_0 _) rfl rfl v_X11_letters kw_1492 (c_X11_letters l g M   qu_1 _) rfl hl.1 rfl (Nat.le_of_ble_eq_true rfl) ⟨by decide, by decide⟩ ⟨by decide, by decide⟩ dX11_passes_1) hZ (fun H locs hZ => ?_)
  refine lv_aload_n hx hb dX11_passes_4 rfl (lv_at hl 0 rfl) ?_
  refine lv_aload_n hx hb dX11_passes_5 rfl (lv_at hl 1 rfl) ?_
  obtain ⟨u_2, qu_2, h⟩ := zbn_some h
  refine zciR (zrunVs E S hZ (by decide) (re_0 _) rfl rfl v_X11_isWord kw_1501 (c_X11_isWord l g u_1 o1 ho1  qu_2 _) rfl hl.1 rfl (Nat.le_of_ble_eq_true rfl) ⟨by decide, by decide⟩ ⟨by decide, by decide⟩ dX11_passes_6) hZ (fun H locs hZ => ?_)
  refine zif_eq (tgt := 14) h E dX11_passes_9 (by decide) (fun c_4 h => ?_) (fun c_4 h => ?_)
  · refine lv_aload_n hx hb dX11_passes_14 rfl (lv_at hl 0 rfl) ?_
    refine lv_aload_n hx hb dX11_passes_15 rfl (lv_at hl 0 rfl) ?_
    refine zg (v := .int (u_1 0 12)) E hZ (by decide) (re_0 _) kc_X11 12 (by decide) kw_1380 rfl rfl dX11_passes_16 ?_
    refine zp h E hZ (by decide) (re_0 _) ((re_0 _).trans (congrArg (fun z => Sum.inr (10, z)) (fs_X11_10 g _ _ _))) kc_X11 (by decide) kw_1378 rfl rfl rfl (Nat.le_of_ble_eq_true rfl) dX11_passes_19 (fun M_3 H locs eM_3 h hZ => ?_)
    refine lv_iconst (v := 0) hx hb dX11_passes_22 (by decide) ?_
    exact hret _ _ _ _ _ _ (Option.some.inj h).symm rfl hZ dX11_passes_23
  · refine lv_iconst (v := 1) hx hb dX11_passes_12 (by decide) ?_
    exact hret _ _ _ _ _ _ (Option.some.inj h).symm rfl hZ dX11_passes_13
theorem c_X11_passes (l : Launch) (g : zG) (M : zM) (o1 : Nat) (ho1 : o1 < 30)  {r : Int32 × zM} (h : f_X11_passes M o1 = some r) : zMis l g rE 15 yX11_passes (zWs yX11_passes cX11_passes 2 (some .boolean)) 14 [.ref (g.2.2 0), .ref (g.2.2 (1000 + o1))] M (fun v M1 => r = (v, M1)) :=
  zMis_of (by decide +kernel) (Nat.le_of_ble_eq_true rfl) (fun p e s m args below meth c Q ls E S hret hZ hl => w_X11_passes g o1 ho1 E S hret M  _ _ ls h hZ hl)
theorem v_X11_passes : zYV yX11_passes cX11_passes 2 (some .boolean) 1 := ⟨kw_1571, kw_15, kw_1570, kp_55, by decide +kernel⟩

def f_X11_after (M : zM) (o1 : Nat) (x2 : Int32) (x3 : Int32) : Option (Int32 × zM) :=
  zbn (f_X11_letters M ) (fun u_1 => zbn (f_X11_isWord u_1 o1) (fun u_2 => if u_2 = 0 then (some ((-1), u_1)) else (zbn (f_X11_number u_1 x2 x3) (fun u_3 => some (u_3.1, u_3.2)))))
set_option maxRecDepth 100000 in
set_option maxHeartbeats 4000000 in
theorem w_X11_after (g : zG)  (o1 : Nat) (ho1 : o1 < 30) {r : Int32 × zM} (E : zX g p m c cX11_after 4 s args (zWs yX11_after cX11_after 4 (some .int)) RX11) (S : zSg g 15 s.heap.size s s.heap) (hret : zRi g rE 15 p l e (zrm 14 0 0) s m args below meth c 0 0 Q cX11_after .int (fun v M1 => r = (v, M1))) (M : zM) (x2 : Int32) (x3 : Int32) (H : Heap) (locs : List Loc) (ls : Array Slot) (h : f_X11_after M o1 x2 x3 = some r) (hZ : zS g rE 15 s H locs M) (hl : lv_has ls 4 [(0, .ref (g.2.2 0)), (1, .ref (g.2.2 (1000 + o1))), (2, .int x2), (3, .int x3)]) : W p l e (zrm 14 0 0) s m args below meth c H locs 0 0 Q (F0 m 0 ls []) := by
  have hx := E.1.1
  have hb := E.1.2.1
  unfold f_X11_after at h
  refine lv_aload_n hx hb dX11_after_0 rfl (lv_at hl 0 rfl) ?_
  obtain ⟨u_1, qu_1, h⟩ := zbn_some h
  refine zcvS (zrunV E hZ (by decide) (re_0 _) rfl rfl v_X11_letters kw_1492 (c_X11_letters l g M   qu_1 _) rfl hl.1 rfl (Nat.le_of_ble_eq_true rfl) ⟨by decide, by decide⟩ ⟨by decide, by decide⟩ dX11_after_1) hZ (fun H locs hZ => ?_)
  refine lv_aload_n hx hb dX11_after_4 rfl (lv_at hl 0 rfl) ?_
  refine lv_aload_n hx hb dX11_after_5 rfl (lv_at hl 1 rfl) ?_
  obtain ⟨u_2, qu_2, h⟩ := zbn_some h
  refine zciR (zrunVs E S hZ (by decide) (re_0 _) rfl rfl v_X11_isWord kw_1501 (c_X11_isWord l g u_1 o1 ho1  qu_2 _) rfl hl.1 rfl (Nat.le_of_ble_eq_true rfl) ⟨by decide, by decide⟩ ⟨by decide, by decide⟩ dX11_after_6) hZ (fun H locs hZ => ?_)
  refine zif_eq (tgt := 21) h E dX11_after_9 (by decide) (fun c_4 h => ?_) (fun c_4 h => ?_)
  · refine lv_iconst (v := (-1)) hx hb dX11_after_21 (by decide) ?_
    exact hret _ _ _ _ _ _ (Option.some.inj h).symm rfl hZ dX11_after_22
  · refine lv_aload_n hx hb dX11_after_12 rfl (lv_at hl 0 rfl) ?_
    refine lv_iload_n hx hb dX11_after_13 rfl (lv_at hl 2 rfl) ?_
    refine lv_iload_n hx hb dX11_after_14 rfl (lv_at hl 3 rfl) ?_
    obtain ⟨u_3, qu_3, h⟩ := zbn_some h
    refine zciS (zrunV E hZ (by decide) (re_0 _) rfl rfl v_X11_number kw_1537 (c_X11_number l g u_1  x2 x3 qu_3 _) rfl hl.1 rfl (Nat.le_of_ble_eq_true rfl) ⟨by decide, by decide⟩ ⟨by decide, by decide⟩ dX11_after_15) hZ (fun H locs hZ => ?_)
    refine lv_goto (tgt := 22) hx hb dX11_after_18 (by decide) ?_
    exact hret _ _ _ _ _ _ (Option.some.inj h).symm rfl hZ dX11_after_22
theorem c_X11_after (l : Launch) (g : zG) (M : zM) (o1 : Nat) (ho1 : o1 < 30) (x2 : Int32) (x3 : Int32) {r : Int32 × zM} (h : f_X11_after M o1 x2 x3 = some r) : zMis l g rE 15 yX11_after (zWs yX11_after cX11_after 4 (some .int)) 14 [.ref (g.2.2 0), .ref (g.2.2 (1000 + o1)), .int x2, .int x3] M (fun v M1 => r = (v, M1)) :=
  zMis_of (by decide +kernel) (Nat.le_of_ble_eq_true rfl) (fun p e s m args below meth c Q ls E S hret hZ hl => w_X11_after g o1 ho1 E S hret M x2 x3 _ _ ls h hZ hl)
theorem v_X11_after : zYV yX11_after cX11_after 4 (some .int) 3 := ⟨kw_1556, kw_15, kw_1555, kp_52, by decide +kernel⟩

def b_X11_readRange_25  (M : zM) (x1 : Int32) (t0 : Int32) : Option (Int32 × zM) :=
  if 0 ≤ t0 then (zck (zin 7 2030) (znm (zu M 1 (7 : Int32).toNatClampNeg x1) (fun M_1 => zck (zin 8 2030) (znm (zu M_1 1 (8 : Int32).toNatClampNeg t0) (fun M_2 => some (1, M_2)))))) else (some (0, M))
set_option maxRecDepth 100000 in
set_option maxHeartbeats 4000000 in
theorem lb_X11_readRange_25 (g : zG)  {r : Int32 × zM} (E : zX g p m c cX11_readRange 3 s args (zWs yX11_readRange cX11_readRange 3 (some .boolean)) RX11) (S : zSg g 15 s.heap.size s s.heap) (hret : zRi g rE 15 p l e (zrm 15 0 0) s m args below meth c 0 0 Q cX11_readRange .boolean (fun v M1 => r = (v, M1))) (M : zM) (x1 : Int32) (t0 : Int32)  (H : Heap) (locs : List Loc) (ls : Array Slot) (h : b_X11_readRange_25  M x1 t0 = some r) (hZ : zS g rE 15 s H locs M) (hl : lv_has ls 3 [(0, .ref (g.2.2 0)), (1, .int x1)]) : W p l e (zrm 15 0 0) s m args below meth c H locs 0 0 Q (F0 m 25 ls [.int t0]) := by
  have hx := E.1.1
  have hb := E.1.2.1
  unfold b_X11_readRange_25 at h
  refine lv_istore_n (lv' := [(2, .int t0), (0, .ref (g.2.2 0)), (1, .int x1)]) hx hb dX11_readRange_25 rfl hl (by decide) rfl (fun ls hl => ?_)
  refine lv_iload_n hx hb dX11_readRange_26 rfl (lv_at hl 0 rfl) ?_
  refine zif_ge (tgt := 32) h E dX11_readRange_27 (by decide) (fun c_3 h => ?_) (fun c_3 h => ?_)
  · refine lv_aload_n hx hb dX11_readRange_32 rfl (lv_at hl 1 rfl) ?_
    refine zg (v := .ref (g.2.2 1)) E hZ (by decide) (re_0 _) kc_X11 1 (by decide) kw_1369 rfl rfl dX11_readRange_33 ?_
    refine lv_bipush (v := 7) hx hb dX11_readRange_36 (by decide) ?_
    refine lv_iload_n hx hb dX11_readRange_38 rfl (lv_at hl 2 rfl) ?_
    refine zis h E hZ (by decide) re_1 dX11_readRange_39 (fun M_1 H locs eM_1 h hZ => ?_)
    refine lv_aload_n hx hb dX11_readRange_40 rfl (lv_at hl 1 rfl) ?_
    refine zg (v := .ref (g.2.2 1)) E hZ (by decide) (re_0 _) kc_X11 1 (by decide) kw_1369 rfl rfl dX11_readRange_41 ?_
    refine lv_bipush (v := 8) hx hb dX11_readRange_44 (by decide) ?_
    refine lv_iload_n hx hb dX11_readRange_46 rfl (lv_at hl 0 rfl) ?_
    refine zis h E hZ (by decide) re_1 dX11_readRange_47 (fun M_2 H locs eM_2 h hZ => ?_)
    refine lv_iconst (v := 1) hx hb dX11_readRange_48 (by decide) ?_
    exact hret _ _ _ _ _ _ (Option.some.inj h).symm rfl hZ dX11_readRange_49
  · refine lv_iconst (v := 0) hx hb dX11_readRange_30 (by decide) ?_
    exact hret _ _ _ _ _ _ (Option.some.inj h).symm rfl hZ dX11_readRange_31
def f_X11_readRange (M : zM)  : Option (Int32 × zM) :=
  zbn (f_X11_number M 0 30) (fun u_4 => if 0 ≤ u_4.1 then (zbn (f_X11_after u_4.2 5 u_4.1 30) (fun u_5 => b_X11_readRange_25  u_5.2 u_4.1 u_5.1)) else (b_X11_readRange_25  u_4.2 u_4.1 ((-1))))
set_option maxRecDepth 100000 in
set_option maxHeartbeats 4000000 in
theorem w_X11_readRange (g : zG)  {r : Int32 × zM} (E : zX g p m c cX11_readRange 3 s args (zWs yX11_readRange cX11_readRange 3 (some .boolean)) RX11) (S : zSg g 15 s.heap.size s s.heap) (hret : zRi g rE 15 p l e (zrm 15 0 0) s m args below meth c 0 0 Q cX11_readRange .boolean (fun v M1 => r = (v, M1))) (M : zM)  (H : Heap) (locs : List Loc) (ls : Array Slot) (h : f_X11_readRange M  = some r) (hZ : zS g rE 15 s H locs M) (hl : lv_has ls 3 [(0, .ref (g.2.2 0))]) : W p l e (zrm 15 0 0) s m args below meth c H locs 0 0 Q (F0 m 0 ls []) := by
  have hx := E.1.1
  have hb := E.1.2.1
  unfold f_X11_readRange at h
  refine lv_aload_n hx hb dX11_readRange_0 rfl (lv_at hl 0 rfl) ?_
  refine lv_iconst (v := 0) hx hb dX11_readRange_1 (by decide) ?_
  refine lv_bipush (v := 30) hx hb dX11_readRange_2 (by decide) ?_
  obtain ⟨u_4, qu_4, h⟩ := zbn_some h
  refine zciS (zrunV E hZ (by decide) (re_0 _) rfl rfl v_X11_number kw_1537 (c_X11_number l g M  0 30 qu_4 _) rfl hl.1 rfl (Nat.le_of_ble_eq_true rfl) ⟨by decide, by decide⟩ ⟨by decide, by decide⟩ dX11_readRange_4) hZ (fun H locs hZ => ?_)
  refine lv_istore_n (lv' := [(1, .int u_4.1), (0, .ref (g.2.2 0))]) hx hb dX11_readRange_7 rfl hl (by decide) rfl (fun ls hl => ?_)
  refine lv_iload_n hx hb dX11_readRange_8 rfl (lv_at hl 0 rfl) ?_
  refine zif_ge (tgt := 16) h E dX11_readRange_9 (by decide) (fun c_6 h => ?_) (fun c_6 h => ?_)
  · refine lv_aload_n hx hb dX11_readRange_16 rfl (lv_at hl 1 rfl) ?_
    refine zlds E S zst_5 dX11_readRange_17 ?_
    refine lv_iload_n hx hb dX11_readRange_19 rfl (lv_at hl 0 rfl) ?_
    refine lv_bipush (v := 30) hx hb dX11_readRange_20 (by decide) ?_
    obtain ⟨u_5, qu_5, h⟩ := zbn_some h
    refine zciS (zrunVs E S hZ (by decide) (re_0 _) rfl rfl v_X11_after kw_1553 (c_X11_after l g u_4.2 5 (by decide) u_4.1 30 qu_5 _) rfl hl.1 rfl (Nat.le_of_ble_eq_true rfl) ⟨by decide, by decide⟩ ⟨by decide, by decide⟩ dX11_readRange_22) hZ (fun H locs hZ => ?_)
    exact lb_X11_readRange_25 g  E S hret u_5.2 u_4.1 u_5.1  H locs ls h hZ (lv_sub hl [1, 0] rfl)
  · refine lv_iconst (v := (-1)) hx hb dX11_readRange_12 (by decide) ?_
    refine lv_goto (tgt := 25) hx hb dX11_readRange_13 (by decide) ?_
    exact lb_X11_readRange_25 g  E S hret u_4.2 u_4.1 ((-1))  H locs ls h hZ (lv_sub hl [1, 0] rfl)
theorem c_X11_readRange (l : Launch) (g : zG) (M : zM)   {r : Int32 × zM} (h : f_X11_readRange M  = some r) : zMis l g rE 15 yX11_readRange (zWs yX11_readRange cX11_readRange 3 (some .boolean)) 15 [.ref (g.2.2 0)] M (fun v M1 => r = (v, M1)) :=
  zMis_of (by decide +kernel) (Nat.le_of_ble_eq_true rfl) (fun p e s m args below meth c Q ls E S hret hZ hl => w_X11_readRange g  E S hret M  _ _ ls h hZ hl)
theorem v_X11_readRange : zYV yX11_readRange cX11_readRange 3 (some .boolean) 0 := ⟨kw_1551, kw_15, kw_1550, kp_51, by decide +kernel⟩

def b_X11_readMonk_64  (M : zM) (x1 : Int32) (x2 : Int32) (x3 : Int32) (t0 : Int32) : Option (Int32 × zM) :=
  if 0 ≤ t0 then (zbn (f_X11_monkAt M x1 0) (fun u_1 => zck (zin u_1 2030) (znm (zu M 1 (u_1 : Int32).toNatClampNeg x2) (fun M_2 => zbn (f_X11_monkAt M_2 x1 1) (fun u_3 => zck (zin u_3 2030) (znm (zu M_2 1 (u_3 : Int32).toNatClampNeg t0) (fun M_4 => zbn (f_X11_monkAt M_4 x1 2) (fun u_5 => zck (zin u_5 2030) (znm (zu M_4 1 (u_5 : Int32).toNatClampNeg x3) (fun M_6 => zbn (f_X11_monkAt M_6 x1 3) (fun u_7 => zck (zin u_7 2030) (znm (zu M_6 1 (u_7 : Int32).toNatClampNeg 0) (fun M_8 => zbn (f_X11_monkAt M_8 x1 4) (fun u_9 => zck (zin u_9 2030) (znm (zu M_8 1 (u_9 : Int32).toNatClampNeg 0) (fun M_10 => zck (zin 0 2030) (zck (zin 0 2030) (znm (zu M_10 1 (0 : Int32).toNatClampNeg ((M_10 1 (0 : Int32).toNatClampNeg) + 1)) (fun M_11 => some (1, M_11)))))))))))))))))))) else (some (0, M))
set_option maxRecDepth 100000 in
set_option maxHeartbeats 4000000 in
theorem lb_X11_readMonk_64 (g : zG)  {r : Int32 × zM} (E : zX g p m c cX11_readMonk 5 s args (zWs yX11_readMonk cX11_readMonk 5 (some .boolean)) RX11) (S : zSg g 15 s.heap.size s s.heap) (hret : zRi g rE 15 p l e (zrm 15 0 0) s m args below meth c 0 0 Q cX11_readMonk .boolean (fun v M1 => r = (v, M1))) (M : zM) (x1 : Int32) (x2 : Int32) (x3 : Int32) (t0 : Int32)  (H : Heap) (locs : List Loc) (ls : Array Slot) (h : b_X11_readMonk_64  M x1 x2 x3 t0 = some r) (hZ : zS g rE 15 s H locs M) (hl : lv_has ls 5 [(0, .ref (g.2.2 0)), (1, .int x1), (2, .int x2), (3, .int x3)]) : W p l e (zrm 15 0 0) s m args below meth c H locs 0 0 Q (F0 m 64 ls [.int t0]) := by
  have hx := E.1.1
  have hb := E.1.2.1
  unfold b_X11_readMonk_64 at h
  refine lv_istore (lv' := [(4, .int t0), (0, .ref (g.2.2 0)), (1, .int x1), (2, .int x2), (3, .int x3)]) hx hb dX11_readMonk_64 hl (by decide) rfl (fun ls hl => ?_)
  refine lv_iload hx hb dX11_readMonk_66 (lv_at hl 0 rfl) ?_
  refine zif_ge (tgt := 73) h E dX11_readMonk_68 (by decide) (fun c_12 h => ?_) (fun c_12 h => ?_)
  · refine lv_aload_n hx hb dX11_readMonk_73 rfl (lv_at hl 1 rfl) ?_
    refine zg (v := .ref (g.2.2 1)) E hZ (by decide) (re_0 _) kc_X11 1 (by decide) kw_1369 rfl rfl dX11_readMonk_74 ?_
    refine lv_iload_n hx hb dX11_readMonk_77 rfl (lv_at hl 2 rfl) ?_
    refine lv_iconst (v := 0) hx hb dX11_readMonk_78 (by decide) ?_
    obtain ⟨u_1, qu_1, h⟩ := zbn_some h
    refine zciR (zrunS E hZ v_X11_monkAt kw_1572 (c_X11_monkAt l g M  x1 0 qu_1 _) rfl hl.1 rfl (Nat.le_of_ble_eq_true rfl) ⟨by decide, by decide⟩ ⟨by decide, by decide⟩ dX11_readMonk_79) hZ (fun H locs hZ => ?_)
    refine lv_iload_n hx hb dX11_readMonk_82 rfl (lv_at hl 3 rfl) ?_
    refine zis h E hZ (by decide) re_1 dX11_readMonk_83 (fun M_2 H locs eM_2 h hZ => ?_)
    refine lv_aload_n hx hb dX11_readMonk_84 rfl (lv_at hl 1 rfl) ?_
    refine zg (v := .ref (g.2.2 1)) E hZ (by decide) (re_0 _) kc_X11 1 (by decide) kw_1369 rfl rfl dX11_readMonk_85 ?_
    refine lv_iload_n hx hb dX11_readMonk_88 rfl (lv_at hl 2 rfl) ?_
    refine lv_iconst (v := 1) hx hb dX11_readMonk_89 (by decide) ?_
    obtain ⟨u_3, qu_3, h⟩ := zbn_some h
    refine zciR (zrunS E hZ v_X11_monkAt kw_1572 (c_X11_monkAt l g M_2  x1 1 qu_3 _) rfl hl.1 rfl (Nat.le_of_ble_eq_true rfl) ⟨by decide, by decide⟩ ⟨by decide, by decide⟩ dX11_readMonk_90) hZ (fun H locs hZ => ?_)
    refine lv_iload hx hb dX11_readMonk_93 (lv_at hl 0 rfl) ?_
    refine zis h E hZ (by decide) re_1 dX11_readMonk_95 (fun M_4 H locs eM_4 h hZ => ?_)
    refine lv_aload_n hx hb dX11_readMonk_96 rfl (lv_at hl 1 rfl) ?_
    refine zg (v := .ref (g.2.2 1)) E hZ (by decide) (re_0 _) kc_X11 1 (by decide) kw_1369 rfl rfl dX11_readMonk_97 ?_
    refine lv_iload_n hx hb dX11_readMonk_100 rfl (lv_at hl 2 rfl) ?_
    refine lv_iconst (v := 2) hx hb dX11_readMonk_101 (by decide) ?_
    obtain ⟨u_5, qu_5, h⟩ := zbn_some h
    refine zciR (zrunS E hZ v_X11_monkAt kw_1572 (c_X11_monkAt l g M_4  x1 2 qu_5 _) rfl hl.1 rfl (Nat.le_of_ble_eq_true rfl) ⟨by decide, by decide⟩ ⟨by decide, by decide⟩ dX11_readMonk_102) hZ (fun H locs hZ => ?_)
    refine lv_iload_n hx hb dX11_readMonk_105 rfl (lv_at hl 4 rfl) ?_
    refine zis h E hZ (by decide) re_1 dX11_readMonk_106 (fun M_6 H locs eM_6 h hZ => ?_)
    refine lv_aload_n hx hb dX11_readMonk_107 rfl (lv_at hl 1 rfl) ?_
    refine zg (v := .ref (g.2.2 1)) E hZ (by decide) (re_0 _) kc_X11 1 (by decide) kw_1369 rfl rfl dX11_readMonk_108 ?_
    refine lv_iload_n hx hb dX11_readMonk_111 rfl (lv_at hl 2 rfl) ?_
    refine lv_iconst (v := 3) hx hb dX11_readMonk_112 (by decide) ?_
    obtain ⟨u_7, qu_7, h⟩ := zbn_some h
    refine zciR (zrunS E hZ v_X11_monkAt kw_1572 (c_X11_monkAt l g M_6  x1 3 qu_7 _) rfl hl.1 rfl (Nat.le_of_ble_eq_true rfl) ⟨by decide, by decide⟩ ⟨by decide, by decide⟩ dX11_readMonk_113) hZ (fun H locs hZ => ?_)
    refine lv_iconst (v := 0) hx hb dX11_readMonk_116 (by decide) ?_
    refine zis h E hZ (by decide) re_1 dX11_readMonk_117 (fun M_8 H locs eM_8 h hZ => ?_)
    refine lv_aload_n hx hb dX11_readMonk_118 rfl (lv_at hl 1 rfl) ?_
    refine zg (v := .ref (g.2.2 1)) E hZ (by decide) (re_0 _) kc_X11 1 (by decide) kw_1369 rfl rfl dX11_readMonk_119 ?_
    refine lv_iload_n hx hb dX11_readMonk_122 rfl (lv_at hl 2 rfl) ?_
    refine lv_iconst (v := 4) hx hb dX11_readMonk_123 (by decide) ?_
    obtain ⟨u_9, qu_9, h⟩ := zbn_some h
    refine zciR (zrunS E hZ v_X11_monkAt kw_1572 (c_X11_monkAt l g M_8  x1 4 qu_9 _) rfl hl.1 rfl (Nat.le_of_ble_eq_true rfl) ⟨by decide, by decide⟩ ⟨by decide, by decide⟩ dX11_readMonk_124) hZ (fun H locs hZ => ?_)
    refine lv_iconst (v := 0) hx hb dX11_readMonk_127 (by decide) ?_
    refine zis h E hZ (by decide) re_1 dX11_readMonk_128 (fun M_10 H locs eM_10 h hZ => ?_)
    refine lv_aload_n hx hb dX11_readMonk_129 rfl (lv_at hl 1 rfl) ?_
    refine zg (v := .ref (g.2.2 1)) E hZ (by decide) (re_0 _) kc_X11 1 (by decide) kw_1369 rfl rfl dX11_readMonk_130 ?_
    refine lv_iconst (v := 0) hx hb dX11_readMonk_133 (by decide) ?_
    refine lv_dup2_11 hx hb dX11_readMonk_134 rfl rfl ?_
    refine zia h E hZ (by decide) re_1 dX11_readMonk_135 (fun h => ?_)
    refine lv_iconst (v := 1) hx hb dX11_readMonk_136 (by decide) ?_
    refine lv_iadd hx hb dX11_readMonk_137 ?_
    refine zis h E hZ (by decide) re_1 dX11_readMonk_138 (fun M_11 H locs eM_11 h hZ => ?_)
    refine lv_iconst (v := 1) hx hb dX11_readMonk_139 (by decide) ?_
    exact hret _ _ _ _ _ _ (Option.some.inj h).symm rfl hZ dX11_readMonk_140
  · refine lv_iconst (v := 0) hx hb dX11_readMonk_71 (by decide) ?_
    exact hret _ _ _ _ _ _ (Option.some.inj h).symm rfl hZ dX11_readMonk_72
def b_X11_readMonk_37  (M : zM) (x1 : Int32) (x2 : Int32) (t0 : Int32) : Option (Int32 × zM) :=
  if 0 ≤ t0 then (zbn (f_X11_passes M 8) (fun u_13 => if u_13.1 = 0 then (b_X11_readMonk_64  u_13.2 x1 x2 t0 x2) else (zbn (f_X11_number u_13.2 0 11) (fun u_14 => b_X11_readMonk_64  u_14.2 x1 x2 t0 u_14.1)))) else (some (0, M))
set_option maxRecDepth 100000 in
set_option maxHeartbeats 4000000 in
theorem lb_X11_readMonk_37 (g : zG)  {r : Int32 × zM} (E : zX g p m c cX11_readMonk 5 s args (zWs yX11_readMonk cX11_readMonk 5 (some .boolean)) RX11) (S : zSg g 15 s.heap.size s s.heap) (hret : zRi g rE 15 p l e (zrm 15 0 0) s m args below meth c 0 0 Q cX11_readMonk .boolean (fun v M1 => r = (v, M1))) (M : zM) (x1 : Int32) (x2 : Int32) (t0 : Int32)  (H : Heap) (locs : List Loc) (ls : Array Slot) (h : b_X11_readMonk_37  M x1 x2 t0 = some r) (hZ : zS g rE 15 s H locs M) (hl : lv_has ls 5 [(0, .ref (g.2.2 0)), (1, .int x1), (2, .int x2)]) : W p l e (zrm 15 0 0) s m args below meth c H locs 0 0 Q (F0 m 37 ls [.int t0]) := by
  have hx := E.1.1
  have hb := E.1.2.1
  unfold b_X11_readMonk_37 at h
  refine lv_istore_n (lv' := [(3, .int t0), (0, .ref (g.2.2 0)), (1, .int x1), (2, .int x2)]) hx hb dX11_readMonk_37 rfl hl (by decide) rfl (fun ls hl => ?_)
  refine lv_iload_n hx hb dX11_readMonk_38 rfl (lv_at hl 0 rfl) ?_
  refine zif_ge (tgt := 44) h E dX11_readMonk_39 (by decide) (fun c_16 h => ?_) (fun c_16 h => ?_)
  · refine lv_aload_n hx hb dX11_readMonk_44 rfl (lv_at hl 1 rfl) ?_
    refine zlds E S zst_8 dX11_readMonk_45 ?_
    obtain ⟨u_13, qu_13, h⟩ := zbn_some h
    refine zciS (zrunVs E S hZ (by decide) (re_0 _) rfl rfl v_X11_passes kw_1568 (c_X11_passes l g M 8 (by decide)  qu_13 _) rfl hl.1 rfl (Nat.le_of_ble_eq_true rfl) ⟨by decide, by decide⟩ ⟨by decide, by decide⟩ dX11_readMonk_47) hZ (fun H locs hZ => ?_)
    refine zif_eq (tgt := 63) h E dX11_readMonk_50 (by decide) (fun c_15 h => ?_) (fun c_15 h => ?_)
    · refine lv_iload_n hx hb dX11_readMonk_63 rfl (lv_at hl 3 rfl) ?_
      exact lb_X11_readMonk_64 g  E S hret u_13.2 x1 x2 t0 x2  H locs ls h hZ (lv_sub hl [1, 2, 3, 0] rfl)
    · refine lv_aload_n hx hb dX11_readMonk_53 rfl (lv_at hl 1 rfl) ?_
      refine lv_iconst (v := 0) hx hb dX11_readMonk_54 (by decide) ?_
      refine lv_bipush (v := 11) hx hb dX11_readMonk_55 (by decide) ?_
      obtain ⟨u_14, qu_14, h⟩ := zbn_some h
      refine zciS (zrunV E hZ (by decide) (re_0 _) rfl rfl v_X11_number kw_1537 (c_X11_number l g u_13.2  0 11 qu_14 _) rfl hl.1 rfl (Nat.le_of_ble_eq_true rfl) ⟨by decide, by decide⟩ ⟨by decide, by decide⟩ dX11_readMonk_57) hZ (fun H locs hZ => ?_)
      refine lv_goto (tgt := 64) hx hb dX11_readMonk_60 (by decide) ?_
      exact lb_X11_readMonk_64 g  E S hret u_14.2 x1 x2 t0 u_14.1  H locs ls h hZ (lv_sub hl [1, 2, 3, 0] rfl)
  · refine lv_iconst (v := 0) hx hb dX11_readMonk_42 (by decide) ?_
    exact hret _ _ _ _ _ _ (Option.some.inj h).symm rfl hZ dX11_readMonk_43
def f_X11_readMonk (M : zM)  : Option (Int32 × zM) :=
  zbn (f_X11_monks M ) (fun u_17 => if u_17 = 6 then (some (0, M)) else (zbn (f_X11_number M 0 11) (fun u_18 => if 0 ≤ u_18.1 then (zbn (f_X11_after u_18.2 7 1 4) (fun u_19 => b_X11_readMonk_37  u_19.2 u_17 u_18.1 u_19.1)) else (b_X11_readMonk_37  u_18.2 u_17 u_18.1 ((-1))))))
set_option maxRecDepth 100000 in
set_option maxHeartbeats 4000000 in
theorem w_X11_readMonk (g : zG)  {r : Int32 × zM} (E : zX g p m c cX11_readMonk 5 s args (zWs yX11_readMonk cX11_readMonk 5 (some .boolean)) RX11) (S : zSg g 15 s.heap.size s s.heap) (hret : zRi g rE 15 p l e (zrm 15 0 0) s m args below meth c 0 0 Q cX11_readMonk .boolean (fun v M1 => r = (v, M1))) (M : zM)  (H : Heap) (locs : List Loc) (ls : Array Slot) (h : f_X11_readMonk M  = some r) (hZ : zS g rE 15 s H locs M) (hl : lv_has ls 5 [(0, .ref (g.2.2 0))]) : W p l e (zrm 15 0 0) s m args below meth c H locs 0 0 Q (F0 m 0 ls []) := by
  have hx := E.1.1
  have hb := E.1.2.1
  unfold f_X11_readMonk at h
  refine lv_aload_n hx hb dX11_readMonk_0 rfl (lv_at hl 0 rfl) ?_
  obtain ⟨u_17, qu_17, h⟩ := zbn_some h
  refine zciR (zrunV E hZ (by decide) (re_0 _) rfl rfl v_X11_monks kw_1562 (c_X11_monks l g M   qu_17 _) rfl hl.1 rfl (Nat.le_of_ble_eq_true rfl) ⟨by decide, by decide⟩ ⟨by decide, by decide⟩ dX11_readMonk_1) hZ (fun H locs hZ => ?_)
  refine lv_istore_n (lv' := [(1, .int u_17), (0, .ref (g.2.2 0))]) hx hb dX11_readMonk_4 rfl hl (by decide) rfl (fun ls hl => ?_)
  refine lv_iload_n hx hb dX11_readMonk_5 rfl (lv_at hl 0 rfl) ?_
  refine lv_bipush (v := 6) hx hb dX11_readMonk_6 (by decide) ?_
  refine zic_ne (tgt := 13) h E dX11_readMonk_8 (by decide) (fun c_21 h => ?_) (fun c_21 h => ?_)
  · refine lv_aload_n hx hb dX11_readMonk_13 rfl (lv_at hl 1 rfl) ?_
    refine lv_iconst (v := 0) hx hb dX11_readMonk_14 (by decide) ?_
    refine lv_bipush (v := 11) hx hb dX11_readMonk_15 (by decide) ?_
    obtain ⟨u_18, qu_18, h⟩ := zbn_some h
    refine zciS (zrunV E hZ (by decide) (re_0 _) rfl rfl v_X11_number kw_1537 (c_X11_number l g M  0 11 qu_18 _) rfl hl.1 rfl (Nat.le_of_ble_eq_true rfl) ⟨by decide, by decide⟩ ⟨by decide, by decide⟩ dX11_readMonk_17) hZ (fun H locs hZ => ?_)
    refine lv_istore_n (lv' := [(2, .int u_18.1), (1, .int u_17), (0, .ref (g.2.2 0))]) hx hb dX11_readMonk_20 rfl hl (by decide) rfl (fun ls hl => ?_)
    refine lv_iload_n hx hb dX11_readMonk_21 rfl (lv_at hl 0 rfl) ?_
    refine zif_ge (tgt := 29) h E dX11_readMonk_22 (by decide) (fun c_20 h => ?_) (fun c_20 h => ?_)
    · refine lv_aload_n hx hb dX11_readMonk_29 rfl (lv_at hl 2 rfl) ?_
      refine zlds E S zst_7 dX11_readMonk_30 ?_
      refine lv_iconst (v := 1) hx hb dX11_readMonk_32 (by decide) ?_
      refine lv_iconst (v := 4) hx hb dX11_readMonk_33 (by decide) ?_
      obtain ⟨u_19, qu_19, h⟩ := zbn_some h
      refine zciS (zrunVs E S hZ (by decide) (re_0 _) rfl rfl v_X11_after kw_1553 (c_X11_after l g u_18.2 7 (by decide) 1 4 qu_19 _) rfl hl.1 rfl (Nat.le_of_ble_eq_true rfl) ⟨by decide, by decide⟩ ⟨by decide, by decide⟩ dX11_readMonk_34) hZ (fun H locs hZ => ?_)
      exact lb_X11_readMonk_37 g  E S hret u_19.2 u_17 u_18.1 u_19.1  H locs ls h hZ (lv_sub hl [2, 1, 0] rfl)
    · refine lv_iconst (v := (-1)) hx hb dX11_readMonk_25 (by decide) ?_
      refine lv_goto (tgt := 37) hx hb dX11_readMonk_26 (by decide) ?_
      exact lb_X11_readMonk_37 g  E S hret u_18.2 u_17 u_18.1 ((-1))  H locs ls h hZ (lv_sub hl [2, 1, 0] rfl)
  · refine lv_iconst (v := 0) hx hb dX11_readMonk_11 (by decide) ?_
    exact hret _ _ _ _ _ _ (Option.some.inj h).symm rfl hZ dX11_readMonk_12
theorem c_X11_readMonk (l : Launch) (g : zG) (M : zM)   {r : Int32 × zM} (h : f_X11_readMonk M  = some r) : zMis l g rE 15 yX11_readMonk (zWs yX11_readMonk cX11_readMonk 5 (some .boolean)) 15 [.ref (g.2.2 0)] M (fun v M1 => r = (v, M1)) :=
  zMis_of (by decide +kernel) (Nat.le_of_ble_eq_true rfl) (fun p e s m args below meth c Q ls E S hret hZ hl => w_X11_readMonk g  E S hret M  _ _ ls h hZ hl)
theorem v_X11_readMonk : zYV yX11_readMonk cX11_readMonk 5 (some .boolean) 0 := ⟨kw_1561, kw_15, kw_1560, kp_53, by decide +kernel⟩

def b_X11_readDuty_58  (M : zM) (x1 : Int32) (x2 : Int32) (x3 : Int32) (t0 : Int32) : Option (Int32 × zM) :=
  if 0 ≤ t0 then (zbn (f_X11_dutyAt M x1 0) (fun u_1 => zck (zin u_1 2030) (znm (zu M 1 (u_1 : Int32).toNatClampNeg x2) (fun M_2 => zbn (f_X11_dutyAt M_2 x1 1) (fun u_3 => zck (zin u_3 2030) (znm (zu M_2 1 (u_3 : Int32).toNatClampNeg x3) (fun M_4 => zbn (f_X11_dutyAt M_4 x1 2) (fun u_5 => zck (zin u_5 2030) (znm (zu M_4 1 (u_5 : Int32).toNatClampNeg t0) (fun M_6 => zbn (f_X11_dutyAt M_6 x1 3) (fun u_7 => zck (zin u_7 2030) (znm (zu M_6 1 (u_7 : Int32).toNatClampNeg 0) (fun M_8 => zck (zin 1 2030) (zck (zin 1 2030) (znm (zu M_8 1 (1 : Int32).toNatClampNeg ((M_8 1 (1 : Int32).toNatClampNeg) + 1)) (fun M_9 => some (1, M_9))))))))))))))))) else (some (0, M))
set_option maxRecDepth 100000 in
set_option maxHeartbeats 4000000 in
theorem lb_X11_readDuty_58 (g : zG)  {r : Int32 × zM} (E : zX g p m c cX11_readDuty 5 s args (zWs yX11_readDuty cX11_readDuty 5 (some .boolean)) RX11) (S : zSg g 15 s.heap.size s s.heap) (hret : zRi g rE 15 p l e (zrm 15 0 0) s m args below meth c 0 0 Q cX11_readDuty .boolean (fun v M1 => r = (v, M1))) (M : zM) (x1 : Int32) (x2 : Int32) (x3 : Int32) (t0 : Int32)  (H : Heap) (locs : List Loc) (ls : Array Slot) (h : b_X11_readDuty_58  M x1 x2 x3 t0 = some r) (hZ : zS g rE 15 s H locs M) (hl : lv_has ls 5 [(0, .ref (g.2.2 0)), (1, .int x1), (2, .int x2), (3, .int x3)]) : W p l e (zrm 15 0 0) s m args below meth c H locs 0 0 Q (F0 m 58 ls [.int t0]) := by
  have hx := E.1.1
  have hb := E.1.2.1
  unfold b_X11_readDuty_58 at h
  refine lv_istore (lv' := [(4, .int t0), (0, .ref (g.2.2 0)), (1, .int x1), (2, .int x2), (3, .int x3)]) hx hb dX11_readDuty_58 hl (by decide) rfl (fun ls hl => ?_)
  refine lv_iload hx hb dX11_readDuty_60 (lv_at hl 0 rfl) ?_
  refine zif_ge (tgt := 67) h E dX11_readDuty_62 (by decide) (fun c_10 h => ?_) (fun c_10 h => ?_)
  · refine lv_aload_n hx hb dX11_readDuty_67 rfl (lv_at hl 1 rfl) ?_
    refine zg (v := .ref (g.2.2 1)) E hZ (by decide) (re_0 _) kc_X11 1 (by decide) kw_1369 rfl rfl dX11_readDuty_68 ?_
    refine lv_iload_n hx hb dX11_readDuty_71 rfl (lv_at hl 2 rfl) ?_
    refine lv_iconst (v := 0) hx hb dX11_readDuty_72 (by decide) ?_
    obtain ⟨u_1, qu_1, h⟩ := zbn_some h
    refine zciR (zrunS E hZ v_X11_dutyAt kw_1585 (c_X11_dutyAt l g M  x1 0 qu_1 _) rfl hl.1 rfl (Nat.le_of_ble_eq_true rfl) ⟨by decide, by decide⟩ ⟨by decide, by decide⟩ dX11_readDuty_73) hZ (fun H locs hZ => ?_)
    refine lv_iload_n hx hb dX11_readDuty_76 rfl (lv_at hl 3 rfl) ?_
    refine zis h E hZ (by decide) re_1 dX11_readDuty_77 (fun M_2 H locs eM_2 h hZ => ?_)
    refine lv_aload_n hx hb dX11_readDuty_78 rfl (lv_at hl 1 rfl) ?_
    refine zg (v := .ref (g.2.2 1)) E hZ (by decide) (re_0 _) kc_X11 1 (by decide) kw_1369 rfl rfl dX11_readDuty_79 ?_
    refine lv_iload_n hx hb dX11_readDuty_82 rfl (lv_at hl 2 rfl) ?_
    refine lv_iconst (v := 1) hx hb dX11_readDuty_83 (by decide) ?_
    obtain ⟨u_3, qu_3, h⟩ := zbn_some h
    refine zciR (zrunS E hZ v_X11_dutyAt kw_1585 (c_X11_dutyAt l g M_2  x1 1 qu_3 _) rfl hl.1 rfl (Nat.le_of_ble_eq_true rfl) ⟨by decide, by decide⟩ ⟨by decide, by decide⟩ dX11_readDuty_84) hZ (fun H locs hZ => ?_)
    refine lv_iload_n hx hb dX11_readDuty_87 rfl (lv_at hl 4 rfl) ?_
    refine zis h E hZ (by decide) re_1 dX11_readDuty_88 (fun M_4 H locs eM_4 h hZ => ?_)
    refine lv_aload_n hx hb dX11_readDuty_89 rfl (lv_at hl 1 rfl) ?_
    refine zg (v := .ref (g.2.2 1)) E hZ (by decide) (re_0 _) kc_X11 1 (by decide) kw_1369 rfl rfl dX11_readDuty_90 ?_
    refine lv_iload_n hx hb dX11_readDuty_93 rfl (lv_at hl 2 rfl) ?_
    refine lv_iconst (v := 2) hx hb dX11_readDuty_94 (by decide) ?_
    obtain ⟨u_5, qu_5, h⟩ := zbn_some h
    refine zciR (zrunS E hZ v_X11_dutyAt kw_1585 (c_X11_dutyAt l g M_4  x1 2 qu_5 _) rfl hl.1 rfl (Nat.le_of_ble_eq_true rfl) ⟨by decide, by decide⟩ ⟨by decide, by decide⟩ dX11_readDuty_95) hZ (fun H locs hZ => ?_)
    refine lv_iload hx hb dX11_readDuty_98 (lv_at hl 0 rfl) ?_
    refine zis h E hZ (by decide) re_1 dX11_readDuty_100 (fun M_6 H locs eM_6 h hZ => ?_)
    refine lv_aload_n hx hb dX11_readDuty_101 rfl (lv_at hl 1 rfl) ?_
    refine zg (v := .ref (g.2.2 1)) E hZ (by decide) (re_0 _) kc_X11 1 (by decide) kw_1369 rfl rfl dX11_readDuty_102 ?_
    refine lv_iload_n hx hb dX11_readDuty_105 rfl (lv_at hl 2 rfl) ?_
    refine lv_iconst (v := 3) hx hb dX11_readDuty_106 (by decide) ?_
    obtain ⟨u_7, qu_7, h⟩ := zbn_some h
    refine zciR (zrunS E hZ v_X11_dutyAt kw_1585 (c_X11_dutyAt l g M_6  x1 3 qu_7 _) rfl hl.1 rfl (Nat.le_of_ble_eq_true rfl) ⟨by decide, by decide⟩ ⟨by decide, by decide⟩ dX11_readDuty_107) hZ (fun H locs hZ => ?_)
    refine lv_iconst (v := 0) hx hb dX11_readDuty_110 (by decide) ?_
    refine zis h E hZ (by decide) re_1 dX11_readDuty_111 (fun M_8 H locs eM_8 h hZ => ?_)
    refine lv_aload_n hx hb dX11_readDuty_112 rfl (lv_at hl 1 rfl) ?_
    refine zg (v := .ref (g.2.2 1)) E hZ (by decide) (re_0 _) kc_X11 1 (by decide) kw_1369 rfl rfl dX11_readDuty_113 ?_
    refine lv_iconst (v := 1) hx hb dX11_readDuty_116 (by decide) ?_
    refine lv_dup2_11 hx hb dX11_readDuty_117 rfl rfl ?_
    refine zia h E hZ (by decide) re_1 dX11_readDuty_118 (fun h => ?_)
    refine lv_iconst (v := 1) hx hb dX11_readDuty_119 (by decide) ?_
    refine lv_iadd hx hb dX11_readDuty_120 ?_
    refine zis h E hZ (by decide) re_1 dX11_readDuty_121 (fun M_9 H locs eM_9 h hZ => ?_)
    refine lv_iconst (v := 1) hx hb dX11_readDuty_122 (by decide) ?_
    exact hret _ _ _ _ _ _ (Option.some.inj h).symm rfl hZ dX11_readDuty_123
  · refine lv_iconst (v := 0) hx hb dX11_readDuty_65 (by decide) ?_
    exact hret _ _ _ _ _ _ (Option.some.inj h).symm rfl hZ dX11_readDuty_66
def b_X11_readDuty_39  (M : zM) (x1 : Int32) (x2 : Int32) (t0 : Int32) : Option (Int32 × zM) :=
  if 0 ≤ t0 then (zbn (f_X11_after M 5 t0 999) (fun u_11 => b_X11_readDuty_58  u_11.2 x1 x2 t0 u_11.1)) else (b_X11_readDuty_58  M x1 x2 t0 ((-1)))
set_option maxRecDepth 100000 in
set_option maxHeartbeats 4000000 in
theorem lb_X11_readDuty_39 (g : zG)  {r : Int32 × zM} (E : zX g p m c cX11_readDuty 5 s args (zWs yX11_readDuty cX11_readDuty 5 (some .boolean)) RX11) (S : zSg g 15 s.heap.size s s.heap) (hret : zRi g rE 15 p l e (zrm 15 0 0) s m args below meth c 0 0 Q cX11_readDuty .boolean (fun v M1 => r = (v, M1))) (M : zM) (x1 : Int32) (x2 : Int32) (t0 : Int32)  (H : Heap) (locs : List Loc) (ls : Array Slot) (h : b_X11_readDuty_39  M x1 x2 t0 = some r) (hZ : zS g rE 15 s H locs M) (hl : lv_has ls 5 [(0, .ref (g.2.2 0)), (1, .int x1), (2, .int x2)]) : W p l e (zrm 15 0 0) s m args below meth c H locs 0 0 Q (F0 m 39 ls [.int t0]) := by
  have hx := E.1.1
  have hb := E.1.2.1
  unfold b_X11_readDuty_39 at h
  refine lv_istore_n (lv' := [(3, .int t0), (0, .ref (g.2.2 0)), (1, .int x1), (2, .int x2)]) hx hb dX11_readDuty_39 rfl hl (by decide) rfl (fun ls hl => ?_)
  refine lv_iload_n hx hb dX11_readDuty_40 rfl (lv_at hl 0 rfl) ?_
  refine zif_ge (tgt := 48) h E dX11_readDuty_41 (by decide) (fun c_12 h => ?_) (fun c_12 h => ?_)
  · refine lv_aload_n hx hb dX11_readDuty_48 rfl (lv_at hl 1 rfl) ?_
    refine zlds E S zst_5 dX11_readDuty_49 ?_
    refine lv_iload_n hx hb dX11_readDuty_51 rfl (lv_at hl 0 rfl) ?_
    refine lv_sipush (v := 999) hx hb dX11_readDuty_52 (by decide) ?_
    obtain ⟨u_11, qu_11, h⟩ := zbn_some h
    refine zciS (zrunVs E S hZ (by decide) (re_0 _) rfl rfl v_X11_after kw_1553 (c_X11_after l g M 5 (by decide) t0 999 qu_11 _) rfl hl.1 rfl (Nat.le_of_ble_eq_true rfl) ⟨by decide, by decide⟩ ⟨by decide, by decide⟩ dX11_readDuty_55) hZ (fun H locs hZ => ?_)
    exact lb_X11_readDuty_58 g  E S hret u_11.2 x1 x2 t0 u_11.1  H locs ls h hZ (lv_sub hl [1, 2, 3, 0] rfl)
  · refine lv_iconst (v := (-1)) hx hb dX11_readDuty_44 (by decide) ?_
    refine lv_goto (tgt := 58) hx hb dX11_readDuty_45 (by decide) ?_
    exact lb_X11_readDuty_58 g  E S hret M x1 x2 t0 ((-1))  H locs ls h hZ (lv_sub hl [1, 2, 3, 0] rfl)
def f_X11_readDuty (M : zM)  : Option (Int32 × zM) :=
  zbn (f_X11_duties M ) (fun u_13 => if u_13 = 6 then (some (0, M)) else (zbn (f_X11_number M 0 11) (fun u_14 => if 0 ≤ u_14.1 then (zbn (f_X11_after u_14.2 10 0 999) (fun u_15 => b_X11_readDuty_39  u_15.2 u_13 u_14.1 u_15.1)) else (b_X11_readDuty_39  u_14.2 u_13 u_14.1 ((-1))))))
set_option maxRecDepth 100000 in
set_option maxHeartbeats 4000000 in
theorem w_X11_readDuty (g : zG)  {r : Int32 × zM} (E : zX g p m c cX11_readDuty 5 s args (zWs yX11_readDuty cX11_readDuty 5 (some .boolean)) RX11) (S : zSg g 15 s.heap.size s s.heap) (hret : zRi g rE 15 p l e (zrm 15 0 0) s m args below meth c 0 0 Q cX11_readDuty .boolean (fun v M1 => r = (v, M1))) (M : zM)  (H : Heap) (locs : List Loc) (ls : Array Slot) (h : f_X11_readDuty M  = some r) (hZ : zS g rE 15 s H locs M) (hl : lv_has ls 5 [(0, .ref (g.2.2 0))]) : W p l e (zrm 15 0 0) s m args below meth c H locs 0 0 Q (F0 m 0 ls []) := by
  have hx := E.1.1
  have hb := E.1.2.1
  unfold f_X11_readDuty at h
  refine lv_aload_n hx hb dX11_readDuty_0 rfl (lv_at hl 0 rfl) ?_
  obtain ⟨u_13, qu_13, h⟩ := zbn_some h
  refine zciR (zrunV E hZ (by decide) (re_0 _) rfl rfl v_X11_duties kw_1580 (c_X11_duties l g M   qu_13 _) rfl hl.1 rfl (Nat.le_of_ble_eq_true rfl) ⟨by decide, by decide⟩ ⟨by decide, by decide⟩ dX11_readDuty_1) hZ (fun H locs hZ => ?_)
  refine lv_istore_n (lv' := [(1, .int u_13), (0, .ref (g.2.2 0))]) hx hb dX11_readDuty_4 rfl hl (by decide) rfl (fun ls hl => ?_)
  refine lv_iload_n hx hb dX11_readDuty_5 rfl (lv_at hl 0 rfl) ?_
  refine lv_bipush (v := 6) hx hb dX11_readDuty_6 (by decide) ?_
  refine zic_ne (tgt := 13) h E dX11_readDuty_8 (by decide) (fun c_17 h => ?_) (fun c_17 h => ?_)
  · refine lv_aload_n hx hb dX11_readDuty_13 rfl (lv_at hl 1 rfl) ?_
    refine lv_iconst (v := 0) hx hb dX11_readDuty_14 (by decide) ?_
    refine lv_bipush (v := 11) hx hb dX11_readDuty_15 (by decide) ?_
    obtain ⟨u_14, qu_14, h⟩ := zbn_some h
    refine zciS (zrunV E hZ (by decide) (re_0 _) rfl rfl v_X11_number kw_1537 (c_X11_number l g M  0 11 qu_14 _) rfl hl.1 rfl (Nat.le_of_ble_eq_true rfl) ⟨by decide, by decide⟩ ⟨by decide, by decide⟩ dX11_readDuty_17) hZ (fun H locs hZ => ?_)
    refine lv_istore_n (lv' := [(2, .int u_14.1), (1, .int u_13), (0, .ref (g.2.2 0))]) hx hb dX11_readDuty_20 rfl hl (by decide) rfl (fun ls hl => ?_)
    refine lv_iload_n hx hb dX11_readDuty_21 rfl (lv_at hl 0 rfl) ?_
    refine zif_ge (tgt := 29) h E dX11_readDuty_22 (by decide) (fun c_16 h => ?_) (fun c_16 h => ?_)
    · refine lv_aload_n hx hb dX11_readDuty_29 rfl (lv_at hl 2 rfl) ?_
      refine zlds E S zst_10 dX11_readDuty_30 ?_
      refine lv_iconst (v := 0) hx hb dX11_readDuty_32 (by decide) ?_
      refine lv_sipush (v := 999) hx hb dX11_readDuty_33 (by decide) ?_
      obtain ⟨u_15, qu_15, h⟩ := zbn_some h
      refine zciS (zrunVs E S hZ (by decide) (re_0 _) rfl rfl v_X11_after kw_1553 (c_X11_after l g u_14.2 10 (by decide) 0 999 qu_15 _) rfl hl.1 rfl (Nat.le_of_ble_eq_true rfl) ⟨by decide, by decide⟩ ⟨by decide, by decide⟩ dX11_readDuty_36) hZ (fun H locs hZ => ?_)
      exact lb_X11_readDuty_39 g  E S hret u_15.2 u_13 u_14.1 u_15.1  H locs ls h hZ (lv_sub hl [2, 1, 0] rfl)
    · refine lv_iconst (v := (-1)) hx hb dX11_readDuty_25 (by decide) ?_
      refine lv_goto (tgt := 39) hx hb dX11_readDuty_26 (by decide) ?_
      exact lb_X11_readDuty_39 g  E S hret u_14.2 u_13 u_14.1 ((-1))  H locs ls h hZ (lv_sub hl [2, 1, 0] rfl)
  · refine lv_iconst (v := 0) hx hb dX11_readDuty_11 (by decide) ?_
    exact hret _ _ _ _ _ _ (Option.some.inj h).symm rfl hZ dX11_readDuty_12
theorem c_X11_readDuty (l : Launch) (g : zG) (M : zM)   {r : Int32 × zM} (h : f_X11_readDuty M  = some r) : zMis l g rE 15 yX11_readDuty (zWs yX11_readDuty cX11_readDuty 5 (some .boolean)) 15 [.ref (g.2.2 0)] M (fun v M1 => r = (v, M1)) :=
  zMis_of (by decide +kernel) (Nat.le_of_ble_eq_true rfl) (fun p e s m args below meth c Q ls E S hret hZ hl => w_X11_readDuty g  E S hret M  _ _ ls h hZ hl)
theorem v_X11_readDuty : zYV yX11_readDuty cX11_readDuty 5 (some .boolean) 0 := ⟨kw_1579, kw_15, kw_1578, kp_56, by decide +kernel⟩

def b_X11_readSigned_55  (M : zM) (x3 : Int32) : Option (Int32 × zM) :=
  if x3 < 0 then (some (0, M)) else (some (1, M))
set_option maxRecDepth 100000 in
set_option maxHeartbeats 4000000 in
theorem lb_X11_readSigned_55 (g : zG)  {r : Int32 × zM} (E : zX g p m c cX11_readSigned 4 s args (zWs yX11_readSigned cX11_readSigned 4 (some .boolean)) RX11) (S : zSg g 15 s.heap.size s s.heap) (hret : zRi g rE 15 p l e (zrm 14 0 0) s m args below meth c 0 0 Q cX11_readSigned .boolean (fun v M1 => r = (v, M1))) (M : zM) (x3 : Int32)  (H : Heap) (locs : List Loc) (ls : Array Slot) (h : b_X11_readSigned_55  M x3 = some r) (hZ : zS g rE 15 s H locs M) (hl : lv_has ls 4 [(3, .int x3)]) : W p l e (zrm 14 0 0) s m args below meth c H locs 0 0 Q (F0 m 55 ls []) := by
  have hx := E.1.1
  have hb := E.1.2.1
  unfold b_X11_readSigned_55 at h
  refine lv_iload_n hx hb dX11_readSigned_55 rfl (lv_at hl 0 rfl) ?_
  refine zif_lt (tgt := 63) h E dX11_readSigned_56 (by decide) (fun c_1 h => ?_) (fun c_1 h => ?_)
  · refine lv_iconst (v := 0) hx hb dX11_readSigned_63 (by decide) ?_
    exact hret _ _ _ _ _ _ (Option.some.inj h).symm rfl hZ dX11_readSigned_64
  · refine lv_iconst (v := 1) hx hb dX11_readSigned_59 (by decide) ?_
    refine lv_goto (tgt := 64) hx hb dX11_readSigned_60 (by decide) ?_
    exact hret _ _ _ _ _ _ (Option.some.inj h).symm rfl hZ dX11_readSigned_64
def b_X11_readSigned_54  (M : zM) (x3 : Int32) (t0 : Int32) (t1 : Int32) : Option (Int32 × zM) :=
  zck (zin t1 2030) (znm (zu M 1 (t1 : Int32).toNatClampNeg t0) (fun M_2 => b_X11_readSigned_55  M_2 x3))
set_option maxRecDepth 100000 in
set_option maxHeartbeats 4000000 in
theorem lb_X11_readSigned_54 (g : zG)  {r : Int32 × zM} (E : zX g p m c cX11_readSigned 4 s args (zWs yX11_readSigned cX11_readSigned 4 (some .boolean)) RX11) (S : zSg g 15 s.heap.size s s.heap) (hret : zRi g rE 15 p l e (zrm 14 0 0) s m args below meth c 0 0 Q cX11_readSigned .boolean (fun v M1 => r = (v, M1))) (M : zM) (x3 : Int32) (t0 : Int32) (t1 : Int32)  (H : Heap) (locs : List Loc) (ls : Array Slot) (h : b_X11_readSigned_54  M x3 t0 t1 = some r) (hZ : zS g rE 15 s H locs M) (hl : lv_has ls 4 [(3, .int x3)]) : W p l e (zrm 14 0 0) s m args below meth c H locs 0 0 Q (F0 m 54 ls [.int t0, .int t1, .ref (g.2.2 1)]) := by
  have hx := E.1.1
  have hb := E.1.2.1
  unfold b_X11_readSigned_54 at h
  refine zis h E hZ (by decide) re_1 dX11_readSigned_54 (fun M_2 H locs eM_2 h hZ => ?_)
  exact lb_X11_readSigned_55 g  E S hret M_2 x3  H locs ls h hZ (lv_sub hl [0] rfl)
def b_X11_readSigned_34  (M : zM) (x1 : Int32) (x2 : Int32) (t0 : Int32) : Option (Int32 × zM) :=
  if t0 < 0 then (b_X11_readSigned_55  M t0) else (if x2 = 0 then (b_X11_readSigned_54  M t0 t0 x1) else (b_X11_readSigned_54  M t0 (-t0) x1))
set_option maxRecDepth 100000 in
set_option maxHeartbeats 4000000 in
theorem lb_X11_readSigned_34 (g : zG)  {r : Int32 × zM} (E : zX g p m c cX11_readSigned 4 s args (zWs yX11_readSigned cX11_readSigned 4 (some .boolean)) RX11) (S : zSg g 15 s.heap.size s s.heap) (hret : zRi g rE 15 p l e (zrm 14 0 0) s m args below meth c 0 0 Q cX11_readSigned .boolean (fun v M1 => r = (v, M1))) (M : zM) (x1 : Int32) (x2 : Int32) (t0 : Int32)  (H : Heap) (locs : List Loc) (ls : Array Slot) (h : b_X11_readSigned_34  M x1 x2 t0 = some r) (hZ : zS g rE 15 s H locs M) (hl : lv_has ls 4 [(0, .ref (g.2.2 0)), (1, .int x1), (2, .int x2)]) : W p l e (zrm 14 0 0) s m args below meth c H locs 0 0 Q (F0 m 34 ls [.int t0]) := by
  have hx := E.1.1
  have hb := E.1.2.1
  unfold b_X11_readSigned_34 at h
  refine lv_istore_n (lv' := [(3, .int t0), (0, .ref (g.2.2 0)), (1, .int x1), (2, .int x2)]) hx hb dX11_readSigned_34 rfl hl (by decide) rfl (fun ls hl => ?_)
  refine lv_iload_n hx hb dX11_readSigned_35 rfl (lv_at hl 0 rfl) ?_
  refine zif_lt (tgt := 55) h E dX11_readSigned_36 (by decide) (fun c_4 h => ?_) (fun c_4 h => ?_)
  · exact lb_X11_readSigned_55 g  E S hret M t0  H locs ls h hZ (lv_sub hl [0] rfl)
  · refine lv_aload_n hx hb dX11_readSigned_39 rfl (lv_at hl 1 rfl) ?_
    refine zg (v := .ref (g.2.2 1)) E hZ (by decide) (re_0 _) kc_X11 1 (by decide) kw_1369 rfl rfl dX11_readSigned_40 ?_
    refine lv_iload_n hx hb dX11_readSigned_43 rfl (lv_at hl 2 rfl) ?_
    refine lv_iload_n hx hb dX11_readSigned_44 rfl (lv_at hl 3 rfl) ?_
    refine zif_eq (tgt := 53) h E dX11_readSigned_45 (by decide) (fun c_3 h => ?_) (fun c_3 h => ?_)
    · refine lv_iload_n hx hb dX11_readSigned_53 rfl (lv_at hl 0 rfl) ?_
      exact lb_X11_readSigned_54 g  E S hret M t0 t0 x1  H locs ls h hZ (lv_sub hl [0] rfl)
    · refine lv_iload_n hx hb dX11_readSigned_48 rfl (lv_at hl 0 rfl) ?_
      refine lv_ineg hx hb dX11_readSigned_49 ?_
      refine lv_goto (tgt := 54) hx hb dX11_readSigned_50 (by decide) ?_
      exact lb_X11_readSigned_54 g  E S hret M t0 (-t0) x1  H locs ls h hZ (lv_sub hl [0] rfl)
def b_X11_readSigned_24  (M : zM) (x1 : Int32) (x2 : Int32) : Option (Int32 × zM) :=
  zbn (f_X11_number M 0 3) (fun u_5 => b_X11_readSigned_34  u_5.2 x1 x2 u_5.1)
set_option maxRecDepth 100000 in
set_option maxHeartbeats 4000000 in
theorem lb_X11_readSigned_24 (g : zG)  {r : Int32 × zM} (E : zX g p m c cX11_readSigned 4 s args (zWs yX11_readSigned cX11_readSigned 4 (some .boolean)) RX11) (S : zSg g 15 s.heap.size s s.heap) (hret : zRi g rE 15 p l e (zrm 14 0 0) s m args below meth c 0 0 Q cX11_readSigned .boolean (fun v M1 => r = (v, M1))) (M : zM) (x1 : Int32) (x2 : Int32)  (H : Heap) (locs : List Loc) (ls : Array Slot) (h : b_X11_readSigned_24  M x1 x2 = some r) (hZ : zS g rE 15 s H locs M) (hl : lv_has ls 4 [(0, .ref (g.2.2 0)), (1, .int x1), (2, .int x2)]) : W p l e (zrm 14 0 0) s m args below meth c H locs 0 0 Q (F0 m 24 ls []) := by
  have hx := E.1.1
  have hb := E.1.2.1
  unfold b_X11_readSigned_24 at h
  refine lv_aload_n hx hb dX11_readSigned_24 rfl (lv_at hl 0 rfl) ?_
  refine lv_iconst (v := 0) hx hb dX11_readSigned_25 (by decide) ?_
  refine lv_iconst (v := 3) hx hb dX11_readSigned_26 (by decide) ?_
  obtain ⟨u_5, qu_5, h⟩ := zbn_some h
  refine zciS (zrunV E hZ (by decide) (re_0 _) rfl rfl v_X11_number kw_1537 (c_X11_number l g M  0 3 qu_5 _) rfl hl.1 rfl (Nat.le_of_ble_eq_true rfl) ⟨by decide, by decide⟩ ⟨by decide, by decide⟩ dX11_readSigned_27) hZ (fun H locs hZ => ?_)
  refine lv_goto (tgt := 34) hx hb dX11_readSigned_30 (by decide) ?_
  exact lb_X11_readSigned_34 g  E S hret u_5.2 x1 x2 u_5.1  H locs ls h hZ (lv_sub hl [0, 1, 2] rfl)
def f_X11_readSigned (M : zM) (x1 : Int32) : Option (Int32 × zM) :=
  zbn (f_X11_letters M ) (fun u_6 => zbn (f_X11_isWord u_6 13) (fun u_7 => if u_7 = 0 then (zbn (f_X11_isWord u_6 14) (fun u_8 => if u_8 = 0 then (b_X11_readSigned_34  u_6 x1 u_7 ((-1))) else (b_X11_readSigned_24  u_6 x1 u_7))) else (b_X11_readSigned_24  u_6 x1 u_7)))
set_option maxRecDepth 100000 in
set_option maxHeartbeats 4000000 in
theorem w_X11_readSigned (g : zG)  {r : Int32 × zM} (E : zX g p m c cX11_readSigned 4 s args (zWs yX11_readSigned cX11_readSigned 4 (some .boolean)) RX11) (S : zSg g 15 s.heap.size s s.heap) (hret : zRi g rE 15 p l e (zrm 14 0 0) s m args below meth c 0 0 Q cX11_readSigned .boolean (fun v M1 => r = (v, M1))) (M : zM) (x1 : Int32) (H : Heap) (locs : List Loc) (ls : Array Slot) (h : f_X11_readSigned M x1 = some r) (hZ : zS g rE 15 s H locs M) (hl : lv_has ls 4 [(0, .ref (g.2.2 0)), (1, .int x1)]) : W p l e (zrm 14 0 0) s m args below meth c H locs 0 0 Q (F0 m 0 ls []) := by
  have hx := E.1.1
  have hb := E.1.2.1
  unfold f_X11_readSigned at h
  refine lv_aload_n hx hb dX11_readSigned_0 rfl (lv_at hl 0 rfl) ?_
  obtain ⟨u_6, qu_6, h⟩ := zbn_some h
  refine zcvS (zrunV E hZ (by decide) (re_0 _) rfl rfl v_X11_letters kw_1492 (c_X11_letters l g M   qu_6 _) rfl hl.1 rfl (Nat.le_of_ble_eq_true rfl) ⟨by decide, by decide⟩ ⟨by decide, by decide⟩ dX11_readSigned_1) hZ (fun H locs hZ => ?_)
  refine lv_aload_n hx hb dX11_readSigned_4 rfl (lv_at hl 0 rfl) ?_
  refine zlds E S zst_13 dX11_readSigned_5 ?_
  obtain ⟨u_7, qu_7, h⟩ := zbn_some h
  refine zciR (zrunVs E S hZ (by decide) (re_0 _) rfl rfl v_X11_isWord kw_1501 (c_X11_isWord l g u_6 13 (by decide)  qu_7 _) rfl hl.1 rfl (Nat.le_of_ble_eq_true rfl) ⟨by decide, by decide⟩ ⟨by decide, by decide⟩ dX11_readSigned_7) hZ (fun H locs hZ => ?_)
  refine lv_istore_n (lv' := [(2, .int u_7), (0, .ref (g.2.2 0)), (1, .int x1)]) hx hb dX11_readSigned_10 rfl hl (by decide) rfl (fun ls hl => ?_)
  refine lv_iload_n hx hb dX11_readSigned_11 rfl (lv_at hl 0 rfl) ?_
  refine zif_ne (tgt := 24) h E dX11_readSigned_12 (by decide) (fun c_10 h => ?_) (fun c_10 h => ?_)
  · exact lb_X11_readSigned_24 g  E S hret u_6 x1 u_7  H locs ls h hZ (lv_sub hl [1, 2, 0] rfl)
  · refine lv_aload_n hx hb dX11_readSigned_15 rfl (lv_at hl 1 rfl) ?_
    refine zlds E S zst_14 dX11_readSigned_16 ?_
    obtain ⟨u_8, qu_8, h⟩ := zbn_some h
    refine zciR (zrunVs E S hZ (by decide) (re_0 _) rfl rfl v_X11_isWord kw_1501 (c_X11_isWord l g u_6 14 (by decide)  qu_8 _) rfl hl.1 rfl (Nat.le_of_ble_eq_true rfl) ⟨by decide, by decide⟩ ⟨by decide, by decide⟩ dX11_readSigned_18) hZ (fun H locs hZ => ?_)
    refine zif_eq (tgt := 33) h E dX11_readSigned_21 (by decide) (fun c_9 h => ?_) (fun c_9 h => ?_)
    · refine lv_iconst (v := (-1)) hx hb dX11_readSigned_33 (by decide) ?_
      exact lb_X11_readSigned_34 g  E S hret u_6 x1 u_7 ((-1))  H locs ls h hZ (lv_sub hl [1, 2, 0] rfl)
    · exact lb_X11_readSigned_24 g  E S hret u_6 x1 u_7  H locs ls h hZ (lv_sub hl [1, 2, 0] rfl)
theorem c_X11_readSigned (l : Launch) (g : zG) (M : zM)  (x1 : Int32) {r : Int32 × zM} (h : f_X11_readSigned M x1 = some r) : zMis l g rE 15 yX11_readSigned (zWs yX11_readSigned cX11_readSigned 4 (some .boolean)) 14 [.ref (g.2.2 0), .int x1] M (fun v M1 => r = (v, M1)) :=
  zMis_of (by decide +kernel) (Nat.le_of_ble_eq_true rfl) (fun p e s m args below meth c Q ls E S hret hZ hl => w_X11_readSigned g  E S hret M x1 _ _ ls h hZ hl)
theorem v_X11_readSigned : zYV yX11_readSigned cX11_readSigned 4 (some .boolean) 1 := ⟨kw_1593, kw_15, kw_1592, kp_58, by decide +kernel⟩

def f_X11_readError (M : zM)  : Option (Int32 × zM) :=
  zbn (f_X11_number M 0 11) (fun u_1 => if u_1.1 < 0 then (some (0, u_1.2)) else (zbn (f_X11_readSigned u_1.2 (26 + u_1.1)) (fun u_2 => if u_2.1 = 0 then (some (0, u_2.2)) else (some (1, u_2.2)))))
set_option maxRecDepth 100000 in
set_option maxHeartbeats 4000000 in
theorem w_X11_readError (g : zG)  {r : Int32 × zM} (E : zX g p m c cX11_readError 2 s args (zWs yX11_readError cX11_readError 2 (some .boolean)) RX11) (S : zSg g 15 s.heap.size s s.heap) (hret : zRi g rE 15 p l e (zrm 15 0 0) s m args below meth c 0 0 Q cX11_readError .boolean (fun v M1 => r = (v, M1))) (M : zM)  (H : Heap) (locs : List Loc) (ls : Array Slot) (h : f_X11_readError M  = some r) (hZ : zS g rE 15 s H locs M) (hl : lv_has ls 2 [(0, .ref (g.2.2 0))]) : W p l e (zrm 15 0 0) s m args below meth c H locs 0 0 Q (F0 m 0 ls []) := by
  have hx := E.1.1
  have hb := E.1.2.1
  unfold f_X11_readError at h
  refine lv_aload_n hx hb dX11_readError_0 rfl (lv_at hl 0 rfl) ?_
  refine lv_iconst (v := 0) hx hb dX11_readError_1 (by decide) ?_
  refine lv_bipush (v := 11) hx hb dX11_readError_2 (by decide) ?_
  obtain ⟨u_1, qu_1, h⟩ := zbn_some h
  refine zciS (zrunV E hZ (by decide) (re_0 _) rfl rfl v_X11_number kw_1537 (c_X11_number l g M  0 11 qu_1 _) rfl hl.1 rfl (Nat.le_of_ble_eq_true rfl) ⟨by decide, by decide⟩ ⟨by decide, by decide⟩ dX11_readError_4) hZ (fun H locs hZ => ?_)
  refine lv_istore_n (lv' := [(1, .int u_1.1), (0, .ref (g.2.2 0))]) hx hb dX11_readError_7 rfl hl (by decide) rfl (fun ls hl => ?_)
  refine lv_iload_n hx hb dX11_readError_8 rfl (lv_at hl 0 rfl) ?_
  refine zif_lt (tgt := 27) h E dX11_readError_9 (by decide) (fun c_4 h => ?_) (fun c_4 h => ?_)
  · refine lv_iconst (v := 0) hx hb dX11_readError_27 (by decide) ?_
    exact hret _ _ _ _ _ _ (Option.some.inj h).symm rfl hZ dX11_readError_28
  · refine lv_aload_n hx hb dX11_readError_12 rfl (lv_at hl 1 rfl) ?_
    refine lv_bipush (v := 26) hx hb dX11_readError_13 (by decide) ?_
    refine lv_iload_n hx hb dX11_readError_15 rfl (lv_at hl 0 rfl) ?_
    refine lv_iadd hx hb dX11_readError_16 ?_
    obtain ⟨u_2, qu_2, h⟩ := zbn_some h
    refine zciS (zrunVs E S hZ (by decide) (re_0 _) rfl rfl v_X11_readSigned kw_1590 (c_X11_readSigned l g u_1.2  (26 + u_1.1) qu_2 _) rfl hl.1 rfl (Nat.le_of_ble_eq_true rfl) ⟨by decide, by decide⟩ ⟨by decide, by decide⟩ dX11_readError_17) hZ (fun H locs hZ => ?_)
    refine zif_eq (tgt := 27) h E dX11_readError_20 (by decide) (fun c_3 h => ?_) (fun c_3 h => ?_)
    · refine lv_iconst (v := 0) hx hb dX11_readError_27 (by decide) ?_
      exact hret _ _ _ _ _ _ (Option.some.inj h).symm rfl hZ dX11_readError_28
    · refine lv_iconst (v := 1) hx hb dX11_readError_23 (by decide) ?_
      refine lv_goto (tgt := 28) hx hb dX11_readError_24 (by decide) ?_
      exact hret _ _ _ _ _ _ (Option.some.inj h).symm rfl hZ dX11_readError_28
theorem c_X11_readError (l : Launch) (g : zG) (M : zM)   {r : Int32 × zM} (h : f_X11_readError M  = some r) : zMis l g rE 15 yX11_readError (zWs yX11_readError cX11_readError 2 (some .boolean)) 15 [.ref (g.2.2 0)] M (fun v M1 => r = (v, M1)) :=
  zMis_of (by decide +kernel) (Nat.le_of_ble_eq_true rfl) (fun p e s m args below meth c Q ls E S hret hZ hl => w_X11_readError g  E S hret M  _ _ ls h hZ hl)
theorem v_X11_readError : zYV yX11_readError cX11_readError 2 (some .boolean) 0 := ⟨kw_1600, kw_15, kw_1599, kp_59, by decide +kernel⟩

def f_X11_readCoastLine (M : zM)  : Option (Int32 × zM) :=
  zbn (f_X11_isWord M 1) (fun u_1 => if u_1 = 0 then (zbn (f_X11_isWord M 2) (fun u_2 => if u_2 = 0 then (zbn (f_X11_isWord M 3) (fun u_3 => if u_3 = 0 then (zbn (f_X11_isWord M 4) (fun u_4 => if u_4 = 0 then (zbn (f_X11_isWord M 6) (fun u_5 => if u_5 = 0 then (zbn (f_X11_isWord M 9) (fun u_6 => if u_6 = 0 then (zbn (f_X11_isWord M 11) (fun u_7 => if u_7 = 0 then (zbn (f_X11_isWord M 12) (fun u_8 => if u_8 = 0 then (zbn (f_X11_isWord M 15) (fun u_9 => if u_9 = 0 then (some (0, M)) else (zbn (f_X11_readError M ) (fun u_10 => if u_10.1 = 0 then (some (0, u_10.2)) else (some (1, u_10.2)))))) else (zbn (f_X11_readSigned M 10) (fun u_13 => zck (zbl u_13.1) (some (u_13.1, u_13.2)))))) else (zbn (f_X11_readNumber M 11 0 100) (fun u_15 => zck (zbl u_15.1) (some (u_15.1, u_15.2)))))) else (zbn (f_X11_readDuty M ) (fun u_17 => zck (zbl u_17.1) (some (u_17.1, u_17.2)))))) else (zbn (f_X11_readMonk M ) (fun u_19 => zck (zbl u_19.1) (some (u_19.1, u_19.2)))))) else (zbn (f_X11_readRange M ) (fun u_21 => zck (zbl u_21.1) (some (u_21.1, u_21.2)))))) else (zbn (f_X11_readNumber M 6 2 28) (fun u_23 => zck (zbl u_23.1) (some (u_23.1, u_23.2)))))) else (zbn (f_X11_readNumber M 5 4 24) (fun u_25 => zck (zbl u_25.1) (some (u_25.1, u_25.2)))))) else (zbn (f_X11_readGround M ) (fun u_27 => zck (zbl u_27.1) (some (u_27.1, u_27.2)))))
set_option maxRecDepth 100000 in
set_option maxHeartbeats 4000000 in
theorem w_X11_readCoastLine (g : zG)  {r : Int32 × zM} (E : zX g p m c cX11_readCoastLine 1 s args (zWs yX11_readCoastLine cX11_readCoastLine 1 (some .boolean)) RX11) (S : zSg g 15 s.heap.size s s.heap) (hret : zRi g rE 15 p l e (zrm 16 0 0) s m args below meth c 0 0 Q cX11_readCoastLine .boolean (fun v M1 => r = (v, M1))) (M : zM)  (H : Heap) (locs : List Loc) (ls : Array Slot) (h : f_X11_readCoastLine M  = some r) (hZ : zS g rE 15 s H locs M) (hl : lv_has ls 1 [(0, .ref (g.2.2 0))]) : W p l e (zrm 16 0 0) s m args below meth c H locs 0 0 Q (F0 m 0 ls []) := by
  have hx := E.1.1
  have hb := E.1.2.1
  unfold f_X11_readCoastLine at h
  refine lv_aload_n hx hb dX11_readCoastLine_0 rfl (lv_at hl 0 rfl) ?_
  refine zlds E S zst_1 dX11_readCoastLine_1 ?_
  obtain ⟨u_1, qu_1, h⟩ := zbn_some h
  refine zciR (zrunVs E S hZ (by decide) (re_0 _) rfl rfl v_X11_isWord kw_1501 (c_X11_isWord l g M 1 (by decide)  qu_1 _) rfl hl.1 rfl (Nat.le_of_ble_eq_true rfl) ⟨by decide, by decide⟩ ⟨by decide, by decide⟩ dX11_readCoastLine_3) hZ (fun H locs hZ => ?_)
  refine zif_eq (tgt := 14) h E dX11_readCoastLine_6 (by decide) (fun c_28 h => ?_) (fun c_28 h => ?_)
  · refine lv_aload_n hx hb dX11_readCoastLine_14 rfl (lv_at hl 0 rfl) ?_
    refine zlds E S zst_2 dX11_readCoastLine_15 ?_
    obtain ⟨u_2, qu_2, h⟩ := zbn_some h
    refine zciR (zrunVs E S hZ (by decide) (re_0 _) rfl rfl v_X11_isWord kw_1501 (c_X11_isWord l g M 2 (by decide)  qu_2 _) rfl hl.1 rfl (Nat.le_of_ble_eq_true rfl) ⟨by decide, by decide⟩ ⟨by decide, by decide⟩ dX11_readCoastLine_17) hZ (fun H locs hZ => ?_)
    refine zif_eq (tgt := 32) h E dX11_readCoastLine_20 (by decide) (fun c_26 h => ?_) (fun c_26 h => ?_)
    · refine lv_aload_n hx hb dX11_readCoastLine_32 rfl (lv_at hl 0 rfl) ?_
      refine zlds E S zst_3 dX11_readCoastLine_33 ?_
      obtain ⟨u_3, qu_3, h⟩ := zbn_some h
      refine zciR (zrunVs E S hZ (by decide) (re_0 _) rfl rfl v_X11_isWord kw_1501 (c_X11_isWord l g M 3 (by decide)  qu_3 _) rfl hl.1 rfl (Nat.le_of_ble_eq_true rfl) ⟨by decide, by decide⟩ ⟨by decide, by decide⟩ dX11_readCoastLine_35) hZ (fun H locs hZ => ?_)
      refine zif_eq (tgt := 51) h E dX11_readCoastLine_38 (by decide) (fun c_24 h => ?_) (fun c_24 h => ?_)
      · refine lv_aload_n hx hb dX11_readCoastLine_51 rfl (lv_at hl 0 rfl) ?_
        refine zlds E S zst_4 dX11_readCoastLine_52 ?_
        obtain ⟨u_4, qu_4, h⟩ := zbn_some h
        refine zciR (zrunVs E S hZ (by decide) (re_0 _) rfl rfl v_X11_isWord kw_1501 (c_X11_isWord l g M 4 (by decide)  qu_4 _) rfl hl.1 rfl (Nat.le_of_ble_eq_true rfl) ⟨by decide, by decide⟩ ⟨by decide, by decide⟩ dX11_readCoastLine_54) hZ (fun H locs hZ => ?_)
        refine zif_eq (tgt := 65) h E dX11_readCoastLine_57 (by decide) (fun c_22 h => ?_) (fun c_22 h => ?_)
        · refine lv_aload_n hx hb dX11_readCoastLine_65 rfl (lv_at hl 0 rfl) ?_
          refine zlds E S zst_6 dX11_readCoastLine_66 ?_
          obtain ⟨u_5, qu_5, h⟩ := zbn_some h
          refine zciR (zrunVs E S hZ (by decide) (re_0 _) rfl rfl v_X11_isWord kw_1501 (c_X11_isWord l g M 6 (by decide)  qu_5 _) rfl hl.1 rfl (Nat.le_of_ble_eq_true rfl) ⟨by decide, by decide⟩ ⟨by decide, by decide⟩ dX11_readCoastLine_68) hZ (fun H locs hZ => ?_)
          refine zif_eq (tgt := 79) h E dX11_readCoastLine_71 (by decide) (fun c_20 h => ?_) (fun c_20 h => ?_)
          · refine lv_aload_n hx hb dX11_readCoastLine_79 rfl (lv_at hl 0 rfl) ?_
            refine zlds E S zst_9 dX11_readCoastLine_80 ?_
            obtain ⟨u_6, qu_6, h⟩ := zbn_some h
            refine zciR (zrunVs E S hZ (by decide) (re_0 _) rfl rfl v_X11_isWord kw_1501 (c_X11_isWord l g M 9 (by decide)  qu_6 _) rfl hl.1 rfl (Nat.le_of_ble_eq_true rfl) ⟨by decide, by decide⟩ ⟨by decide, by decide⟩ dX11_readCoastLine_82) hZ (fun H locs hZ => ?_)
            refine zif_eq (tgt := 93) h E dX11_readCoastLine_85 (by decide) (fun c_18 h => ?_) (fun c_18 h => ?_)
            · refine lv_aload_n hx hb dX11_readCoastLine_93 rfl (lv_at hl 0 rfl) ?_
              refine zlds E S zst_11 dX11_readCoastLine_94 ?_
              obtain ⟨u_7, qu_7, h⟩ := zbn_some h
              refine zciR (zrunVs E S hZ (by decide) (re_0 _) rfl rfl v_X11_isWord kw_1501 (c_X11_isWord l g M 11 (by decide)  qu_7 _) rfl hl.1 rfl (Nat.le_of_ble_eq_true rfl) ⟨by decide, by decide⟩ ⟨by decide, by decide⟩ dX11_readCoastLine_96) hZ (fun H locs hZ => ?_)
              refine zif_eq (tgt := 112) h E dX11_readCoastLine_99 (by decide) (fun c_16 h => ?_) (fun c_16 h => ?_)
              · refine lv_aload_n hx hb dX11_readCoastLine_112 rfl (lv_at hl 0 rfl) ?_
                refine zlds E S zst_12 dX11_readCoastLine_113 ?_
                obtain ⟨u_8, qu_8, h⟩ := zbn_some h
                refine zciR (zrunVs E S hZ (by decide) (re_0 _) rfl rfl v_X11_isWord kw_1501 (c_X11_isWord l g M 12 (by decide)  qu_8 _) rfl hl.1 rfl (Nat.le_of_ble_eq_true rfl) ⟨by decide, by decide⟩ ⟨by decide, by decide⟩ dX11_readCoastLine_115) hZ (fun H locs hZ => ?_)
                refine zif_eq (tgt := 128) h E dX11_readCoastLine_118 (by decide) (fun c_14 h => ?_) (fun c_14 h => ?_)
                · refine lv_aload_n hx hb dX11_readCoastLine_128 rfl (lv_at hl 0 rfl) ?_
                  refine zlds E S zst_15 dX11_readCoastLine_129 ?_
                  obtain ⟨u_9, qu_9, h⟩ := zbn_some h
                  refine zciR (zrunVs E S hZ (by decide) (re_0 _) rfl rfl v_X11_isWord kw_1501 (c_X11_isWord l g M 15 (by decide)  qu_9 _) rfl hl.1 rfl (Nat.le_of_ble_eq_true rfl) ⟨by decide, by decide⟩ ⟨by decide, by decide⟩ dX11_readCoastLine_131) hZ (fun H locs hZ => ?_)
                  refine zif_eq (tgt := 148) h E dX11_readCoastLine_134 (by decide) (fun c_12 h => ?_) (fun c_12 h => ?_)
                  · refine lv_iconst (v := 0) hx hb dX11_readCoastLine_148 (by decide) ?_
                    exact hret _ _ _ _ _ _ (Option.some.inj h).symm rfl hZ dX11_readCoastLine_149
                  · refine lv_aload_n hx hb dX11_readCoastLine_137 rfl (lv_at hl 0 rfl) ?_
                    obtain ⟨u_10, qu_10, h⟩ := zbn_some h
                    refine zciS (zrunVs E S hZ (by decide) (re_0 _) rfl rfl v_X11_readError kw_1597 (c_X11_readError l g M   qu_10 _) rfl hl.1 rfl (Nat.le_of_ble_eq_true rfl) ⟨by decide, by decide⟩ ⟨by decide, by decide⟩ dX11_readCoastLine_138) hZ (fun H locs hZ => ?_)
                    refine zif_eq (tgt := 148) h E dX11_readCoastLine_141 (by decide) (fun c_11 h => ?_) (fun c_11 h => ?_)
                    · refine lv_iconst (v := 0) hx hb dX11_readCoastLine_148 (by decide) ?_
                      exact hret _ _ _ _ _ _ (Option.some.inj h).symm rfl hZ dX11_readCoastLine_149
                    · refine lv_iconst (v := 1) hx hb dX11_readCoastLine_144 (by decide) ?_
                      refine lv_goto (tgt := 149) hx hb dX11_readCoastLine_145 (by decide) ?_
                      exact hret _ _ _ _ _ _ (Option.some.inj h).symm rfl hZ dX11_readCoastLine_149
                · refine lv_aload_n hx hb dX11_readCoastLine_121 rfl (lv_at hl 0 rfl) ?_
                  refine lv_bipush (v := 10) hx hb dX11_readCoastLine_122 (by decide) ?_
                  obtain ⟨u_13, qu_13, h⟩ := zbn_some h
                  refine zciS (zrunVs E S hZ (by decide) (re_0 _) rfl rfl v_X11_readSigned kw_1590 (c_X11_readSigned l g M  10 qu_13 _) rfl hl.1 rfl (Nat.le_of_ble_eq_true rfl) ⟨by decide, by decide⟩ ⟨by decide, by decide⟩ dX11_readCoastLine_124) hZ (fun H locs hZ => ?_)
                  obtain ⟨hbl, h⟩ := zck_some h
                  exact hret _ _ _ _ _ _ (Option.some.inj h).symm (zbl_n hbl) hZ dX11_readCoastLine_127
              · refine lv_aload_n hx hb dX11_readCoastLine_102 rfl (lv_at hl 0 rfl) ?_
                refine lv_bipush (v := 11) hx hb dX11_readCoastLine_103 (by decide) ?_
                refine lv_iconst (v := 0) hx hb dX11_readCoastLine_105 (by decide) ?_
                refine lv_bipush (v := 100) hx hb dX11_readCoastLine_106 (by decide) ?_
                obtain ⟨u_15, qu_15, h⟩ := zbn_some h
                refine zciS (zrunV E hZ (by decide) (re_0 _) rfl rfl v_X11_readNumber kw_1541 (c_X11_readNumber l g M  11 0 100 qu_15 _) rfl hl.1 rfl (Nat.le_of_ble_eq_true rfl) ⟨by decide, by decide⟩ ⟨by decide, by decide⟩ dX11_readCoastLine_108) hZ (fun H locs hZ => ?_)
                obtain ⟨hbl, h⟩ := zck_some h
                exact hret _ _ _ _ _ _ (Option.some.inj h).symm (zbl_n hbl) hZ dX11_readCoastLine_111
            · refine lv_aload_n hx hb dX11_readCoastLine_88 rfl (lv_at hl 0 rfl) ?_
              obtain ⟨u_17, qu_17, h⟩ := zbn_some h
              refine zciS (zrunVs E S hZ (by decide) (re_0 _) rfl rfl v_X11_readDuty kw_1576 (c_X11_readDuty l g M   qu_17 _) rfl hl.1 rfl (Nat.le_of_ble_eq_true rfl) ⟨by decide, by decide⟩ ⟨by decide, by decide⟩ dX11_readCoastLine_89) hZ (fun H locs hZ => ?_)
              obtain ⟨hbl, h⟩ := zck_some h
              exact hret _ _ _ _ _ _ (Option.some.inj h).symm (zbl_n hbl) hZ dX11_readCoastLine_92
          · refine lv_aload_n hx hb dX11_readCoastLine_74 rfl (lv_at hl 0 rfl) ?_
            obtain ⟨u_19, qu_19, h⟩ := zbn_some h
            refine zciS (zrunVs E S hZ (by decide) (re_0 _) rfl rfl v_X11_readMonk kw_1558 (c_X11_readMonk l g M   qu_19 _) rfl hl.1 rfl (Nat.le_of_ble_eq_true rfl) ⟨by decide, by decide⟩ ⟨by decide, by decide⟩ dX11_readCoastLine_75) hZ (fun H locs hZ => ?_)
            obtain ⟨hbl, h⟩ := zck_some h
            exact hret _ _ _ _ _ _ (Option.some.inj h).symm (zbl_n hbl) hZ dX11_readCoastLine_78
        · refine lv_aload_n hx hb dX11_readCoastLine_60 rfl (lv_at hl 0 rfl) ?_
          obtain ⟨u_21, qu_21, h⟩ := zbn_some h
          refine zciS (zrunVs E S hZ (by decide) (re_0 _) rfl rfl v_X11_readRange kw_1548 (c_X11_readRange l g M   qu_21 _) rfl hl.1 rfl (Nat.le_of_ble_eq_true rfl) ⟨by decide, by decide⟩ ⟨by decide, by decide⟩ dX11_readCoastLine_61) hZ (fun H locs hZ => ?_)
          obtain ⟨hbl, h⟩ := zck_some h
          exact hret _ _ _ _ _ _ (Option.some.inj h).symm (zbl_n hbl) hZ dX11_readCoastLine_64
      · refine lv_aload_n hx hb dX11_readCoastLine_41 rfl (lv_at hl 0 rfl) ?_
        refine lv_bipush (v := 6) hx hb dX11_readCoastLine_42 (by decide) ?_
        refine lv_iconst (v := 2) hx hb dX11_readCoastLine_44 (by decide) ?_
        refine lv_bipush (v := 28) hx hb dX11_readCoastLine_45 (by decide) ?_
        obtain ⟨u_23, qu_23, h⟩ := zbn_some h
        refine zciS (zrunV E hZ (by decide) (re_0 _) rfl rfl v_X11_readNumber kw_1541 (c_X11_readNumber l g M  6 2 28 qu_23 _) rfl hl.1 rfl (Nat.le_of_ble_eq_true rfl) ⟨by decide, by decide⟩ ⟨by decide, by decide⟩ dX11_readCoastLine_47) hZ (fun H locs hZ => ?_)
        obtain ⟨hbl, h⟩ := zck_some h
        exact hret _ _ _ _ _ _ (Option.some.inj h).symm (zbl_n hbl) hZ dX11_readCoastLine_50
    · refine lv_aload_n hx hb dX11_readCoastLine_23 rfl (lv_at hl 0 rfl) ?_
      refine lv_iconst (v := 5) hx hb dX11_readCoastLine_24 (by decide) ?_
      refine lv_iconst (v := 4) hx hb dX11_readCoastLine_25 (by decide) ?_
      refine lv_bipush (v := 24) hx hb dX11_readCoastLine_26 (by decide) ?_
      obtain ⟨u_25, qu_25, h⟩ := zbn_some h
      refine zciS (zrunV E hZ (by decide) (re_0 _) rfl rfl v_X11_readNumber kw_1541 (c_X11_readNumber l g M  5 4 24 qu_25 _) rfl hl.1 rfl (Nat.le_of_ble_eq_true rfl) ⟨by decide, by decide⟩ ⟨by decide, by decide⟩ dX11_readCoastLine_28) hZ (fun H locs hZ => ?_)
      obtain ⟨hbl, h⟩ := zck_some h
      exact hret _ _ _ _ _ _ (Option.some.inj h).symm (zbl_n hbl) hZ dX11_readCoastLine_31
  · refine lv_aload_n hx hb dX11_readCoastLine_9 rfl (lv_at hl 0 rfl) ?_
    obtain ⟨u_27, qu_27, h⟩ := zbn_some h
    refine zciS (zrunV E hZ (by decide) (re_0 _) rfl rfl v_X11_readGround kw_1533 (c_X11_readGround l g M   qu_27 _) rfl hl.1 rfl (Nat.le_of_ble_eq_true rfl) ⟨by decide, by decide⟩ ⟨by decide, by decide⟩ dX11_readCoastLine_10) hZ (fun H locs hZ => ?_)
    obtain ⟨hbl, h⟩ := zck_some h
    exact hret _ _ _ _ _ _ (Option.some.inj h).symm (zbl_n hbl) hZ dX11_readCoastLine_13
theorem c_X11_readCoastLine (l : Launch) (g : zG) (M : zM)   {r : Int32 × zM} (h : f_X11_readCoastLine M  = some r) : zMis l g rE 15 yX11_readCoastLine (zWs yX11_readCoastLine cX11_readCoastLine 1 (some .boolean)) 16 [.ref (g.2.2 0)] M (fun v M1 => r = (v, M1)) :=
  zMis_of (by decide +kernel) (Nat.le_of_ble_eq_true rfl) (fun p e s m args below meth c Q ls E S hret hZ hl => w_X11_readCoastLine g  E S hret M  _ _ ls h hZ hl)
theorem v_X11_readCoastLine : zYV yX11_readCoastLine cX11_readCoastLine 1 (some .boolean) 0 := ⟨kw_1499, kw_15, kw_1498, kp_46, by decide +kernel⟩

def b_X11_readPart_120  (M : zM) (x1 : Int32) : Option (Int32 × zM) :=
  if x1 < 0 then (some (0, M)) else (some (1, M))
set_option maxRecDepth 100000 in
set_option maxHeartbeats 4000000 in
theorem lb_X11_readPart_120 (g : zG)  {r : Int32 × zM} (E : zX g p m c cX11_readPart 2 s args (zWs yX11_readPart cX11_readPart 2 (some .boolean)) RX11) (S : zSg g 15 s.heap.size s s.heap) (hret : zRi g rE 15 p l e (zrm 14 0 0) s m args below meth c 0 0 Q cX11_readPart .boolean (fun v M1 => r = (v, M1))) (M : zM) (x1 : Int32)  (H : Heap) (locs : List Loc) (ls : Array Slot) (h : b_X11_readPart_120  M x1 = some r) (hZ : zS g rE 15 s H locs M) (hl : lv_has ls 2 [(1, .int x1)]) : W p l e (zrm 14 0 0) s m args below meth c H locs 0 0 Q (F0 m 120 ls []) := by
  have hx := E.1.1
  have hb := E.1.2.1
  unfold b_X11_readPart_120 at h
  refine lv_iload_n hx hb dX11_readPart_120 rfl (lv_at hl 0 rfl) ?_
  refine zif_lt (tgt := 128) h E dX11_readPart_121 (by decide) (fun c_1 h => ?_) (fun c_1 h => ?_)
  · refine lv_iconst (v := 0) hx hb dX11_readPart_128 (by decide) ?_
    exact hret _ _ _ _ _ _ (Option.some.inj h).symm rfl hZ dX11_readPart_129
  · refine lv_iconst (v := 1) hx hb dX11_readPart_124 (by decide) ?_
    refine lv_goto (tgt := 129) hx hb dX11_readPart_125 (by decide) ?_
    exact hret _ _ _ _ _ _ (Option.some.inj h).symm rfl hZ dX11_readPart_129
def b_X11_readPart_113  (M : zM) (t0 : Int32) : Option (Int32 × zM) :=
  zbn (f_X11_emits M t0 0) (fun u_2 => b_X11_readPart_120  u_2 t0)
set_option maxRecDepth 100000 in
set_option maxHeartbeats 4000000 in
theorem lb_X11_readPart_113 (g : zG)  {r : Int32 × zM} (E : zX g p m c cX11_readPart 2 s args (zWs yX11_readPart cX11_readPart 2 (some .boolean)) RX11) (S : zSg g 15 s.heap.size s s.heap) (hret : zRi g rE 15 p l e (zrm 14 0 0) s m args below meth c 0 0 Q cX11_readPart .boolean (fun v M1 => r = (v, M1))) (M : zM) (t0 : Int32)  (H : Heap) (locs : List Loc) (ls : Array Slot) (h : b_X11_readPart_113  M t0 = some r) (hZ : zS g rE 15 s H locs M) (hl : lv_has ls 2 [(0, .ref (g.2.2 0))]) : W p l e (zrm 14 0 0) s m args below meth c H locs 0 0 Q (F0 m 113 ls [.int t0]) := by
  have hx := E.1.1
  have hb := E.1.2.1
  unfold b_X11_readPart_113 at h
  refine lv_istore_n (lv' := [(1, .int t0), (0, .ref (g.2.2 0))]) hx hb dX11_readPart_113 rfl hl (by decide) rfl (fun ls hl => ?_)
  refine lv_aload_n hx hb dX11_readPart_114 rfl (lv_at hl 1 rfl) ?_
  refine lv_iload_n hx hb dX11_readPart_115 rfl (lv_at hl 0 rfl) ?_
  refine lv_iconst (v := 0) hx hb dX11_readPart_116 (by decide) ?_
  obtain ⟨u_2, qu_2, h⟩ := zbn_some h
  refine zcvS (zrunV E hZ (by decide) (re_0 _) rfl rfl v_X11_emits kw_1626 (c_X11_emits l g M  t0 0 qu_2 _) rfl hl.1 rfl (Nat.le_of_ble_eq_true rfl) ⟨by decide, by decide⟩ ⟨by decide, by decide⟩ dX11_readPart_117) hZ (fun H locs hZ => ?_)
  exact lb_X11_readPart_120 g  E S hret u_2 t0  H locs ls h hZ (lv_sub hl [0] rfl)
def f_X11_readPart (M : zM)  : Option (Int32 × zM) :=
  zbn (f_X11_letters M ) (fun u_3 => if (u_3 0 10) = (u_3 0 12) then (zbn (f_X11_number u_3 0 999) (fun u_16 => zbn (f_X11_emits u_16.2 8 u_16.1) (fun u_17 => b_X11_readPart_120  u_17 u_16.1))) else (zbn (f_X11_isWord u_3 6) (fun u_4 => if u_4 = 0 then (zbn (f_X11_isWord u_3 23) (fun u_5 => if u_5 = 0 then (zbn (f_X11_isWord u_3 24) (fun u_6 => if u_6 = 0 then (zbn (f_X11_isWord u_3 25) (fun u_7 => if u_7 = 0 then (zbn (f_X11_isWord u_3 26) (fun u_8 => if u_8 = 0 then (zbn (f_X11_isWord u_3 27) (fun u_9 => if u_9 = 0 then (b_X11_readPart_113  u_3 ((-1))) else (b_X11_readPart_113  u_3 5))) else (b_X11_readPart_113  u_3 4))) else (b_X11_readPart_113  u_3 3))) else (b_X11_readPart_113  u_3 2))) else (b_X11_readPart_113  u_3 1))) else (b_X11_readPart_113  u_3 0))))
set_option maxRecDepth 100000 in
set_option maxHeartbeats 4000000 in
theorem w_X11_readPart (g : zG)  {r : Int32 × zM} (E : zX g p m c cX11_readPart 2 s args (zWs yX11_readPart cX11_readPart 2 (some .boolean)) RX11) (S : zSg g 15 s.heap.size s s.heap) (hret : zRi g rE 15 p l e (zrm 14 0 0) s m args below meth c 0 0 Q cX11_readPart .boolean (fun v M1 => r = (v, M1))) (M : zM)  (H : Heap) (locs : List Loc) (ls : Array Slot) (h : f_X11_readPart M  = some r) (hZ : zS g rE 15 s H locs M) (hl : lv_has ls 2 [(0, .ref (g.2.2 0))]) : W p l e (zrm 14 0 0) s m args below meth c H locs 0 0 Q (F0 m 0 ls []) := by
  have hx := E.1.1
  have hb := E.1.2.1
  unfold f_X11_readPart at h
  refine lv_aload_n hx hb dX11_readPart_0 rfl (lv_at hl 0 rfl) ?_
  obtain ⟨u_3, qu_3, h⟩ := zbn_some h
  refine zcvS (zrunV E hZ (by decide) (re_0 _) rfl rfl v_X11_letters kw_1492 (c_X11_letters l g M   qu_3 _) rfl hl.1 rfl (Nat.le_of_ble_eq_true rfl) ⟨by decide, by decide⟩ ⟨by decide, by decide⟩ dX11_readPart_1) hZ (fun H locs hZ => ?_)
  refine lv_aload_n hx hb dX11_readPart_4 rfl (lv_at hl 0 rfl) ?_
  refine zg (v := .int (u_3 0 10)) E hZ (by decide) (re_0 _) kc_X11 10 (by decide) kw_1378 rfl rfl dX11_readPart_5 ?_
  refine lv_aload_n hx hb dX11_readPart_8 rfl (lv_at hl 0 rfl) ?_
  refine zg (v := .int (u_3 0 12)) E hZ (by decide) (re_0 _) kc_X11 12 (by decide) kw_1380 rfl rfl dX11_readPart_9 ?_
  refine zic_ne (tgt := 34) h E dX11_readPart_12 (by decide) (fun c_18 h => ?_) (fun c_18 h => ?_)
  · refine lv_aload_n hx hb dX11_readPart_34 rfl (lv_at hl 0 rfl) ?_
    refine zlds E S zst_6 dX11_readPart_35 ?_
    obtain ⟨u_4, qu_4, h⟩ := zbn_some h
    refine zciR (zrunVs E S hZ (by decide) (re_0 _) rfl rfl v_X11_isWord kw_1501 (c_X11_isWord l g u_3 6 (by decide)  qu_4 _) rfl hl.1 rfl (Nat.le_of_ble_eq_true rfl) ⟨by decide, by decide⟩ ⟨by decide, by decide⟩ dX11_readPart_37) hZ (fun H locs hZ => ?_)
    refine zif_eq (tgt := 47) h E dX11_readPart_40 (by decide) (fun c_15 h => ?_) (fun c_15 h => ?_)
    · refine lv_aload_n hx hb dX11_readPart_47 rfl (lv_at hl 0 rfl) ?_
      refine zlds E S zst_23 dX11_readPart_48 ?_
      obtain ⟨u_5, qu_5, h⟩ := zbn_some h
      refine zciR (zrunVs E S hZ (by decide) (re_0 _) rfl rfl v_X11_isWord kw_1501 (c_X11_isWord l g u_3 23 (by decide)  qu_5 _) rfl hl.1 rfl (Nat.le_of_ble_eq_true rfl) ⟨by decide, by decide⟩ ⟨by decide, by decide⟩ dX11_readPart_50) hZ (fun H locs hZ => ?_)
      refine zif_eq (tgt := 60) h E dX11_readPart_53 (by decide) (fun c_14 h => ?_) (fun c_14 h => ?_)
      · refine lv_aload_n hx hb dX11_readPart_60 rfl (lv_at hl 0 rfl) ?_
        refine zlds E S zst_24 dX11_readPart_61 ?_
        obtain ⟨u_6, qu_6, h⟩ := zbn_some h
        refine zciR (zrunVs E S hZ (by decide) (re_0 _) rfl rfl v_X11_isWord kw_1501 (c_X11_isWord l g u_3 24 (by decide)  qu_6 _) rfl hl.1 rfl (Nat.le_of_ble_eq_true rfl) ⟨by decide, by decide⟩ ⟨by decide, by decide⟩ dX11_readPart_63) hZ (fun H locs hZ => ?_)
        refine zif_eq (tgt := 73) h E dX11_readPart_66 (by decide) (fun c_13 h => ?_) (fun c_13 h => ?_)
        · refine lv_aload_n hx hb dX11_readPart_73 rfl (lv_at hl 0 rfl) ?_
          refine zlds E S zst_25 dX11_readPart_74 ?_
          obtain ⟨u_7, qu_7, h⟩ := zbn_some h
          refine zciR (zrunVs E S hZ (by decide) (re_0 _) rfl rfl v_X11_isWord kw_1501 (c_X11_isWord l g u_3 25 (by decide)  qu_7 _) rfl hl.1 rfl (Nat.le_of_ble_eq_true rfl) ⟨by decide, by decide⟩ ⟨by decide, by decide⟩ dX11_readPart_76) hZ (fun H locs hZ => ?_)
          refine zif_eq (tgt := 86) h E dX11_readPart_79 (by decide) (fun c_12 h => ?_) (fun c_12 h => ?_)
          · refine lv_aload_n hx hb dX11_readPart_86 rfl (lv_at hl 0 rfl) ?_
            refine zlds E S zst_26 dX11_readPart_87 ?_
            obtain ⟨u_8, qu_8, h⟩ := zbn_some h
            refine zciR (zrunVs E S hZ (by decide) (re_0 _) rfl rfl v_X11_isWord kw_1501 (c_X11_isWord l g u_3 26 (by decide)  qu_8 _) rfl hl.1 rfl (Nat.le_of_ble_eq_true rfl) ⟨by decide, by decide⟩ ⟨by decide, by decide⟩ dX11_readPart_89) hZ (fun H locs hZ => ?_)
            refine zif_eq (tgt := 99) h E dX11_readPart_92 (by decide) (fun c_11 h => ?_) (fun c_11 h => ?_)
            · refine lv_aload_n hx hb dX11_readPart_99 rfl (lv_at hl 0 rfl) ?_
              refine zlds E S zst_27 dX11_readPart_100 ?_
              obtain ⟨u_9, qu_9, h⟩ := zbn_some h
              refine zciR (zrunVs E S hZ (by decide) (re_0 _) rfl rfl v_X11_isWord kw_1501 (c_X11_isWord l g u_3 27 (by decide)  qu_9 _) rfl hl.1 rfl (Nat.le_of_ble_eq_true rfl) ⟨by decide, by decide⟩ ⟨by decide, by decide⟩ dX11_readPart_102) hZ (fun H locs hZ => ?_)
              refine zif_eq (tgt := 112) h E dX11_readPart_105 (by decide) (fun c_10 h => ?_) (fun c_10 h => ?_)
              · refine lv_iconst (v := (-1)) hx hb dX11_readPart_112 (by decide) ?_
                exact lb_X11_readPart_113 g  E S hret u_3 ((-1))  H locs ls h hZ (lv_sub hl [0] rfl)
              · refine lv_iconst (v := 5) hx hb dX11_readPart_108 (by decide) ?_
                refine lv_goto (tgt := 113) hx hb dX11_readPart_109 (by decide) ?_
                exact lb_X11_readPart_113 g  E S hret u_3 5  H locs ls h hZ (lv_sub hl [0] rfl)
            · refine lv_iconst (v := 4) hx hb dX11_readPart_95 (by decide) ?_
              refine lv_goto (tgt := 113) hx hb dX11_readPart_96 (by decide) ?_
              exact lb_X11_readPart_113 g  E S hret u_3 4  H locs ls h hZ (lv_sub hl [0] rfl)
          · refine lv_iconst (v := 3) hx hb dX11_readPart_82 (by decide) ?_
            refine lv_goto (tgt := 113) hx hb dX11_readPart_83 (by decide) ?_
            exact lb_X11_readPart_113 g  E S hret u_3 3  H locs ls h hZ (lv_sub hl [0] rfl)
        · refine lv_iconst (v := 2) hx hb dX11_readPart_69 (by decide) ?_
          refine lv_goto (tgt := 113) hx hb dX11_readPart_70 (by decide) ?_
          exact lb_X11_readPart_113 g  E S hret u_3 2  H locs ls h hZ (lv_sub hl [0] rfl)
      · refine lv_iconst (v := 1) hx hb dX11_readPart_56 (by decide) ?_
        refine lv_goto (tgt := 113) hx hb dX11_readPart_57 (by decide) ?_
        exact lb_X11_readPart_113 g  E S hret u_3 1  H locs ls h hZ (lv_sub hl [0] rfl)
    · refine lv_iconst (v := 0) hx hb dX11_readPart_43 (by decide) ?_
      refine lv_goto (tgt := 113) hx hb dX11_readPart_44 (by decide) ?_
      exact lb_X11_readPart_113 g  E S hret u_3 0  H locs ls h hZ (lv_sub hl [0] rfl)
  · refine lv_aload_n hx hb dX11_readPart_15 rfl (lv_at hl 0 rfl) ?_
    refine lv_iconst (v := 0) hx hb dX11_readPart_16 (by decide) ?_
    refine lv_sipush (v := 999) hx hb dX11_readPart_17 (by decide) ?_
    obtain ⟨u_16, qu_16, h⟩ := zbn_some h
    refine zciS (zrunV E hZ (by decide) (re_0 _) rfl rfl v_X11_number kw_1537 (c_X11_number l g u_3  0 999 qu_16 _) rfl hl.1 rfl (Nat.le_of_ble_eq_true rfl) ⟨by decide, by decide⟩ ⟨by decide, by decide⟩ dX11_readPart_20) hZ (fun H locs hZ => ?_)
    refine lv_istore_n (lv' := [(1, .int u_16.1), (0, .ref (g.2.2 0))]) hx hb dX11_readPart_23 rfl hl (by decide) rfl (fun ls hl => ?_)
    refine lv_aload_n hx hb dX11_readPart_24 rfl (lv_at hl 1 rfl) ?_
    refine lv_bipush (v := 8) hx hb dX11_readPart_25 (by decide) ?_
    refine lv_iload_n hx hb dX11_readPart_27 rfl (lv_at hl 0 rfl) ?_
    obtain ⟨u_17, qu_17, h⟩ := zbn_some h
    refine zcvS (zrunV E hZ (by decide) (re_0 _) rfl rfl v_X11_emits kw_1626 (c_X11_emits l g u_16.2  8 u_16.1 qu_17 _) rfl hl.1 rfl (Nat.le_of_ble_eq_true rfl) ⟨by decide, by decide⟩ ⟨by decide, by decide⟩ dX11_readPart_28) hZ (fun H locs hZ => ?_)
    refine lv_goto (tgt := 120) hx hb dX11_readPart_31 (by decide) ?_
    exact lb_X11_readPart_120 g  E S hret u_17 u_16.1  H locs ls h hZ (lv_sub hl [0] rfl)
theorem c_X11_readPart (l : Launch) (g : zG) (M : zM)   {r : Int32 × zM} (h : f_X11_readPart M  = some r) : zMis l g rE 15 yX11_readPart (zWs yX11_readPart cX11_readPart 2 (some .boolean)) 14 [.ref (g.2.2 0)] M (fun v M1 => r = (v, M1)) :=
  zMis_of (by decide +kernel) (Nat.le_of_ble_eq_true rfl) (fun p e s m args below meth c Q ls E S hret hZ hl => w_X11_readPart g  E S hret M  _ _ ls h hZ hl)
theorem v_X11_readPart : zYV yX11_readPart cX11_readPart 2 (some .boolean) 0 := ⟨kw_1643, kw_15, kw_1642, kp_68, by decide +kernel⟩

def b_X11_readSum_9   : Nat → zM → Option (Int32 × zM)
  | 0, _ => none
  | n + 1, M =>
    zbn (f_X11_sign M 43) (fun u_1 => if u_1.1 = 0 then (some (1, u_1.2)) else (zbn (f_X11_readPart u_1.2 ) (fun u_2 => if u_2.1 = 0 then (some (0, u_2.2)) else (zbn (f_X11_emits u_2.2 9 0) (fun u_3 => b_X11_readSum_9   n u_3)))))
set_option maxRecDepth 100000 in
set_option maxHeartbeats 4000000 in
theorem lb_X11_readSum_9 (g : zG)  {r : Int32 × zM} (E : zX g p m c cX11_readSum 1 s args (zWs yX11_readSum cX11_readSum 1 (some .boolean)) RX11) (S : zSg g 15 s.heap.size s s.heap) (hret : zRi g rE 15 p l e (zrm 15 0 0) s m args below meth c 0 0 Q cX11_readSum .boolean (fun v M1 => r = (v, M1)))   : ∀ (n : Nat) (M : zM) (H : Heap) (locs : List Loc) (ls : Array Slot), b_X11_readSum_9   n M = some r → zS g rE 15 s H locs M → lv_has ls 1 [(0, .ref (g.2.2 0))] → W p l e (zrm 15 0 0) s m args below meth c H locs 0 0 Q (F0 m 9 ls []) := by
  have hx := E.1.1
  have hb := E.1.2.1
  intro n
  induction n with
  | zero => intro M H locs ls h hZ hl; cases h
  | succ n ih =>
    intro M H locs ls h hZ hl
    rw [b_X11_readSum_9] at h
    refine lv_aload_n hx hb dX11_readSum_9 rfl (lv_at hl 0 rfl) ?_
    refine lv_bipush (v := 43) hx hb dX11_readSum_10 (by decide) ?_
    obtain ⟨u_1, qu_1, h⟩ := zbn_some h
    refine zciS (zrunV E hZ (by decide) (re_0 _) rfl rfl v_X11_sign kw_1621 (c_X11_sign l g M  43 qu_1 _) rfl hl.1 rfl (Nat.le_of_ble_eq_true rfl) ⟨by decide, by decide⟩ ⟨by decide, by decide⟩ dX11_readSum_12) hZ (fun H locs hZ => ?_)
    refine zif_eq (tgt := 37) h E dX11_readSum_15 (by decide) (fun c_5 h => ?_) (fun c_5 h => ?_)
    · refine lv_iconst (v := 1) hx hb dX11_readSum_37 (by decide) ?_
      exact hret _ _ _ _ _ _ (Option.some.inj h).symm rfl hZ dX11_readSum_38
    · refine lv_aload_n hx hb dX11_readSum_18 rfl (lv_at hl 0 rfl) ?_
      obtain ⟨u_2, qu_2, h⟩ := zbn_some h
      refine zciS (zrunVs E S hZ (by decide) (re_0 _) rfl rfl v_X11_readPart kw_1640 (c_X11_readPart l g u_1.2   qu_2 _) rfl hl.1 rfl (Nat.le_of_ble_eq_true rfl) ⟨by decide, by decide⟩ ⟨by decide, by decide⟩ dX11_readSum_19) hZ (fun H locs hZ => ?_)
      refine zif_ne (tgt := 27) h E dX11_readSum_22 (by decide) (fun c_4 h => ?_) (fun c_4 h => ?_)
      · refine lv_aload_n hx hb dX11_readSum_27 rfl (lv_at hl 0 rfl) ?_
        refine lv_bipush (v := 9) hx hb dX11_readSum_28 (by decide) ?_
        refine lv_iconst (v := 0) hx hb dX11_readSum_30 (by decide) ?_
        obtain ⟨u_3, qu_3, h⟩ := zbn_some h
        refine zcvS (zrunV E hZ (by decide) (re_0 _) rfl rfl v_X11_emits kw_1626 (c_X11_emits l g u_2.2  9 0 qu_3 _) rfl hl.1 rfl (Nat.le_of_ble_eq_true rfl) ⟨by decide, by decide⟩ ⟨by decide, by decide⟩ dX11_readSum_31) hZ (fun H locs hZ => ?_)
        refine lv_goto (tgt := 9) hx hb dX11_readSum_34 (by decide) ?_
        exact ih u_3 H locs ls h hZ (lv_sub hl [0] rfl)
      · refine lv_iconst (v := 0) hx hb dX11_readSum_25 (by decide) ?_
        exact hret _ _ _ _ _ _ (Option.some.inj h).symm rfl hZ dX11_readSum_26
def f_X11_readSum (M : zM)  : Option (Int32 × zM) :=
  zbn (f_X11_readPart M ) (fun u_6 => if u_6.1 = 0 then (some (0, u_6.2)) else (b_X11_readSum_9   6000 u_6.2))
set_option maxRecDepth 100000 in
set_option maxHeartbeats 4000000 in
theorem w_X11_readSum (g : zG)  {r : Int32 × zM} (E : zX g p m c cX11_readSum 1 s args (zWs yX11_readSum cX11_readSum 1 (some .boolean)) RX11) (S : zSg g 15 s.heap.size s s.heap) (hret : zRi g rE 15 p l e (zrm 15 0 0) s m args below meth c 0 0 Q cX11_readSum .boolean (fun v M1 => r = (v, M1))) (M : zM)  (H : Heap) (locs : List Loc) (ls : Array Slot) (h : f_X11_readSum M  = some r) (hZ : zS g rE 15 s H locs M) (hl : lv_has ls 1 [(0, .ref (g.2.2 0))]) : W p l e (zrm 15 0 0) s m args below meth c H locs 0 0 Q (F0 m 0 ls []) := by
  have hx := E.1.1
  have hb := E.1.2.1
  unfold f_X11_readSum at h
  refine lv_aload_n hx hb dX11_readSum_0 rfl (lv_at hl 0 rfl) ?_
  obtain ⟨u_6, qu_6, h⟩ := zbn_some h
  refine zciS (zrunVs E S hZ (by decide) (re_0 _) rfl rfl v_X11_readPart kw_1640 (c_X11_readPart l g M   qu_6 _) rfl hl.1 rfl (Nat.le_of_ble_eq_true rfl) ⟨by decide, by decide⟩ ⟨by decide, by decide⟩ dX11_readSum_1) hZ (fun H locs hZ => ?_)
  refine zif_ne (tgt := 9) h E dX11_readSum_4 (by decide) (fun c_7 h => ?_) (fun c_7 h => ?_)
  · exact lb_X11_readSum_9 g  E S hret   6000 u_6.2 H locs ls h hZ (lv_sub hl [0] rfl)
  · refine lv_iconst (v := 0) hx hb dX11_readSum_7 (by decide) ?_
    exact hret _ _ _ _ _ _ (Option.some.inj h).symm rfl hZ dX11_readSum_8
theorem c_X11_readSum (l : Launch) (g : zG) (M : zM)   {r : Int32 × zM} (h : f_X11_readSum M  = some r) : zMis l g rE 15 yX11_readSum (zWs yX11_readSum cX11_readSum 1 (some .boolean)) 15 [.ref (g.2.2 0)] M (fun v M1 => r = (v, M1)) :=
  zMis_of (by decide +kernel) (Nat.le_of_ble_eq_true rfl) (fun p e s m args below meth c Q ls E S hret hZ hl => w_X11_readSum g  E S hret M  _ _ ls h hZ hl)
theorem v_X11_readSum : zYV yX11_readSum cX11_readSum 1 (some .boolean) 0 := ⟨kw_1639, kw_15, kw_1638, kp_67, by decide +kernel⟩

def b_X11_readTag_55  (M : zM) (x1 : Int32) : Option (Int32 × zM) :=
  if x1 < 0 then (some (0, M)) else (some (1, M))
set_option maxRecDepth 100000 in
set_option maxHeartbeats 4000000 in
theorem lb_X11_readTag_55 (g : zG)  {r : Int32 × zM} (E : zX g p m c cX11_readTag 2 s args (zWs yX11_readTag cX11_readTag 2 (some .boolean)) RX11) (S : zSg g 15 s.heap.size s s.heap) (hret : zRi g rE 15 p l e (zrm 14 0 0) s m args below meth c 0 0 Q cX11_readTag .boolean (fun v M1 => r = (v, M1))) (M : zM) (x1 : Int32)  (H : Heap) (locs : List Loc) (ls : Array Slot) (h : b_X11_readTag_55  M x1 = some r) (hZ : zS g rE 15 s H locs M) (hl : lv_has ls 2 [(1, .int x1)]) : W p l e (zrm 14 0 0) s m args below meth c H locs 0 0 Q (F0 m 55 ls []) := by
  have hx := E.1.1
  have hb := E.1.2.1
  unfold b_X11_readTag_55 at h
  refine lv_iload_n hx hb dX11_readTag_55 rfl (lv_at hl 0 rfl) ?_
  refine zif_lt (tgt := 63) h E dX11_readTag_56 (by decide) (fun c_1 h => ?_) (fun c_1 h => ?_)
  · refine lv_iconst (v := 0) hx hb dX11_readTag_63 (by decide) ?_
    exact hret _ _ _ _ _ _ (Option.some.inj h).symm rfl hZ dX11_readTag_64
  · refine lv_iconst (v := 1) hx hb dX11_readTag_59 (by decide) ?_
    refine lv_goto (tgt := 64) hx hb dX11_readTag_60 (by decide) ?_
    exact hret _ _ _ _ _ _ (Option.some.inj h).symm rfl hZ dX11_readTag_64
def b_X11_readTag_33  (M : zM) (t0 : Int32) : Option (Int32 × zM) :=
  if t0 < 0 then (znm (zu M 0 10 (M 0 12)) (fun M_2 => b_X11_readTag_55  M_2 t0)) else (zbn (f_X11_emits M t0 0) (fun u_3 => b_X11_readTag_55  u_3 t0))
set_option maxRecDepth 100000 in
set_option maxHeartbeats 4000000 in
theorem lb_X11_readTag_33 (g : zG)  {r : Int32 × zM} (E : zX g p m c cX11_readTag 2 s args (zWs yX11_readTag cX11_readTag 2 (some .boolean)) RX11) (S : zSg g 15 s.heap.size s s.heap) (hret : zRi g rE 15 p l e (zrm 14 0 0) s m args below meth c 0 0 Q cX11_readTag .boolean (fun v M1 => r = (v, M1))) (M : zM) (t0 : Int32)  (H : Heap) (locs : List Loc) (ls : Array Slot) (h : b_X11_readTag_33  M t0 = some r) (hZ : zS g rE 15 s H locs M) (hl : lv_has ls 2 [(0, .ref (g.2.2 0))]) : W p l e (zrm 14 0 0) s m args below meth c H locs 0 0 Q (F0 m 33 ls [.int t0]) := by
  have hx := E.1.1
  have hb := E.1.2.1
  unfold b_X11_readTag_33 at h
  refine lv_istore_n (lv' := [(1, .int t0), (0, .ref (g.2.2 0))]) hx hb dX11_readTag_33 rfl hl (by decide) rfl (fun ls hl => ?_)
  refine lv_iload_n hx hb dX11_readTag_34 rfl (lv_at hl 0 rfl) ?_
  refine zif_lt (tgt := 47) h E dX11_readTag_35 (by decide) (fun c_4 h => ?_) (fun c_4 h => ?_)
  · refine lv_aload_n hx hb dX11_readTag_47 rfl (lv_at hl 1 rfl) ?_
    refine lv_aload_n hx hb dX11_readTag_48 rfl (lv_at hl 1 rfl) ?_
    refine zg (v := .int (M 0 12)) E hZ (by decide) (re_0 _) kc_X11 12 (by decide) kw_1380 rfl rfl dX11_readTag_49 ?_
    refine zp h E hZ (by decide) (re_0 _) ((re_0 _).trans (congrArg (fun z => Sum.inr (10, z)) (fs_X11_10 g _ _ _))) kc_X11 (by decide) kw_1378 rfl rfl rfl (Nat.le_of_ble_eq_true rfl) dX11_readTag_52 (fun M_2 H locs eM_2 h hZ => ?_)
    exact lb_X11_readTag_55 g  E S hret M_2 t0  H locs ls h hZ (lv_sub hl [0] rfl)
  · refine lv_aload_n hx hb dX11_readTag_38 rfl (lv_at hl 1 rfl) ?_
    refine lv_iload_n hx hb dX11_readTag_39 rfl (lv_at hl 0 rfl) ?_
    refine lv_iconst (v := 0) hx hb dX11_readTag_40 (by decide) ?_
    obtain ⟨u_3, qu_3, h⟩ := zbn_some h
    refine zcvS (zrunV E hZ (by decide) (re_0 _) rfl rfl v_X11_emits kw_1626 (c_X11_emits l g M  t0 0 qu_3 _) rfl hl.1 rfl (Nat.le_of_ble_eq_true rfl) ⟨by decide, by decide⟩ ⟨by decide, by decide⟩ dX11_readTag_41) hZ (fun H locs hZ => ?_)
    refine lv_goto (tgt := 55) hx hb dX11_readTag_44 (by decide) ?_
    exact lb_X11_readTag_55 g  E S hret u_3 t0  H locs ls h hZ (lv_sub hl [0] rfl)
def f_X11_readTag (M : zM)  : Option (Int32 × zM) :=
  zbn (f_X11_letters M ) (fun u_5 => zbn (f_X11_isWord u_5 21) (fun u_6 => if u_6 = 0 then (zbn (f_X11_isWord u_5 22) (fun u_7 => if u_7 = 0 then (b_X11_readTag_33  u_5 ((-1))) else (b_X11_readTag_33  u_5 7))) else (b_X11_readTag_33  u_5 6)))
set_option maxRecDepth 100000 in
set_option maxHeartbeats 4000000 in
theorem w_X11_readTag (g : zG)  {r : Int32 × zM} (E : zX g p m c cX11_readTag 2 s args (zWs yX11_readTag cX11_readTag 2 (some .boolean)) RX11) (S : zSg g 15 s.heap.size s s.heap) (hret : zRi g rE 15 p l e (zrm 14 0 0) s m args below meth c 0 0 Q cX11_readTag .boolean (fun v M1 => r = (v, M1))) (M : zM)  (H : Heap) (locs : List Loc) (ls : Array Slot) (h : f_X11_readTag M  = some r) (hZ : zS g rE 15 s H locs M) (hl : lv_has ls 2 [(0, .ref (g.2.2 0))]) : W p l e (zrm 14 0 0) s m args below meth c H locs 0 0 Q (F0 m 0 ls []) := by
  have hx := E.1.1
  have hb := E.1.2.1
  unfold f_X11_readTag at h
  refine lv_aload_n hx hb dX11_readTag_0 rfl (lv_at hl 0 rfl) ?_
  obtain ⟨u_5, qu_5, h⟩ := zbn_some h
  refine zcvS (zrunV E hZ (by decide) (re_0 _) rfl rfl v_X11_letters kw_1492 (c_X11_letters l g M   qu_5 _) rfl hl.1 rfl (Nat.le_of_ble_eq_true rfl) ⟨by decide, by decide⟩ ⟨by decide, by decide⟩ dX11_readTag_1) hZ (fun H locs hZ => ?_)
  refine lv_aload_n hx hb dX11_readTag_4 rfl (lv_at hl 0 rfl) ?_
  refine zlds E S zst_21 dX11_readTag_5 ?_
  obtain ⟨u_6, qu_6, h⟩ := zbn_some h
  refine zciR (zrunVs E S hZ (by decide) (re_0 _) rfl rfl v_X11_isWord kw_1501 (c_X11_isWord l g u_5 21 (by decide)  qu_6 _) rfl hl.1 rfl (Nat.le_of_ble_eq_true rfl) ⟨by decide, by decide⟩ ⟨by decide, by decide⟩ dX11_readTag_7) hZ (fun H locs hZ => ?_)
  refine zif_eq (tgt := 18) h E dX11_readTag_10 (by decide) (fun c_9 h => ?_) (fun c_9 h => ?_)
  · refine lv_aload_n hx hb dX11_readTag_18 rfl (lv_at hl 0 rfl) ?_
    refine zlds E S zst_22 dX11_readTag_19 ?_
    obtain ⟨u_7, qu_7, h⟩ := zbn_some h
    refine zciR (zrunVs E S hZ (by decide) (re_0 _) rfl rfl v_X11_isWord kw_1501 (c_X11_isWord l g u_5 22 (by decide)  qu_7 _) rfl hl.1 rfl (Nat.le_of_ble_eq_true rfl) ⟨by decide, by decide⟩ ⟨by decide, by decide⟩ dX11_readTag_21) hZ (fun H locs hZ => ?_)
    refine zif_eq (tgt := 32) h E dX11_readTag_24 (by decide) (fun c_8 h => ?_) (fun c_8 h => ?_)
    · refine lv_iconst (v := (-1)) hx hb dX11_readTag_32 (by decide) ?_
      exact lb_X11_readTag_33 g  E S hret u_5 ((-1))  H locs ls h hZ (lv_sub hl [0] rfl)
    · refine lv_bipush (v := 7) hx hb dX11_readTag_27 (by decide) ?_
      refine lv_goto (tgt := 33) hx hb dX11_readTag_29 (by decide) ?_
      exact lb_X11_readTag_33 g  E S hret u_5 7  H locs ls h hZ (lv_sub hl [0] rfl)
  · refine lv_bipush (v := 6) hx hb dX11_readTag_13 (by decide) ?_
    refine lv_goto (tgt := 33) hx hb dX11_readTag_15 (by decide) ?_
    exact lb_X11_readTag_33 g  E S hret u_5 6  H locs ls h hZ (lv_sub hl [0] rfl)
theorem c_X11_readTag (l : Launch) (g : zG) (M : zM)   {r : Int32 × zM} (h : f_X11_readTag M  = some r) : zMis l g rE 15 yX11_readTag (zWs yX11_readTag cX11_readTag 2 (some .boolean)) 14 [.ref (g.2.2 0)] M (fun v M1 => r = (v, M1)) :=
  zMis_of (by decide +kernel) (Nat.le_of_ble_eq_true rfl) (fun p e s m args below meth c Q ls E S hret hZ hl => w_X11_readTag g  E S hret M  _ _ ls h hZ hl)
theorem v_X11_readTag : zYV yX11_readTag cX11_readTag 2 (some .boolean) 0 := ⟨kw_1633, kw_15, kw_1632, kp_66, by decide +kernel⟩

theorem v_X11_readAtom : zYV yX11_readAtom cX11_readAtom 2 (some .boolean) 0 := ⟨kw_1620, kw_15, kw_1619, kp_63, by decide +kernel⟩
theorem v_X11_readAllOf : zYV yX11_readAllOf cX11_readAllOf 1 (some .boolean) 0 := ⟨kw_1616, kw_15, kw_1615, kp_62, by decide +kernel⟩
theorem v_X11_readCond : zYV yX11_readCond cX11_readCond 1 (some .boolean) 0 := ⟨kw_1612, kw_15, kw_1611, kp_61, by decide +kernel⟩
def b_X11_readAtom_173 (R_X11_readAtom : zM → Option (Int32 × zM)) (R_X11_readAllOf : zM → Option (Int32 × zM)) (R_X11_readCond : zM → Option (Int32 × zM))  (M : zM) (t0 : Int32) : Option (Int32 × zM) :=
  zbn (f_X11_emits M t0 0) (fun u_1 => some (1, u_1))
set_option maxRecDepth 100000 in
set_option maxHeartbeats 4000000 in
theorem lb_X11_readAtom_173 (g : zG) (dn : Nat) (R_X11_readAtom : zM → Option (Int32 × zM)) (R_X11_readAllOf : zM → Option (Int32 × zM)) (R_X11_readCond : zM → Option (Int32 × zM)) (hR_X11_readAtom : ∀ (M : zM)   (r : Int32 × zM), R_X11_readAtom M  = some r → zMis l g rE 15 yX11_readAtom (zWs yX11_readAtom cX11_readAtom 2 (some .boolean)) dn [.ref (g.2.2 0)] M (fun v M1 => r = (v, M1))) (hR_X11_readAllOf : ∀ (M : zM)   (r : Int32 × zM), R_X11_readAllOf M  = some r → zMis l g rE 15 yX11_readAllOf (zWs yX11_readAllOf cX11_readAllOf 1 (some .boolean)) dn [.ref (g.2.2 0)] M (fun v M1 => r = (v, M1))) (hR_X11_readCond : ∀ (M : zM)   (r : Int32 × zM), R_X11_readCond M  = some r → zMis l g rE 15 yX11_readCond (zWs yX11_readCond cX11_readCond 1 (some .boolean)) dn [.ref (g.2.2 0)] M (fun v M1 => r = (v, M1)))  {r : Int32 × zM} (E : zX g p m c cX11_readAtom 2 s args (zWs yX11_readAtom cX11_readAtom 2 (some .boolean)) RX11) (S : zSg g 15 s.heap.size s s.heap) (hret : zRi g rE 15 p l e (zrm (dn + 16) 0 0) s m args below meth c 0 0 Q cX11_readAtom .boolean (fun v M1 => r = (v, M1))) (M : zM) (t0 : Int32)  (H : Heap) (locs : List Loc) (ls : Array Slot) (h : b_X11_readAtom_173 R_X11_readAtom R_X11_readAllOf R_X11_readCond  M t0 = some r) (hZ : zS g rE 15 s H locs M) (hl : lv_has ls 2 []) : W p l e (zrm (dn + 16) 0 0) s m args below meth c H locs 0 0 Q (F0 m 173 ls [.int t0, .ref (g.2.2 0)]) := by
  have hx := E.1.1
  have hb := E.1.2.1
  unfold b_X11_readAtom_173 at h
  refine lv_iconst (v := 0) hx hb dX11_readAtom_173 (by decide) ?_
  obtain ⟨u_1, qu_1, h⟩ := zbn_some h
  refine zcvS (zrunV E hZ (by decide) (re_0 _) rfl rfl v_X11_emits kw_1626 (c_X11_emits l g M  t0 0 qu_1 _) rfl hl.1 rfl (Nat.le_of_ble_eq_true rfl) ⟨by simp only [zrm]; omega, by simp only [zrm]; omega⟩ ⟨Nat.le_refl _, Nat.le_refl _⟩ dX11_readAtom_174) hZ (fun H locs hZ => ?_)
  refine lv_iconst (v := 1) hx hb dX11_readAtom_177 (by decide) ?_
  exact hret _ _ _ _ _ _ (Option.some.inj h).symm rfl hZ dX11_readAtom_178
def b_X11_readAtom_152 (R_X11_readAtom : zM → Option (Int32 × zM)) (R_X11_readAllOf : zM → Option (Int32 × zM)) (R_X11_readCond : zM → Option (Int32 × zM))  (M : zM) (x1 : Int32) : Option (Int32 × zM) :=
  zbn (f_X11_readSum M ) (fun u_2 => if u_2.1 = 0 then (some (0, u_2.2)) else (if x1 = 0 then (b_X11_readAtom_173 R_X11_readAtom R_X11_readAllOf R_X11_readCond  u_2.2 11) else (b_X11_readAtom_173 R_X11_readAtom R_X11_readAllOf R_X11_readCond  u_2.2 10)))
set_option maxRecDepth 100000 in
set_option maxHeartbeats 4000000 in
theorem lb_X11_readAtom_152 (g : zG) (dn : Nat) (R_X11_readAtom : zM → Option (Int32 × zM)) (R_X11_readAllOf : zM → Option (Int32 × zM)) (R_X11_readCond : zM → Option (Int32 × zM)) (hR_X11_readAtom : ∀ (M : zM)   (r : Int32 × zM), R_X11_readAtom M  = some r → zMis l g rE 15 yX11_readAtom (zWs yX11_readAtom cX11_readAtom 2 (some .boolean)) dn [.ref (g.2.2 0)] M (fun v M1 => r = (v, M1))) (hR_X11_readAllOf : ∀ (M : zM)   (r : Int32 × zM), R_X11_readAllOf M  = some r → zMis l g rE 15 yX11_readAllOf (zWs yX11_readAllOf cX11_readAllOf 1 (some .boolean)) dn [.ref (g.2.2 0)] M (fun v M1 => r = (v, M1))) (hR_X11_readCond : ∀ (M : zM)   (r : Int32 × zM), R_X11_readCond M  = some r → zMis l g rE 15 yX11_readCond (zWs yX11_readCond cX11_readCond 1 (some .boolean)) dn [.ref (g.2.2 0)] M (fun v M1 => r = (v, M1)))  {r : Int32 × zM} (E : zX g p m c cX11_readAtom 2 s args (zWs yX11_readAtom cX11_readAtom 2 (some .boolean)) RX11) (S : zSg g 15 s.heap.size s s.heap) (hret : zRi g rE 15 p l e (zrm (dn + 16) 0 0) s m args below meth c 0 0 Q cX11_readAtom .boolean (fun v M1 => r = (v, M1))) (M : zM) (x1 : Int32)  (H : Heap) (locs : List Loc) (ls : Array Slot) (h : b_X11_readAtom_152 R_X11_readAtom R_X11_readAllOf R_X11_readCond  M x1 = some r) (hZ : zS g rE 15 s H locs M) (hl : lv_has ls 2 [(0, .ref (g.2.2 0)), (1, .int x1)]) : W p l e (zrm (dn + 16) 0 0) s m args below meth c H locs 0 0 Q (F0 m 152 ls []) := by
  have hx := E.1.1
  have hb := E.1.2.1
  unfold b_X11_readAtom_152 at h
  refine lv_aload_n hx hb dX11_readAtom_152 rfl (lv_at hl 0 rfl) ?_
  obtain ⟨u_2, qu_2, h⟩ := zbn_some h
  refine zciS (zrunVs E S hZ (by decide) (re_0 _) rfl rfl v_X11_readSum kw_1636 (c_X11_readSum l g M   qu_2 _) rfl hl.1 rfl (Nat.le_of_ble_eq_true rfl) ⟨by simp only [zrm]; omega, by simp only [zrm]; omega⟩ ⟨Nat.le_refl _, Nat.le_refl _⟩ dX11_readAtom_153) hZ (fun H locs hZ => ?_)
  refine zif_ne (tgt := 161) h E dX11_readAtom_156 (by decide) (fun c_4 h => ?_) (fun c_4 h => ?_)
  · refine lv_aload_n hx hb dX11_readAtom_161 rfl (lv_at hl 0 rfl) ?_
    refine lv_iload_n hx hb dX11_readAtom_162 rfl (lv_at hl 1 rfl) ?_
    refine zif_eq (tgt := 171) h E dX11_readAtom_163 (by decide) (fun c_3 h => ?_) (fun c_3 h => ?_)
    · refine lv_bipush (v := 11) hx hb dX11_readAtom_171 (by decide) ?_
      exact lb_X11_readAtom_173 g dn R_X11_readAtom R_X11_readAllOf R_X11_readCond hR_X11_readAtom hR_X11_readAllOf hR_X11_readCond  E S hret u_2.2 11  H locs ls h hZ (lv_sub hl [] rfl)
    · refine lv_bipush (v := 10) hx hb dX11_readAtom_166 (by decide) ?_
      refine lv_goto (tgt := 173) hx hb dX11_readAtom_168 (by decide) ?_
      exact lb_X11_readAtom_173 g dn R_X11_readAtom R_X11_readAllOf R_X11_readCond hR_X11_readAtom hR_X11_readAllOf hR_X11_readCond  E S hret u_2.2 10  H locs ls h hZ (lv_sub hl [] rfl)
  · refine lv_iconst (v := 0) hx hb dX11_readAtom_159 (by decide) ?_
    exact hret _ _ _ _ _ _ (Option.some.inj h).symm rfl hZ dX11_readAtom_160
def g_X11_readAtom (R_X11_readAtom : zM → Option (Int32 × zM)) (R_X11_readAllOf : zM → Option (Int32 × zM)) (R_X11_readCond : zM → Option (Int32 × zM)) (M : zM)  : Option (Int32 × zM) :=
  zbn (f_X11_sign M 40) (fun u_5 => if u_5.1 = 0 then (zbn (f_X11_passes u_5.2 20) (fun u_6 => if u_6.1 = 0 then (zbn (f_X11_readTag u_6.2 ) (fun u_7 => if u_7.1 = 0 then (zbn (f_X11_readSum u_7.2 ) (fun u_8 => if u_8.1 = 0 then (some (0, u_8.2)) else (zbn (f_X11_sign u_8.2 60) (fun u_9 => if u_9.1 = 0 then (zbn (f_X11_sign u_9.2 62) (fun u_10 => if u_10.1 = 0 then (some (0, u_10.2)) else (b_X11_readAtom_152 R_X11_readAtom R_X11_readAllOf R_X11_readCond  u_10.2 u_9.1))) else (b_X11_readAtom_152 R_X11_readAtom R_X11_readAllOf R_X11_readCond  u_9.2 u_9.1))))) else (some (1, u_7.2)))) else (if (u_6.2 0 13) = 6 then (some (0, u_6.2)) else (znm (zu u_6.2 0 13 ((u_6.2 0 13) + 1)) (fun M_15 => zbn (R_X11_readAtom M_15 ) (fun u_16 => if u_16.1 = 0 then (some (0, u_16.2)) else (znm (zu u_16.2 0 13 ((u_16.2 0 13) - 1)) (fun M_17 => zbn (f_X11_emits M_17 12 0) (fun u_18 => some (1, u_18)))))))))) else (if (u_5.2 0 13) = 6 then (some (0, u_5.2)) else (znm (zu u_5.2 0 13 ((u_5.2 0 13) + 1)) (fun M_22 => zbn (R_X11_readCond M_22 ) (fun u_23 => if u_23.1 = 0 then (some (0, u_23.2)) else (znm (zu u_23.2 0 13 ((u_23.2 0 13) - 1)) (fun M_24 => zbn (f_X11_sign M_24 41) (fun u_25 => zck (zbl u_25.1) (some (u_25.1, u_25.2))))))))))
set_option maxRecDepth 100000 in
set_option maxHeartbeats 4000000 in
theorem w_X11_readAtom (g : zG) (dn : Nat) (R_X11_readAtom : zM → Option (Int32 × zM)) (R_X11_readAllOf : zM → Option (Int32 × zM)) (R_X11_readCond : zM → Option (Int32 × zM)) (hR_X11_readAtom : ∀ (M : zM)   (r : Int32 × zM), R_X11_readAtom M  = some r → zMis l g rE 15 yX11_readAtom (zWs yX11_readAtom cX11_readAtom 2 (some .boolean)) dn [.ref (g.2.2 0)] M (fun v M1 => r = (v, M1))) (hR_X11_readAllOf : ∀ (M : zM)   (r : Int32 × zM), R_X11_readAllOf M  = some r → zMis l g rE 15 yX11_readAllOf (zWs yX11_readAllOf cX11_readAllOf 1 (some .boolean)) dn [.ref (g.2.2 0)] M (fun v M1 => r = (v, M1))) (hR_X11_readCond : ∀ (M : zM)   (r : Int32 × zM), R_X11_readCond M  = some r → zMis l g rE 15 yX11_readCond (zWs yX11_readCond cX11_readCond 1 (some .boolean)) dn [.ref (g.2.2 0)] M (fun v M1 => r = (v, M1)))  {r : Int32 × zM} (E : zX g p m c cX11_readAtom 2 s args (zWs yX11_readAtom cX11_readAtom 2 (some .boolean)) RX11) (S : zSg g 15 s.heap.size s s.heap) (hret : zRi g rE 15 p l e (zrm (dn + 16) 0 0) s m args below meth c 0 0 Q cX11_readAtom .boolean (fun v M1 => r = (v, M1))) (M : zM)  (H : Heap) (locs : List Loc) (ls : Array Slot) (h : g_X11_readAtom R_X11_readAtom R_X11_readAllOf R_X11_readCond M  = some r) (hZ : zS g rE 15 s H locs M) (hl : lv_has ls 2 [(0, .ref (g.2.2 0))]) : W p l e (zrm (dn + 16) 0 0) s m args below meth c H locs 0 0 Q (F0 m 0 ls []) := by
  have hx := E.1.1
  have hb := E.1.2.1
  unfold g_X11_readAtom at h
  refine lv_aload_n hx hb dX11_readAtom_0 rfl (lv_at hl 0 rfl) ?_
  refine lv_bipush (v := 40) hx hb dX11_readAtom_1 (by decide) ?_
  obtain ⟨u_5, qu_5, h⟩ := zbn_some h
  refine zciS (zrunV E hZ (by decide) (re_0 _) rfl rfl v_X11_sign kw_1621 (c_X11_sign l g M  40 qu_5 _) rfl hl.1 rfl (Nat.le_of_ble_eq_true rfl) ⟨by simp only [zrm]; omega, by simp only [zrm]; omega⟩ ⟨Nat.le_refl _, Nat.le_refl _⟩ dX11_readAtom_3) hZ (fun H locs hZ => ?_)
  refine zif_eq (tgt := 56) h E dX11_readAtom_6 (by decide) (fun c_28 h => ?_) (fun c_28 h => ?_)
  · refine lv_aload_n hx hb dX11_readAtom_56 rfl (lv_at hl 0 rfl) ?_
    refine zlds E S zst_20 dX11_readAtom_57 ?_
    obtain ⟨u_6, qu_6, h⟩ := zbn_some h
    refine zciS (zrunVs E S hZ (by decide) (re_0 _) rfl rfl v_X11_passes kw_1568 (c_X11_passes l g u_5.2 20 (by decide)  qu_6 _) rfl hl.1 rfl (Nat.le_of_ble_eq_true rfl) ⟨by simp only [zrm]; omega, by simp only [zrm]; omega⟩ ⟨Nat.le_refl _, Nat.le_refl _⟩ dX11_readAtom_59) hZ (fun H locs hZ => ?_)
    refine zif_eq (tgt := 114) h E dX11_readAtom_62 (by decide) (fun c_21 h => ?_) (fun c_21 h => ?_)
    · refine lv_aload_n hx hb dX11_readAtom_114 rfl (lv_at hl 0 rfl) ?_
      obtain ⟨u_7, qu_7, h⟩ := zbn_some h
      refine zciS (zrunVs E S hZ (by decide) (re_0 _) rfl rfl v_X11_readTag kw_1630 (c_X11_readTag l g u_6.2   qu_7 _) rfl hl.1 rfl (Nat.le_of_ble_eq_true rfl) ⟨by simp only [zrm]; omega, by simp only [zrm]; omega⟩ ⟨Nat.le_refl _, Nat.le_refl _⟩ dX11_readAtom_115) hZ (fun H locs hZ => ?_)
      refine zif_eq (tgt := 123) h E dX11_readAtom_118 (by decide) (fun c_14 h => ?_) (fun c_14 h => ?_)
      · refine lv_aload_n hx hb dX11_readAtom_123 rfl (lv_at hl 0 rfl) ?_
        obtain ⟨u_8, qu_8, h⟩ := zbn_some h
        refine zciS (zrunVs E S hZ (by decide) (re_0 _) rfl rfl v_X11_readSum kw_1636 (c_X11_readSum l g u_7.2   qu_8 _) rfl hl.1 rfl (Nat.le_of_ble_eq_true rfl) ⟨by simp only [zrm]; omega, by simp only [zrm]; omega⟩ ⟨Nat.le_refl _, Nat.le_refl _⟩ dX11_readAtom_124) hZ (fun H locs hZ => ?_)
        refine zif_ne (tgt := 132) h E dX11_readAtom_127 (by decide) (fun c_13 h => ?_) (fun c_13 h => ?_)
        · refine lv_aload_n hx hb dX11_readAtom_132 rfl (lv_at hl 0 rfl) ?_
          refine lv_bipush (v := 60) hx hb dX11_readAtom_133 (by decide) ?_
          obtain ⟨u_9, qu_9, h⟩ := zbn_some h
          refine zciS (zrunV E hZ (by decide) (re_0 _) rfl rfl v_X11_sign kw_1621 (c_X11_sign l g u_8.2  60 qu_9 _) rfl hl.1 rfl (Nat.le_of_ble_eq_true rfl) ⟨by simp only [zrm]; omega, by simp only [zrm]; omega⟩ ⟨Nat.le_refl _, Nat.le_refl _⟩ dX11_readAtom_135) hZ (fun H locs hZ => ?_)
          refine lv_istore_n (lv' := [(1, .int u_9.1), (0, .ref (g.2.2 0))]) hx hb dX11_readAtom_138 rfl hl (by decide) rfl (fun ls hl => ?_)
          refine lv_iload_n hx hb dX11_readAtom_139 rfl (lv_at hl 0 rfl) ?_
          refine zif_ne (tgt := 152) h E dX11_readAtom_140 (by decide) (fun c_12 h => ?_) (fun c_12 h => ?_)
          · exact lb_X11_readAtom_152 g dn R_X11_readAtom R_X11_readAllOf R_X11_readCond hR_X11_readAtom hR_X11_readAllOf hR_X11_readCond  E S hret u_9.2 u_9.1  H locs ls h hZ (lv_sub hl [1, 0] rfl)
          · refine lv_aload_n hx hb dX11_readAtom_143 rfl (lv_at hl 1 rfl) ?_
            refine lv_bipush (v := 62) hx hb dX11_readAtom_144 (by decide) ?_
            obtain ⟨u_10, qu_10, h⟩ := zbn_some h
            refine zciS (zrunV E hZ (by decide) (re_0 _) rfl rfl v_X11_sign kw_1621 (c_X11_sign l g u_9.2  62 qu_10 _) rfl hl.1 rfl (Nat.le_of_ble_eq_true rfl) ⟨by simp only [zrm]; omega, by simp only [zrm]; omega⟩ ⟨Nat.le_refl _, Nat.le_refl _⟩ dX11_readAtom_146) hZ (fun H locs hZ => ?_)
            refine zif_eq (tgt := 159) h E dX11_readAtom_149 (by decide) (fun c_11 h => ?_) (fun c_11 h => ?_)
            · refine lv_iconst (v := 0) hx hb dX11_readAtom_159 (by decide) ?_
              exact hret _ _ _ _ _ _ (Option.some.inj h).symm rfl hZ dX11_readAtom_160
            · exact lb_X11_readAtom_152 g dn R_X11_readAtom R_X11_readAllOf R_X11_readCond hR_X11_readAtom hR_X11_readAllOf hR_X11_readCond  E S hret u_10.2 u_9.1  H locs ls h hZ (lv_sub hl [1, 0] rfl)
        · refine lv_iconst (v := 0) hx hb dX11_readAtom_130 (by decide) ?_
          exact hret _ _ _ _ _ _ (Option.some.inj h).symm rfl hZ dX11_readAtom_131
      · refine lv_iconst (v := 1) hx hb dX11_readAtom_121 (by decide) ?_
        exact hret _ _ _ _ _ _ (Option.some.inj h).symm rfl hZ dX11_readAtom_122
    · refine lv_aload_n hx hb dX11_readAtom_65 rfl (lv_at hl 0 rfl) ?_
      refine zg (v := .int (u_6.2 0 13)) E hZ (by decide) (re_0 _) kc_X11 13 (by decide) kw_1381 rfl rfl dX11_readAtom_66 ?_
      refine lv_bipush (v := 6) hx hb dX11_readAtom_69 (by decide) ?_
      refine zic_ne (tgt := 76) h E dX11_readAtom_71 (by decide) (fun c_20 h => ?_) (fun c_20 h => ?_)
      · refine lv_aload_n hx hb dX11_readAtom_76 rfl (lv_at hl 0 rfl) ?_
        refine lv_dup hx hb dX11_readAtom_77 rfl ?_
        refine zg (v := .int (u_6.2 0 13)) E hZ (by decide) (re_0 _) kc_X11 13 (by decide) kw_1381 rfl rfl dX11_readAtom_78 ?_
        refine lv_iconst (v := 1) hx hb dX11_readAtom_81 (by decide) ?_
        refine lv_iadd hx hb dX11_readAtom_82 ?_
        refine zp h E hZ (by decide) (re_0 _) ((re_0 _).trans (congrArg (fun z => Sum.inr (10, z)) (fs_X11_13 g _ _ _))) kc_X11 (by decide) kw_1381 rfl rfl rfl (Nat.le_of_ble_eq_true rfl) dX11_readAtom_83 (fun M_15 H locs eM_15 h hZ => ?_)
        refine lv_aload_n hx hb dX11_readAtom_86 rfl (lv_at hl 0 rfl) ?_
        obtain ⟨u_16, qu_16, h⟩ := zbn_some h
        refine zciS (zrunVs E S hZ (by decide) (re_0 _) rfl rfl v_X11_readAtom kw_1617 (hR_X11_readAtom M_15   _ qu_16 _) rfl hl.1 rfl (Nat.le_of_ble_eq_true rfl) ⟨by simp only [zrm]; omega, by simp only [zrm]; omega⟩ ⟨Nat.le_refl _, Nat.le_refl _⟩ dX11_readAtom_87) hZ (fun H locs hZ => ?_)
        refine zif_ne (tgt := 95) h E dX11_readAtom_90 (by decide) (fun c_19 h => ?_) (fun c_19 h => ?_)
        · refine lv_aload_n hx hb dX11_readAtom_95 rfl (lv_at hl 0 rfl) ?_
          refine lv_dup hx hb dX11_readAtom_96 rfl ?_
          refine zg (v := .int (u_16.2 0 13)) E hZ (by decide) (re_0 _) kc_X11 13 (by decide) kw_1381 rfl rfl dX11_readAtom_97 ?_
          refine lv_iconst (v := 1) hx hb dX11_readAtom_100 (by decide) ?_
          refine lv_isub hx hb dX11_readAtom_101 ?_
          refine zp h E hZ (by decide) (re_0 _) ((re_0 _).trans (congrArg (fun z => Sum.inr (10, z)) (fs_X11_13 g _ _ _))) kc_X11 (by decide) kw_1381 rfl rfl rfl (Nat.le_of_ble_eq_true rfl) dX11_readAtom_102 (fun M_17 H locs eM_17 h hZ => ?_)
          refine lv_aload_n hx hb dX11_readAtom_105 rfl (lv_at hl 0 rfl) ?_
          refine lv_bipush (v := 12) hx hb dX11_readAtom_106 (by decide) ?_
          refine lv_iconst (v := 0) hx hb dX11_readAtom_108 (by decide) ?_
          obtain ⟨u_18, qu_18, h⟩ := zbn_some h
          refine zcvS (zrunV E hZ (by decide) (re_0 _) rfl rfl v_X11_emits kw_1626 (c_X11_emits l g M_17  12 0 qu_18 _) rfl hl.1 rfl (Nat.le_of_ble_eq_true rfl) ⟨by simp only [zrm]; omega, by simp only [zrm]; omega⟩ ⟨Nat.le_refl _, Nat.le_refl _⟩ dX11_readAtom_109) hZ (fun H locs hZ => ?_)
          refine lv_iconst (v := 1) hx hb dX11_readAtom_112 (by decide) ?_
          exact hret _ _ _ _ _ _ (Option.some.inj h).symm rfl hZ dX11_readAtom_113
        · refine lv_iconst (v := 0) hx hb dX11_readAtom_93 (by decide) ?_
          exact hret _ _ _ _ _ _ (Option.some.inj h).symm rfl hZ dX11_readAtom_94
      · refine lv_iconst (v := 0) hx hb dX11_readAtom_74 (by decide) ?_
        exact hret _ _ _ _ _ _ (Option.some.inj h).symm rfl hZ dX11_readAtom_75
  · refine lv_aload_n hx hb dX11_readAtom_9 rfl (lv_at hl 0 rfl) ?_
    refine zg (v := .int (u_5.2 0 13)) E hZ (by decide) (re_0 _) kc_X11 13 (by decide) kw_1381 rfl rfl dX11_readAtom_10 ?_
    refine lv_bipush (v := 6) hx hb dX11_readAtom_13 (by decide) ?_
    refine zic_ne (tgt := 20) h E dX11_readAtom_15 (by decide) (fun c_27 h => ?_) (fun c_27 h => ?_)
    · refine lv_aload_n hx hb dX11_readAtom_20 rfl (lv_at hl 0 rfl) ?_
      refine lv_dup hx hb dX11_readAtom_21 rfl ?_
      refine zg (v := .int (u_5.2 0 13)) E hZ (by decide) (re_0 _) kc_X11 13 (by decide) kw_1381 rfl rfl dX11_readAtom_22 ?_
      refine lv_iconst (v := 1) hx hb dX11_readAtom_25 (by decide) ?_
      refine lv_iadd hx hb dX11_readAtom_26 ?_
      refine zp h E hZ (by decide) (re_0 _) ((re_0 _).trans (congrArg (fun z => Sum.inr (10, z)) (fs_X11_13 g _ _ _))) kc_X11 (by decide) kw_1381 rfl rfl rfl (Nat.le_of_ble_eq_true rfl) dX11_readAtom_27 (fun M_22 H locs eM_22 h hZ => ?_)
      refine lv_aload_n hx hb dX11_readAtom_30 rfl (lv_at hl 0 rfl) ?_
      obtain ⟨u_23, qu_23, h⟩ := zbn_some h
      refine zciS (zrunVs E S hZ (by decide) (re_0 _) rfl rfl v_X11_readCond kw_1609 (hR_X11_readCond M_22   _ qu_23 _) rfl hl.1 rfl (Nat.le_of_ble_eq_true rfl) ⟨by simp only [zrm]; omega, by simp only [zrm]; omega⟩ ⟨Nat.le_refl _, Nat.le_refl _⟩ dX11_readAtom_31) hZ (fun H locs hZ => ?_)
      refine zif_ne (tgt := 39) h E dX11_readAtom_34 (by decide) (fun c_26 h => ?_) (fun c_26 h => ?_)
      · refine lv_aload_n hx hb dX11_readAtom_39 rfl (lv_at hl 0 rfl) ?_
        refine lv_dup hx hb dX11_readAtom_40 rfl ?_
        refine zg (v := .int (u_23.2 0 13)) E hZ (by decide) (re_0 _) kc_X11 13 (by decide) kw_1381 rfl rfl dX11_readAtom_41 ?_
        refine lv_iconst (v := 1) hx hb dX11_readAtom_44 (by decide) ?_
        refine lv_isub hx hb dX11_readAtom_45 ?_
        refine zp h E hZ (by decide) (re_0 _) ((re_0 _).trans (congrArg (fun z => Sum.inr (10, z)) (fs_X11_13 g _ _ _))) kc_X11 (by decide) kw_1381 rfl rfl rfl (Nat.le_of_ble_eq_true rfl) dX11_readAtom_46 (fun M_24 H locs eM_24 h hZ => ?_)
        refine lv_aload_n hx hb dX11_readAtom_49 rfl (lv_at hl 0 rfl) ?_
        refine lv_bipush (v := 41) hx hb dX11_readAtom_50 (by decide) ?_
        obtain ⟨u_25, qu_25, h⟩ := zbn_some h
        refine zciS (zrunV E hZ (by decide) (re_0 _) rfl rfl v_X11_sign kw_1621 (c_X11_sign l g M_24  41 qu_25 _) rfl hl.1 rfl (Nat.le_of_ble_eq_true rfl) ⟨by simp only [zrm]; omega, by simp only [zrm]; omega⟩ ⟨Nat.le_refl _, Nat.le_refl _⟩ dX11_readAtom_52) hZ (fun H locs hZ => ?_)
        obtain ⟨hbl, h⟩ := zck_some h
        exact hret _ _ _ _ _ _ (Option.some.inj h).symm (zbl_n hbl) hZ dX11_readAtom_55
      · refine lv_iconst (v := 0) hx hb dX11_readAtom_37 (by decide) ?_
        exact hret _ _ _ _ _ _ (Option.some.inj h).symm rfl hZ dX11_readAtom_38
    · refine lv_iconst (v := 0) hx hb dX11_readAtom_18 (by decide) ?_
      exact hret _ _ _ _ _ _ (Option.some.inj h).symm rfl hZ dX11_readAtom_19
theorem oc_X11_readAtom (l : Launch) (g : zG) (dn : Nat) (R_X11_readAtom : zM → Option (Int32 × zM)) (R_X11_readAllOf : zM → Option (Int32 × zM)) (R_X11_readCond : zM → Option (Int32 × zM)) (hR_X11_readAtom : ∀ (M : zM)   (r : Int32 × zM), R_X11_readAtom M  = some r → zMis l g rE 15 yX11_readAtom (zWs yX11_readAtom cX11_readAtom 2 (some .boolean)) dn [.ref (g.2.2 0)] M (fun v M1 => r = (v, M1))) (hR_X11_readAllOf : ∀ (M : zM)   (r : Int32 × zM), R_X11_readAllOf M  = some r → zMis l g rE 15 yX11_readAllOf (zWs yX11_readAllOf cX11_readAllOf 1 (some .boolean)) dn [.ref (g.2.2 0)] M (fun v M1 => r = (v, M1))) (hR_X11_readCond : ∀ (M : zM)   (r : Int32 × zM), R_X11_readCond M  = some r → zMis l g rE 15 yX11_readCond (zWs yX11_readCond cX11_readCond 1 (some .boolean)) dn [.ref (g.2.2 0)] M (fun v M1 => r = (v, M1))) (M : zM)   {r : Int32 × zM} (h : g_X11_readAtom R_X11_readAtom R_X11_readAllOf R_X11_readCond M  = some r) : zMis l g rE 15 yX11_readAtom (zWs yX11_readAtom cX11_readAtom 2 (some .boolean)) (dn + 16) [.ref (g.2.2 0)] M (fun v M1 => r = (v, M1)) :=
  zMis_of (by decide +kernel) (Nat.le_of_ble_eq_true rfl) (fun p e s m args below meth c Q ls E S hret hZ hl => w_X11_readAtom g dn R_X11_readAtom R_X11_readAllOf R_X11_readCond hR_X11_readAtom hR_X11_readAllOf hR_X11_readCond  E S hret M  _ _ ls h hZ hl)
def b_X11_readAllOf_9 (R_X11_readAtom : zM → Option (Int32 × zM)) (R_X11_readAllOf : zM → Option (Int32 × zM)) (R_X11_readCond : zM → Option (Int32 × zM))   : Nat → zM → Option (Int32 × zM)
  | 0, _ => none
  | n + 1, M =>
    zbn (f_X11_passes M 28) (fun u_1 => if u_1.1 = 0 then (some (1, u_1.2)) else (zbn (R_X11_readAtom u_1.2 ) (fun u_2 => if u_2.1 = 0 then (some (0, u_2.2)) else (zbn (f_X11_emits u_2.2 13 0) (fun u_3 => b_X11_readAllOf_9 R_X11_readAtom R_X11_readAllOf R_X11_readCond   n u_3)))))
set_option maxRecDepth 100000 in
set_option maxHeartbeats 4000000 in
theorem lb_X11_readAllOf_9 (g : zG) (dn : Nat) (R_X11_readAtom : zM → Option (Int32 × zM)) (R_X11_readAllOf : zM → Option (Int32 × zM)) (R_X11_readCond : zM → Option (Int32 × zM)) (hR_X11_readAtom : ∀ (M : zM)   (r : Int32 × zM), R_X11_readAtom M  = some r → zMis l g rE 15 yX11_readAtom (zWs yX11_readAtom cX11_readAtom 2 (some .boolean)) dn [.ref (g.2.2 0)] M (fun v M1 => r = (v, M1))) (hR_X11_readAllOf : ∀ (M : zM)   (r : Int32 × zM), R_X11_readAllOf M  = some r → zMis l g rE 15 yX11_readAllOf (zWs yX11_readAllOf cX11_readAllOf 1 (some .boolean)) dn [.ref (g.2.2 0)] M (fun v M1 => r = (v, M1))) (hR_X11_readCond : ∀ (M : zM)   (r : Int32 × zM), R_X11_readCond M  = some r → zMis l g rE 15 yX11_readCond (zWs yX11_readCond cX11_readCond 1 (some .boolean)) dn [.ref (g.2.2 0)] M (fun v M1 => r = (v, M1)))  {r : Int32 × zM} (E : zX g p m c cX11_readAllOf 1 s args (zWs yX11_readAllOf cX11_readAllOf 1 (some .boolean)) RX11) (S : zSg g 15 s.heap.size s s.heap) (hret : zRi g rE 15 p l e (zrm (dn + 16) 0 0) s m args below meth c 0 0 Q cX11_readAllOf .boolean (fun v M1 => r = (v, M1)))   : ∀ (n : Nat) (M : zM) (H : Heap) (locs : List Loc) (ls : Array Slot), b_X11_readAllOf_9 R_X11_readAtom R_X11_readAllOf R_X11_readCond   n M = some r → zS g rE 15 s H locs M → lv_has ls 1 [(0, .ref (g.2.2 0))] → W p l e (zrm (dn + 16) 0 0) s m args below meth c H locs 0 0 Q (F0 m 9 ls []) := by
  have hx := E.1.1
  have hb := E.1.2.1
  intro n
  induction n with
  | zero => intro M H locs ls h hZ hl; cases h
  | succ n ih =>
    intro M H locs ls h hZ hl
    rw [b_X11_readAllOf_9] at h
    refine lv_aload_n hx hb dX11_readAllOf_9 rfl (lv_at hl 0 rfl) ?_
    refine zlds E S zst_28 dX11_readAllOf_10 ?_
    obtain ⟨u_1, qu_1, h⟩ := zbn_some h
    refine zciS (zrunVs E S hZ (by decide) (re_0 _) rfl rfl v_X11_passes kw_1568 (c_X11_passes l g M 28 (by decide)  qu_1 _) rfl hl.1 rfl (Nat.le_of_ble_eq_true rfl) ⟨by simp only [zrm]; omega, by simp only [zrm]; omega⟩ ⟨Nat.le_refl _, Nat.le_refl _⟩ dX11_readAllOf_12) hZ (fun H locs hZ => ?_)
    refine zif_eq (tgt := 37) h E dX11_readAllOf_15 (by decide) (fun c_5 h => ?_) (fun c_5 h => ?_)
    · refine lv_iconst (v := 1) hx hb dX11_readAllOf_37 (by decide) ?_
      exact hret _ _ _ _ _ _ (Option.some.inj h).symm rfl hZ dX11_readAllOf_38
    · refine lv_aload_n hx hb dX11_readAllOf_18 rfl (lv_at hl 0 rfl) ?_
      obtain ⟨u_2, qu_2, h⟩ := zbn_some h
      refine zciS (zrunVs E S hZ (by decide) (re_0 _) rfl rfl v_X11_readAtom kw_1617 (hR_X11_readAtom u_1.2   _ qu_2 _) rfl hl.1 rfl (Nat.le_of_ble_eq_true rfl) ⟨by simp only [zrm]; omega, by simp only [zrm]; omega⟩ ⟨Nat.le_refl _, Nat.le_refl _⟩ dX11_readAllOf_19) hZ (fun H locs hZ => ?_)
      refine zif_ne (tgt := 27) h E dX11_readAllOf_22 (by decide) (fun c_4 h => ?_) (fun c_4 h => ?_)
      · refine lv_aload_n hx hb dX11_readAllOf_27 rfl (lv_at hl 0 rfl) ?_
        refine lv_bipush (v := 13) hx hb dX11_readAllOf_28 (by decide) ?_
        refine lv_iconst (v := 0) hx hb dX11_readAllOf_30 (by decide) ?_
        obtain ⟨u_3, qu_3, h⟩ := zbn_some h
        refine zcvS (zrunV E hZ (by decide) (re_0 _) rfl rfl v_X11_emits kw_1626 (c_X11_emits l g u_2.2  13 0 qu_3 _) rfl hl.1 rfl (Nat.le_of_ble_eq_true rfl) ⟨by simp only [zrm]; omega, by simp only [zrm]; omega⟩ ⟨Nat.le_refl _, Nat.le_refl _⟩ dX11_readAllOf_31) hZ (fun H locs hZ => ?_)
        refine lv_goto (tgt := 9) hx hb dX11_readAllOf_34 (by decide) ?_
        exact ih u_3 H locs ls h hZ (lv_sub hl [0] rfl)
      · refine lv_iconst (v := 0) hx hb dX11_readAllOf_25 (by decide) ?_
        exact hret _ _ _ _ _ _ (Option.some.inj h).symm rfl hZ dX11_readAllOf_26
def g_X11_readAllOf (R_X11_readAtom : zM → Option (Int32 × zM)) (R_X11_readAllOf : zM → Option (Int32 × zM)) (R_X11_readCond : zM → Option (Int32 × zM)) (M : zM)  : Option (Int32 × zM) :=
  zbn (R_X11_readAtom M ) (fun u_6 => if u_6.1 = 0 then (some (0, u_6.2)) else (b_X11_readAllOf_9 R_X11_readAtom R_X11_readAllOf R_X11_readCond   6000 u_6.2))
set_option maxRecDepth 100000 in
set_option maxHeartbeats 4000000 in
theorem w_X11_readAllOf (g : zG) (dn : Nat) (R_X11_readAtom : zM → Option (Int32 × zM)) (R_X11_readAllOf : zM → Option (Int32 × zM)) (R_X11_readCond : zM → Option (Int32 × zM)) (hR_X11_readAtom : ∀ (M : zM)   (r : Int32 × zM), R_X11_readAtom M  = some r → zMis l g rE 15 yX11_readAtom (zWs yX11_readAtom cX11_readAtom 2 (some .boolean)) dn [.ref (g.2.2 0)] M (fun v M1 => r = (v, M1))) (hR_X11_readAllOf : ∀ (M : zM)   (r : Int32 × zM), R_X11_readAllOf M  = some r → zMis l g rE 15 yX11_readAllOf (zWs yX11_readAllOf cX11_readAllOf 1 (some .boolean)) dn [.ref (g.2.2 0)] M (fun v M1 => r = (v, M1))) (hR_X11_readCond : ∀ (M : zM)   (r : Int32 × zM), R_X11_readCond M  = some r → zMis l g rE 15 yX11_readCond (zWs yX11_readCond cX11_readCond 1 (some .boolean)) dn [.ref (g.2.2 0)] M (fun v M1 => r = (v, M1)))  {r : Int32 × zM} (E : zX g p m c cX11_readAllOf 1 s args (zWs yX11_readAllOf cX11_readAllOf 1 (some .boolean)) RX11) (S : zSg g 15 s.heap.size s s.heap) (hret : zRi g rE 15 p l e (zrm (dn + 16) 0 0) s m args below meth c 0 0 Q cX11_readAllOf .boolean (fun v M1 => r = (v, M1))) (M : zM)  (H : Heap) (locs : List Loc) (ls : Array Slot) (h : g_X11_readAllOf R_X11_readAtom R_X11_readAllOf R_X11_readCond M  = some r) (hZ : zS g rE 15 s H locs M) (hl : lv_has ls 1 [(0, .ref (g.2.2 0))]) : W p l e (zrm (dn + 16) 0 0) s m args below meth c H locs 0 0 Q (F0 m 0 ls []) := by
  have hx := E.1.1
  have hb := E.1.2.1
  unfold g_X11_readAllOf at h
  refine lv_aload_n hx hb dX11_readAllOf_0 rfl (lv_at hl 0 rfl) ?_
  obtain ⟨u_6, qu_6, h⟩ := zbn_some h
  refine zciS (zrunVs E S hZ (by decide) (re_0 _) rfl rfl v_X11_readAtom kw_1617 (hR_X11_readAtom M   _ qu_6 _) rfl hl.1 rfl (Nat.le_of_ble_eq_true rfl) ⟨by simp only [zrm]; omega, by simp only [zrm]; omega⟩ ⟨Nat.le_refl _, Nat.le_refl _⟩ dX11_readAllOf_1) hZ (fun H locs hZ => ?_)
  refine zif_ne (tgt := 9) h E dX11_readAllOf_4 (by decide) (fun c_7 h => ?_) (fun c_7 h => ?_)
  · exact lb_X11_readAllOf_9 g dn R_X11_readAtom R_X11_readAllOf R_X11_readCond hR_X11_readAtom hR_X11_readAllOf hR_X11_readCond  E S hret   6000 u_6.2 H locs ls h hZ (lv_sub hl [0] rfl)
  · refine lv_iconst (v := 0) hx hb dX11_readAllOf_7 (by decide) ?_
    exact hret _ _ _ _ _ _ (Option.some.inj h).symm rfl hZ dX11_readAllOf_8
theorem oc_X11_readAllOf (l : Launch) (g : zG) (dn : Nat) (R_X11_readAtom : zM → Option (Int32 × zM)) (R_X11_readAllOf : zM → Option (Int32 × zM)) (R_X11_readCond : zM → Option (Int32 × zM)) (hR_X11_readAtom : ∀ (M : zM)   (r : Int32 × zM), R_X11_readAtom M  = some r → zMis l g rE 15 yX11_readAtom (zWs yX11_readAtom cX11_readAtom 2 (some .boolean)) dn [.ref (g.2.2 0)] M (fun v M1 => r = (v, M1))) (hR_X11_readAllOf : ∀ (M : zM)   (r : Int32 × zM), R_X11_readAllOf M  = some r → zMis l g rE 15 yX11_readAllOf (zWs yX11_readAllOf cX11_readAllOf 1 (some .boolean)) dn [.ref (g.2.2 0)] M (fun v M1 => r = (v, M1))) (hR_X11_readCond : ∀ (M : zM)   (r : Int32 × zM), R_X11_readCond M  = some r → zMis l g rE 15 yX11_readCond (zWs yX11_readCond cX11_readCond 1 (some .boolean)) dn [.ref (g.2.2 0)] M (fun v M1 => r = (v, M1))) (M : zM)   {r : Int32 × zM} (h : g_X11_readAllOf R_X11_readAtom R_X11_readAllOf R_X11_readCond M  = some r) : zMis l g rE 15 yX11_readAllOf (zWs yX11_readAllOf cX11_readAllOf 1 (some .boolean)) (dn + 16) [.ref (g.2.2 0)] M (fun v M1 => r = (v, M1)) :=
  zMis_of (by decide +kernel) (Nat.le_of_ble_eq_true rfl) (fun p e s m args below meth c Q ls E S hret hZ hl => w_X11_readAllOf g dn R_X11_readAtom R_X11_readAllOf R_X11_readCond hR_X11_readAtom hR_X11_readAllOf hR_X11_readCond  E S hret M  _ _ ls h hZ hl)
def b_X11_readCond_9 (R_X11_readAtom : zM → Option (Int32 × zM)) (R_X11_readAllOf : zM → Option (Int32 × zM)) (R_X11_readCond : zM → Option (Int32 × zM))   : Nat → zM → Option (Int32 × zM)
  | 0, _ => none
  | n + 1, M =>
    zbn (f_X11_passes M 29) (fun u_1 => if u_1.1 = 0 then (some (1, u_1.2)) else (zbn (R_X11_readAllOf u_1.2 ) (fun u_2 => if u_2.1 = 0 then (some (0, u_2.2)) else (zbn (f_X11_emits u_2.2 14 0) (fun u_3 => b_X11_readCond_9 R_X11_readAtom R_X11_readAllOf R_X11_readCond   n u_3)))))
set_option maxRecDepth 100000 in
set_option maxHeartbeats 4000000 in
theorem lb_X11_readCond_9 (g : zG) (dn : Nat) (R_X11_readAtom : zM → Option (Int32 × zM)) (R_X11_readAllOf : zM → Option (Int32 × zM)) (R_X11_readCond : zM → Option (Int32 × zM)) (hR_X11_readAtom : ∀ (M : zM)   (r : Int32 × zM), R_X11_readAtom M  = some r → zMis l g rE 15 yX11_readAtom (zWs yX11_readAtom cX11_readAtom 2 (some .boolean)) dn [.ref (g.2.2 0)] M (fun v M1 => r = (v, M1))) (hR_X11_readAllOf : ∀ (M : zM)   (r : Int32 × zM), R_X11_readAllOf M  = some r → zMis l g rE 15 yX11_readAllOf (zWs yX11_readAllOf cX11_readAllOf 1 (some .boolean)) dn [.ref (g.2.2 0)] M (fun v M1 => r = (v, M1))) (hR_X11_readCond : ∀ (M : zM)   (r : Int32 × zM), R_X11_readCond M  = some r → zMis l g rE 15 yX11_readCond (zWs yX11_readCond cX11_readCond 1 (some .boolean)) dn [.ref (g.2.2 0)] M (fun v M1 => r = (v, M1)))  {r : Int32 × zM} (E : zX g p m c cX11_readCond 1 s args (zWs yX11_readCond cX11_readCond 1 (some .boolean)) RX11) (S : zSg g 15 s.heap.size s s.heap) (hret : zRi g rE 15 p l e (zrm (dn + 16) 0 0) s m args below meth c 0 0 Q cX11_readCond .boolean (fun v M1 => r = (v, M1)))   : ∀ (n : Nat) (M : zM) (H : Heap) (locs : List Loc) (ls : Array Slot), b_X11_readCond_9 R_X11_readAtom R_X11_readAllOf R_X11_readCond   n M = some r → zS g rE 15 s H locs M → lv_has ls 1 [(0, .ref (g.2.2 0))] → W p l e (zrm (dn + 16) 0 0) s m args below meth c H locs 0 0 Q (F0 m 9 ls []) := by
  have hx := E.1.1
  have hb := E.1.2.1
  intro n
  induction n with
  | zero => intro M H locs ls h hZ hl; cases h
  | succ n ih =>
    intro M H locs ls h hZ hl
    rw [b_X11_readCond_9] at h
    refine lv_aload_n hx hb dX11_readCond_9 rfl (lv_at hl 0 rfl) ?_
    refine zlds E S zst_29 dX11_readCond_10 ?_
    obtain ⟨u_1, qu_1, h⟩ := zbn_some h
    refine zciS (zrunVs E S hZ (by decide) (re_0 _) rfl rfl v_X11_passes kw_1568 (c_X11_passes l g M 29 (by decide)  qu_1 _) rfl hl.1 rfl (Nat.le_of_ble_eq_true rfl) ⟨by simp only [zrm]; omega, by simp only [zrm]; omega⟩ ⟨Nat.le_refl _, Nat.le_refl _⟩ dX11_readCond_12) hZ (fun H locs hZ => ?_)
    refine zif_eq (tgt := 37) h E dX11_readCond_15 (by decide) (fun c_5 h => ?_) (fun c_5 h => ?_)
    · refine lv_iconst (v := 1) hx hb dX11_readCond_37 (by decide) ?_
      exact hret _ _ _ _ _ _ (Option.some.inj h).symm rfl hZ dX11_readCond_38
    · refine lv_aload_n hx hb dX11_readCond_18 rfl (lv_at hl 0 rfl) ?_
      obtain ⟨u_2, qu_2, h⟩ := zbn_some h
      refine zciS (zrunVs E S hZ (by decide) (re_0 _) rfl rfl v_X11_readAllOf kw_1613 (hR_X11_readAllOf u_1.2   _ qu_2 _) rfl hl.1 rfl (Nat.le_of_ble_eq_true rfl) ⟨by simp only [zrm]; omega, by simp only [zrm]; omega⟩ ⟨Nat.le_refl _, Nat.le_refl _⟩ dX11_readCond_19) hZ (fun H locs hZ => ?_)
      refine zif_ne (tgt := 27) h E dX11_readCond_22 (by decide) (fun c_4 h => ?_) (fun c_4 h => ?_)
      · refine lv_aload_n hx hb dX11_readCond_27 rfl (lv_at hl 0 rfl) ?_
        refine lv_bipush (v := 14) hx hb dX11_readCond_28 (by decide) ?_
        refine lv_iconst (v := 0) hx hb dX11_readCond_30 (by decide) ?_
        obtain ⟨u_3, qu_3, h⟩ := zbn_some h
        refine zcvS (zrunV E hZ (by decide) (re_0 _) rfl rfl v_X11_emits kw_1626 (c_X11_emits l g u_2.2  14 0 qu_3 _) rfl hl.1 rfl (Nat.le_of_ble_eq_true rfl) ⟨by simp only [zrm]; omega, by simp only [zrm]; omega⟩ ⟨Nat.le_refl _, Nat.le_refl _⟩ dX11_readCond_31) hZ (fun H locs hZ => ?_)
        refine lv_goto (tgt := 9) hx hb dX11_readCond_34 (by decide) ?_
        exact ih u_3 H locs ls h hZ (lv_sub hl [0] rfl)
      · refine lv_iconst (v := 0) hx hb dX11_readCond_25 (by decide) ?_
        exact hret _ _ _ _ _ _ (Option.some.inj h).symm rfl hZ dX11_readCond_26
def g_X11_readCond (R_X11_readAtom : zM → Option (Int32 × zM)) (R_X11_readAllOf : zM → Option (Int32 × zM)) (R_X11_readCond : zM → Option (Int32 × zM)) (M : zM)  : Option (Int32 × zM) :=
  zbn (R_X11_readAllOf M ) (fun u_6 => if u_6.1 = 0 then (some (0, u_6.2)) else (b_X11_readCond_9 R_X11_readAtom R_X11_readAllOf R_X11_readCond   6000 u_6.2))
set_option maxRecDepth 100000 in
set_option maxHeartbeats 4000000 in
theorem w_X11_readCond (g : zG) (dn : Nat) (R_X11_readAtom : zM → Option (Int32 × zM)) (R_X11_readAllOf : zM → Option (Int32 × zM)) (R_X11_readCond : zM → Option (Int32 × zM)) (hR_X11_readAtom : ∀ (M : zM)   (r : Int32 × zM), R_X11_readAtom M  = some r → zMis l g rE 15 yX11_readAtom (zWs yX11_readAtom cX11_readAtom 2 (some .boolean)) dn [.ref (g.2.2 0)] M (fun v M1 => r = (v, M1))) (hR_X11_readAllOf : ∀ (M : zM)   (r : Int32 × zM), R_X11_readAllOf M  = some r → zMis l g rE 15 yX11_readAllOf (zWs yX11_readAllOf cX11_readAllOf 1 (some .boolean)) dn [.ref (g.2.2 0)] M (fun v M1 => r = (v, M1))) (hR_X11_readCond : ∀ (M : zM)   (r : Int32 × zM), R_X11_readCond M  = some r → zMis l g rE 15 yX11_readCond (zWs yX11_readCond cX11_readCond 1 (some .boolean)) dn [.ref (g.2.2 0)] M (fun v M1 => r = (v, M1)))  {r : Int32 × zM} (E : zX g p m c cX11_readCond 1 s args (zWs yX11_readCond cX11_readCond 1 (some .boolean)) RX11) (S : zSg g 15 s.heap.size s s.heap) (hret : zRi g rE 15 p l e (zrm (dn + 16) 0 0) s m args below meth c 0 0 Q cX11_readCond .boolean (fun v M1 => r = (v, M1))) (M : zM)  (H : Heap) (locs : List Loc) (ls : Array Slot) (h : g_X11_readCond R_X11_readAtom R_X11_readAllOf R_X11_readCond M  = some r) (hZ : zS g rE 15 s H locs M) (hl : lv_has ls 1 [(0, .ref (g.2.2 0))]) : W p l e (zrm (dn + 16) 0 0) s m args below meth c H locs 0 0 Q (F0 m 0 ls []) := by
  have hx := E.1.1
  have hb := E.1.2.1
  unfold g_X11_readCond at h
  refine lv_aload_n hx hb dX11_readCond_0 rfl (lv_at hl 0 rfl) ?_
  obtain ⟨u_6, qu_6, h⟩ := zbn_some h
  refine zciS (zrunVs E S hZ (by decide) (re_0 _) rfl rfl v_X11_readAllOf kw_1613 (hR_X11_readAllOf M   _ qu_6 _) rfl hl.1 rfl (Nat.le_of_ble_eq_true rfl) ⟨by simp only [zrm]; omega, by simp only [zrm]; omega⟩ ⟨Nat.le_refl _, Nat.le_refl _⟩ dX11_readCond_1) hZ (fun H locs hZ => ?_)
  refine zif_ne (tgt := 9) h E dX11_readCond_4 (by decide) (fun c_7 h => ?_) (fun c_7 h => ?_)
  · exact lb_X11_readCond_9 g dn R_X11_readAtom R_X11_readAllOf R_X11_readCond hR_X11_readAtom hR_X11_readAllOf hR_X11_readCond  E S hret   6000 u_6.2 H locs ls h hZ (lv_sub hl [0] rfl)
  · refine lv_iconst (v := 0) hx hb dX11_readCond_7 (by decide) ?_
    exact hret _ _ _ _ _ _ (Option.some.inj h).symm rfl hZ dX11_readCond_8
theorem oc_X11_readCond (l : Launch) (g : zG) (dn : Nat) (R_X11_readAtom : zM → Option (Int32 × zM)) (R_X11_readAllOf : zM → Option (Int32 × zM)) (R_X11_readCond : zM → Option (Int32 × zM)) (hR_X11_readAtom : ∀ (M : zM)   (r : Int32 × zM), R_X11_readAtom M  = some r → zMis l g rE 15 yX11_readAtom (zWs yX11_readAtom cX11_readAtom 2 (some .boolean)) dn [.ref (g.2.2 0)] M (fun v M1 => r = (v, M1))) (hR_X11_readAllOf : ∀ (M : zM)   (r : Int32 × zM), R_X11_readAllOf M  = some r → zMis l g rE 15 yX11_readAllOf (zWs yX11_readAllOf cX11_readAllOf 1 (some .boolean)) dn [.ref (g.2.2 0)] M (fun v M1 => r = (v, M1))) (hR_X11_readCond : ∀ (M : zM)   (r : Int32 × zM), R_X11_readCond M  = some r → zMis l g rE 15 yX11_readCond (zWs yX11_readCond cX11_readCond 1 (some .boolean)) dn [.ref (g.2.2 0)] M (fun v M1 => r = (v, M1))) (M : zM)   {r : Int32 × zM} (h : g_X11_readCond R_X11_readAtom R_X11_readAllOf R_X11_readCond M  = some r) : zMis l g rE 15 yX11_readCond (zWs yX11_readCond cX11_readCond 1 (some .boolean)) (dn + 16) [.ref (g.2.2 0)] M (fun v M1 => r = (v, M1)) :=
  zMis_of (by decide +kernel) (Nat.le_of_ble_eq_true rfl) (fun p e s m args below meth c Q ls E S hret hZ hl => w_X11_readCond g dn R_X11_readAtom R_X11_readAllOf R_X11_readCond hR_X11_readAtom hR_X11_readAllOf hR_X11_readCond  E S hret M  _ _ ls h hZ hl)
def fr_X11 : Nat → (zM → Option (Int32 × zM)) × (zM → Option (Int32 × zM)) × (zM → Option (Int32 × zM))
  | 0 => (fun _  => none, fun _  => none, fun _  => none)
  | n + 1 => (g_X11_readAtom (fr_X11 n).1 (fr_X11 n).2.1 (fr_X11 n).2.2, g_X11_readAllOf (fr_X11 n).1 (fr_X11 n).2.1 (fr_X11 n).2.2, g_X11_readCond (fr_X11 n).1 (fr_X11 n).2.1 (fr_X11 n).2.2)
def f_X11_readAtom (M : zM)  : Option (Int32 × zM) := (fr_X11 36).1 M 
def f_X11_readAllOf (M : zM)  : Option (Int32 × zM) := (fr_X11 36).2.1 M 
def f_X11_readCond (M : zM)  : Option (Int32 × zM) := (fr_X11 36).2.2 M 
theorem cr_X11 (l : Launch) (g : zG) : ∀ n : Nat, (∀ (M : zM)   (r : Int32 × zM), (fr_X11 n).1 M  = some r → zMis l g rE 15 yX11_readAtom (zWs yX11_readAtom cX11_readAtom 2 (some .boolean)) (16 * n) [.ref (g.2.2 0)] M (fun v M1 => r = (v, M1))) ∧ (∀ (M : zM)   (r : Int32 × zM), (fr_X11 n).2.1 M  = some r → zMis l g rE 15 yX11_readAllOf (zWs yX11_readAllOf cX11_readAllOf 1 (some .boolean)) (16 * n) [.ref (g.2.2 0)] M (fun v M1 => r = (v, M1))) ∧ (∀ (M : zM)   (r : Int32 × zM), (fr_X11 n).2.2 M  = some r → zMis l g rE 15 yX11_readCond (zWs yX11_readCond cX11_readCond 1 (some .boolean)) (16 * n) [.ref (g.2.2 0)] M (fun v M1 => r = (v, M1))) := by
  intro n
  induction n with
  | zero => exact ⟨(by intros; rename_i h; cases h), (by intros; rename_i h; cases h), (by intros; rename_i h; cases h)⟩
  | succ n ih =>
    obtain ⟨h0, h1, h2⟩ := ih
    exact ⟨fun M r h => oc_X11_readAtom l g (16 * n) _ _ _ h0 h1 h2 M h, fun M r h => oc_X11_readAllOf l g (16 * n) _ _ _ h0 h1 h2 M h, fun M r h => oc_X11_readCond l g (16 * n) _ _ _ h0 h1 h2 M h⟩
theorem c_X11_readAtom (l : Launch) (g : zG) (M : zM)   {r : Int32 × zM} (h : f_X11_readAtom M  = some r) : zMis l g rE 15 yX11_readAtom (zWs yX11_readAtom cX11_readAtom 2 (some .boolean)) 576 [.ref (g.2.2 0)] M (fun v M1 => r = (v, M1)) := (cr_X11 l g 36).1 M _ h
theorem c_X11_readAllOf (l : Launch) (g : zG) (M : zM)   {r : Int32 × zM} (h : f_X11_readAllOf M  = some r) : zMis l g rE 15 yX11_readAllOf (zWs yX11_readAllOf cX11_readAllOf 1 (some .boolean)) 576 [.ref (g.2.2 0)] M (fun v M1 => r = (v, M1)) := (cr_X11 l g 36).2.1 M _ h
theorem c_X11_readCond (l : Launch) (g : zG) (M : zM)   {r : Int32 × zM} (h : f_X11_readCond M  = some r) : zMis l g rE 15 yX11_readCond (zWs yX11_readCond cX11_readCond 1 (some .boolean)) 576 [.ref (g.2.2 0)] M (fun v M1 => r = (v, M1)) := (cr_X11 l g 36).2.2 M _ h

def b_X11_readLawLine_142  (M : zM) (x2 : Int32) : Option (Int32 × zM) :=
  zck (zin (x2 + 3) 2030) (znm (zu M 1 (x2 + 3 : Int32).toNatClampNeg (M 0 16)) (fun M_1 => some (1, M_1)))
set_option maxRecDepth 100000 in
set_option maxHeartbeats 4000000 in
theorem lb_X11_readLawLine_142 (g : zG)  {r : Int32 × zM} (E : zX g p m c cX11_readLawLine 3 s args (zWs yX11_readLawLine cX11_readLawLine 3 (some .boolean)) RX11) (S : zSg g 15 s.heap.size s s.heap) (hret : zRi g rE 15 p l e (zrm 577 0 0) s m args below meth c 0 0 Q cX11_readLawLine .boolean (fun v M1 => r = (v, M1))) (M : zM) (x2 : Int32)  (H : Heap) (locs : List Loc) (ls : Array Slot) (h : b_X11_readLawLine_142  M x2 = some r) (hZ : zS g rE 15 s H locs M) (hl : lv_has ls 3 [(0, .ref (g.2.2 0)), (2, .int x2)]) : W p l e (zrm 577 0 0) s m args below meth c H locs 0 0 Q (F0 m 142 ls []) := by
  have hx := E.1.1
  have hb := E.1.2.1
  unfold b_X11_readLawLine_142 at h
  refine lv_aload_n hx hb dX11_readLawLine_142 rfl (lv_at hl 0 rfl) ?_
  refine zg (v := .ref (g.2.2 1)) E hZ (by decide) (re_0 _) kc_X11 1 (by decide) kw_1369 rfl rfl dX11_readLawLine_143 ?_
  refine lv_iload_n hx hb dX11_readLawLine_146 rfl (lv_at hl 1 rfl) ?_
  refine lv_iconst (v := 3) hx hb dX11_readLawLine_147 (by decide) ?_
  refine lv_iadd hx hb dX11_readLawLine_148 ?_
  refine lv_aload_n hx hb dX11_readLawLine_149 rfl (lv_at hl 0 rfl) ?_
  refine zg (v := .int (M 0 16)) E hZ (by decide) (re_0 _) kc_X11 16 (by decide) kw_1384 rfl rfl dX11_readLawLine_150 ?_
  refine zis h E hZ (by decide) re_1 dX11_readLawLine_153 (fun M_1 H locs eM_1 h hZ => ?_)
  refine lv_iconst (v := 1) hx hb dX11_readLawLine_154 (by decide) ?_
  exact hret _ _ _ _ _ _ (Option.some.inj h).symm rfl hZ dX11_readLawLine_155
def b_X11_readLawLine_93  (M : zM) (x2 : Int32) (t0 : Int32) (t1 : Int32) : Option (Int32 × zM) :=
  zck (zin t1 2030) (znm (zu M 1 (t1 : Int32).toNatClampNeg t0) (fun M_2 => zck (zin (x2 + 1) 2030) (if 0 ≤ (M_2 1 (x2 + 1 : Int32).toNatClampNeg) then (zck (zin (x2 + 2) 2030) (znm (zu M_2 1 (x2 + 2 : Int32).toNatClampNeg (M_2 0 16)) (fun M_3 => znm (zu M_3 0 13 0) (fun M_4 => zbn (f_X11_passes M_4 19) (fun u_5 => if u_5.1 = 0 then (b_X11_readLawLine_142  u_5.2 x2) else (zbn (f_X11_readCond u_5.2 ) (fun u_6 => if u_6.1 = 0 then (some (0, u_6.2)) else (b_X11_readLawLine_142  u_6.2 x2)))))))) else (some (0, M_2)))))
set_option maxRecDepth 100000 in
set_option maxHeartbeats 4000000 in
theorem lb_X11_readLawLine_93 (g : zG)  {r : Int32 × zM} (E : zX g p m c cX11_readLawLine 3 s args (zWs yX11_readLawLine cX11_readLawLine 3 (some .boolean)) RX11) (S : zSg g 15 s.heap.size s s.heap) (hret : zRi g rE 15 p l e (zrm 577 0 0) s m args below meth c 0 0 Q cX11_readLawLine .boolean (fun v M1 => r = (v, M1))) (M : zM) (x2 : Int32) (t0 : Int32) (t1 : Int32)  (H : Heap) (locs : List Loc) (ls : Array Slot) (h : b_X11_readLawLine_93  M x2 t0 t1 = some r) (hZ : zS g rE 15 s H locs M) (hl : lv_has ls 3 [(0, .ref (g.2.2 0)), (2, .int x2)]) : W p l e (zrm 577 0 0) s m args below meth c H locs 0 0 Q (F0 m 93 ls [.int t0, .int t1, .ref (g.2.2 1)]) := by
  have hx := E.1.1
  have hb := E.1.2.1
  unfold b_X11_readLawLine_93 at h
  refine zis h E hZ (by decide) re_1 dX11_readLawLine_93 (fun M_2 H locs eM_2 h hZ => ?_)
  refine lv_aload_n hx hb dX11_readLawLine_94 rfl (lv_at hl 0 rfl) ?_
  refine zg (v := .ref (g.2.2 1)) E hZ (by decide) (re_0 _) kc_X11 1 (by decide) kw_1369 rfl rfl dX11_readLawLine_95 ?_
  refine lv_iload_n hx hb dX11_readLawLine_98 rfl (lv_at hl 1 rfl) ?_
  refine lv_iconst (v := 1) hx hb dX11_readLawLine_99 (by decide) ?_
  refine lv_iadd hx hb dX11_readLawLine_100 ?_
  refine zia h E hZ (by decide) re_1 dX11_readLawLine_101 (fun h => ?_)
  refine zif_ge (tgt := 107) h E dX11_readLawLine_102 (by decide) (fun c_9 h => ?_) (fun c_9 h => ?_)
  · refine lv_aload_n hx hb dX11_readLawLine_107 rfl (lv_at hl 0 rfl) ?_
    refine zg (v := .ref (g.2.2 1)) E hZ (by decide) (re_0 _) kc_X11 1 (by decide) kw_1369 rfl rfl dX11_readLawLine_108 ?_
    refine lv_iload_n hx hb dX11_readLawLine_111 rfl (lv_at hl 1 rfl) ?_
    refine lv_iconst (v := 2) hx hb dX11_readLawLine_112 (by decide) ?_
    refine lv_iadd hx hb dX11_readLawLine_113 ?_
    refine lv_aload_n hx hb dX11_readLawLine_114 rfl (lv_at hl 0 rfl) ?_
    refine zg (v := .int (M_2 0 16)) E hZ (by decide) (re_0 _) kc_X11 16 (by decide) kw_1384 rfl rfl dX11_readLawLine_115 ?_
    refine zis h E hZ (by decide) re_1 dX11_readLawLine_118 (fun M_3 H locs eM_3 h hZ => ?_)
    refine lv_aload_n hx hb dX11_readLawLine_119 rfl (lv_at hl 0 rfl) ?_
    refine lv_iconst (v := 0) hx hb dX11_readLawLine_120 (by decide) ?_
    refine zp h E hZ (by decide) (re_0 _) ((re_0 _).trans (congrArg (fun z => Sum.inr (10, z)) (fs_X11_13 g _ _ _))) kc_X11 (by decide) kw_1381 rfl rfl rfl (Nat.le_of_ble_eq_true rfl) dX11_readLawLine_121 (fun M_4 H locs eM_4 h hZ => ?_)
    refine lv_aload_n hx hb dX11_readLawLine_124 rfl (lv_at hl 0 rfl) ?_
    refine zlds E S zst_19 dX11_readLawLine_125 ?_
    obtain ⟨u_5, qu_5, h⟩ := zbn_some h
    refine zciS (zrunVs E S hZ (by decide) (re_0 _) rfl rfl v_X11_passes kw_1568 (c_X11_passes l g M_4 19 (by decide)  qu_5 _) rfl hl.1 rfl (Nat.le_of_ble_eq_true rfl) ⟨by decide, by decide⟩ ⟨by decide, by decide⟩ dX11_readLawLine_127) hZ (fun H locs hZ => ?_)
    refine zif_eq (tgt := 142) h E dX11_readLawLine_130 (by decide) (fun c_8 h => ?_) (fun c_8 h => ?_)
    · exact lb_X11_readLawLine_142 g  E S hret u_5.2 x2  H locs ls h hZ (lv_sub hl [0, 1] rfl)
    · refine lv_aload_n hx hb dX11_readLawLine_133 rfl (lv_at hl 0 rfl) ?_
      obtain ⟨u_6, qu_6, h⟩ := zbn_some h
      refine zciS (zrunVs E S hZ (by decide) (re_0 _) rfl rfl v_X11_readCond kw_1609 (c_X11_readCond l g u_5.2   qu_6 _) rfl hl.1 rfl (Nat.le_of_ble_eq_true rfl) ⟨by decide, by decide⟩ ⟨by decide, by decide⟩ dX11_readLawLine_134) hZ (fun H locs hZ => ?_)
      refine zif_ne (tgt := 142) h E dX11_readLawLine_137 (by decide) (fun c_7 h => ?_) (fun c_7 h => ?_)
      · exact lb_X11_readLawLine_142 g  E S hret u_6.2 x2  H locs ls h hZ (lv_sub hl [0, 1] rfl)
      · refine lv_iconst (v := 0) hx hb dX11_readLawLine_140 (by decide) ?_
        exact hret _ _ _ _ _ _ (Option.some.inj h).symm rfl hZ dX11_readLawLine_141
  · refine lv_iconst (v := 0) hx hb dX11_readLawLine_105 (by decide) ?_
    exact hret _ _ _ _ _ _ (Option.some.inj h).symm rfl hZ dX11_readLawLine_106
def b_X11_readLawLine_53  (M : zM) (x2 : Int32) (t0 : Int32) (t1 : Int32) : Option (Int32 × zM) :=
  zck (zin t1 2030) (znm (zu M 1 (t1 : Int32).toNatClampNeg t0) (fun M_10 => zck (zin x2 2030) (if 0 ≤ (M_10 1 (x2 : Int32).toNatClampNeg) then (zck (zin x2 2030) (if (M_10 1 (x2 : Int32).toNatClampNeg) = 1 then (b_X11_readLawLine_93  M_10 x2 1 (x2 + 1)) else (zbn (f_X11_number M_10 0 9) (fun u_11 => b_X11_readLawLine_93  u_11.2 x2 u_11.1 (x2 + 1))))) else (some (0, M_10)))))
set_option maxRecDepth 100000 in
set_option maxHeartbeats 4000000 in
theorem lb_X11_readLawLine_53 (g : zG)  {r : Int32 × zM} (E : zX g p m c cX11_readLawLine 3 s args (zWs yX11_readLawLine cX11_readLawLine 3 (some .boolean)) RX11) (S : zSg g 15 s.heap.size s s.heap) (hret : zRi g rE 15 p l e (zrm 577 0 0) s m args below meth c 0 0 Q cX11_readLawLine .boolean (fun v M1 => r = (v, M1))) (M : zM) (x2 : Int32) (t0 : Int32) (t1 : Int32)  (H : Heap) (locs : List Loc) (ls : Array Slot) (h : b_X11_readLawLine_53  M x2 t0 t1 = some r) (hZ : zS g rE 15 s H locs M) (hl : lv_has ls 3 [(0, .ref (g.2.2 0)), (2, .int x2)]) : W p l e (zrm 577 0 0) s m args below meth c H locs 0 0 Q (F0 m 53 ls [.int t0, .int t1, .ref (g.2.2 1)]) := by
  have hx := E.1.1
  have hb := E.1.2.1
  unfold b_X11_readLawLine_53 at h
  refine zis h E hZ (by decide) re_1 dX11_readLawLine_53 (fun M_10 H locs eM_10 h hZ => ?_)
  refine lv_aload_n hx hb dX11_readLawLine_54 rfl (lv_at hl 0 rfl) ?_
  refine zg (v := .ref (g.2.2 1)) E hZ (by decide) (re_0 _) kc_X11 1 (by decide) kw_1369 rfl rfl dX11_readLawLine_55 ?_
  refine lv_iload_n hx hb dX11_readLawLine_58 rfl (lv_at hl 1 rfl) ?_
  refine zia h E hZ (by decide) re_1 dX11_readLawLine_59 (fun h => ?_)
  refine zif_ge (tgt := 65) h E dX11_readLawLine_60 (by decide) (fun c_13 h => ?_) (fun c_13 h => ?_)
  · refine lv_aload_n hx hb dX11_readLawLine_65 rfl (lv_at hl 0 rfl) ?_
    refine zg (v := .ref (g.2.2 1)) E hZ (by decide) (re_0 _) kc_X11 1 (by decide) kw_1369 rfl rfl dX11_readLawLine_66 ?_
    refine lv_iload_n hx hb dX11_readLawLine_69 rfl (lv_at hl 1 rfl) ?_
    refine lv_iconst (v := 1) hx hb dX11_readLawLine_70 (by decide) ?_
    refine lv_iadd hx hb dX11_readLawLine_71 ?_
    refine lv_aload_n hx hb dX11_readLawLine_72 rfl (lv_at hl 0 rfl) ?_
    refine zg (v := .ref (g.2.2 1)) E hZ (by decide) (re_0 _) kc_X11 1 (by decide) kw_1369 rfl rfl dX11_readLawLine_73 ?_
    refine lv_iload_n hx hb dX11_readLawLine_76 rfl (lv_at hl 1 rfl) ?_
    refine zia h E hZ (by decide) re_1 dX11_readLawLine_77 (fun h => ?_)
    refine lv_iconst (v := 1) hx hb dX11_readLawLine_78 (by decide) ?_
    refine zic_ne (tgt := 86) h E dX11_readLawLine_79 (by decide) (fun c_12 h => ?_) (fun c_12 h => ?_)
    · refine lv_aload_n hx hb dX11_readLawLine_86 rfl (lv_at hl 0 rfl) ?_
      refine lv_iconst (v := 0) hx hb dX11_readLawLine_87 (by decide) ?_
      refine lv_bipush (v := 9) hx hb dX11_readLawLine_88 (by decide) ?_
      obtain ⟨u_11, qu_11, h⟩ := zbn_some h
      refine zciS (zrunV E hZ (by decide) (re_0 _) rfl rfl v_X11_number kw_1537 (c_X11_number l g M_10  0 9 qu_11 _) rfl hl.1 rfl (Nat.le_of_ble_eq_true rfl) ⟨by decide, by decide⟩ ⟨by decide, by decide⟩ dX11_readLawLine_90) hZ (fun H locs hZ => ?_)
      exact lb_X11_readLawLine_93 g  E S hret u_11.2 x2 u_11.1 (x2 + 1)  H locs ls h hZ (lv_sub hl [0, 1] rfl)
    · refine lv_iconst (v := 1) hx hb dX11_readLawLine_82 (by decide) ?_
      refine lv_goto (tgt := 93) hx hb dX11_readLawLine_83 (by decide) ?_
      exact lb_X11_readLawLine_93 g  E S hret M_10 x2 1 (x2 + 1)  H locs ls h hZ (lv_sub hl [0, 1] rfl)
  · refine lv_iconst (v := 0) hx hb dX11_readLawLine_63 (by decide) ?_
    exact hret _ _ _ _ _ _ (Option.some.inj h).symm rfl hZ dX11_readLawLine_64
def f_X11_readLawLine (M : zM) (x1 : Int32) : Option (Int32 × zM) :=
  znm (1182 + (4 * x1)) (fun x2_14 => zbn (f_X11_isWord M 16) (fun u_15 => if u_15 = 0 then (zbn (f_X11_isWord M 17) (fun u_16 => if u_16 = 0 then (zbn (f_X11_isWord M 18) (fun u_17 => if u_17 = 0 then (b_X11_readLawLine_53  M x2_14 ((-1)) x2_14) else (b_X11_readLawLine_53  M x2_14 2 x2_14))) else (b_X11_readLawLine_53  M x2_14 1 x2_14))) else (b_X11_readLawLine_53  M x2_14 0 x2_14)))
set_option maxRecDepth 100000 in
set_option maxHeartbeats 4000000 in
theorem w_X11_readLawLine (g : zG)  {r : Int32 × zM} (E : zX g p m c cX11_readLawLine 3 s args (zWs yX11_readLawLine cX11_readLawLine 3 (some .boolean)) RX11) (S : zSg g 15 s.heap.size s s.heap) (hret : zRi g rE 15 p l e (zrm 577 0 0) s m args below meth c 0 0 Q cX11_readLawLine .boolean (fun v M1 => r = (v, M1))) (M : zM) (x1 : Int32) (H : Heap) (locs : List Loc) (ls : Array Slot) (h : f_X11_readLawLine M x1 = some r) (hZ : zS g rE 15 s H locs M) (hl : lv_has ls 3 [(0, .ref (g.2.2 0)), (1, .int x1)]) : W p l e (zrm 577 0 0) s m args below meth c H locs 0 0 Q (F0 m 0 ls []) := by
  have hx := E.1.1
  have hb := E.1.2.1
  unfold f_X11_readLawLine at h
  refine lv_sipush (v := 1182) hx hb dX11_readLawLine_0 (by decide) ?_
  refine lv_iconst (v := 4) hx hb dX11_readLawLine_3 (by decide) ?_
  refine lv_iload_n hx hb dX11_readLawLine_4 rfl (lv_at hl 1 rfl) ?_
  refine lv_imul hx hb dX11_readLawLine_5 ?_
  refine lv_iadd hx hb dX11_readLawLine_6 ?_
  refine zni h (fun x2_14 ex2_14 h => ?_)
  refine lv_istore_n (lv' := [(2, .int x2_14), (0, .ref (g.2.2 0)), (1, .int x1)]) hx hb dX11_readLawLine_7 rfl hl (by decide) rfl (fun ls hl => ?_)
  refine lv_aload_n hx hb dX11_readLawLine_8 rfl (lv_at hl 1 rfl) ?_
  refine zg (v := .ref (g.2.2 1)) E hZ (by decide) (re_0 _) kc_X11 1 (by decide) kw_1369 rfl rfl dX11_readLawLine_9 ?_
  refine lv_iload_n hx hb dX11_readLawLine_12 rfl (lv_at hl 0 rfl) ?_
  refine lv_aload_n hx hb dX11_readLawLine_13 rfl (lv_at hl 1 rfl) ?_
  refine zlds E S zst_16 dX11_readLawLine_14 ?_
  obtain ⟨u_15, qu_15, h⟩ := zbn_some h
  refine zciR (zrunVs E S hZ (by decide) (re_0 _) rfl rfl v_X11_isWord kw_1501 (c_X11_isWord l g M 16 (by decide)  qu_15 _) rfl hl.1 rfl (Nat.le_of_ble_eq_true rfl) ⟨by decide, by decide⟩ ⟨by decide, by decide⟩ dX11_readLawLine_16) hZ (fun H locs hZ => ?_)
  refine zif_eq (tgt := 26) h E dX11_readLawLine_19 (by decide) (fun c_20 h => ?_) (fun c_20 h => ?_)
  · refine lv_aload_n hx hb dX11_readLawLine_26 rfl (lv_at hl 1 rfl) ?_
    refine zlds E S zst_17 dX11_readLawLine_27 ?_
    obtain ⟨u_16, qu_16, h⟩ := zbn_some h
    refine zciR (zrunVs E S hZ (by decide) (re_0 _) rfl rfl v_X11_isWord kw_1501 (c_X11_isWord l g M 17 (by decide)  qu_16 _) rfl hl.1 rfl (Nat.le_of_ble_eq_true rfl) ⟨by decide, by decide⟩ ⟨by decide, by decide⟩ dX11_readLawLine_29) hZ (fun H locs hZ => ?_)
    refine zif_eq (tgt := 39) h E dX11_readLawLine_32 (by decide) (fun c_19 h => ?_) (fun c_19 h => ?_)
    · refine lv_aload_n hx hb dX11_readLawLine_39 rfl (lv_at hl 1 rfl) ?_
      refine zlds E S zst_18 dX11_readLawLine_40 ?_
      obtain ⟨u_17, qu_17, h⟩ := zbn_some h
      refine zciR (zrunVs E S hZ (by decide) (re_0 _) rfl rfl v_X11_isWord kw_1501 (c_X11_isWord l g M 18 (by decide)  qu_17 _) rfl hl.1 rfl (Nat.le_of_ble_eq_true rfl) ⟨by decide, by decide⟩ ⟨by decide, by decide⟩ dX11_readLawLine_42) hZ (fun H locs hZ => ?_)
      refine zif_eq (tgt := 52) h E dX11_readLawLine_45 (by decide) (fun c_18 h => ?_) (fun c_18 h => ?_)
      · refine lv_iconst (v := (-1)) hx hb dX11_readLawLine_52 (by decide) ?_
        exact lb_X11_readLawLine_53 g  E S hret M x2_14 ((-1)) x2_14  H locs ls h hZ (lv_sub hl [1, 0] rfl)
      · refine lv_iconst (v := 2) hx hb dX11_readLawLine_48 (by decide) ?_
        refine lv_goto (tgt := 53) hx hb dX11_readLawLine_49 (by decide) ?_
        exact lb_X11_readLawLine_53 g  E S hret M x2_14 2 x2_14  H locs ls h hZ (lv_sub hl [1, 0] rfl)
    · refine lv_iconst (v := 1) hx hb dX11_readLawLine_35 (by decide) ?_
      refine lv_goto (tgt := 53) hx hb dX11_readLawLine_36 (by decide) ?_
      exact lb_X11_readLawLine_53 g  E S hret M x2_14 1 x2_14  H locs ls h hZ (lv_sub hl [1, 0] rfl)
  · refine lv_iconst (v := 0) hx hb dX11_readLawLine_22 (by decide) ?_
    refine lv_goto (tgt := 53) hx hb dX11_readLawLine_23 (by decide) ?_
    exact lb_X11_readLawLine_53 g  E S hret M x2_14 0 x2_14  H locs ls h hZ (lv_sub hl [1, 0] rfl)
theorem c_X11_readLawLine (l : Launch) (g : zG) (M : zM)  (x1 : Int32) {r : Int32 × zM} (h : f_X11_readLawLine M x1 = some r) : zMis l g rE 15 yX11_readLawLine (zWs yX11_readLawLine cX11_readLawLine 3 (some .boolean)) 577 [.ref (g.2.2 0), .int x1] M (fun v M1 => r = (v, M1)) :=
  zMis_of (by decide +kernel) (Nat.le_of_ble_eq_true rfl) (fun p e s m args below meth c Q ls E S hret hZ hl => w_X11_readLawLine g  E S hret M x1 _ _ ls h hZ hl)
theorem v_X11_readLawLine : zYV yX11_readLawLine cX11_readLawLine 3 (some .boolean) 1 := ⟨kw_1604, kw_15, kw_1603, kp_60, by decide +kernel⟩

def b_X11_readLine_16  (M : zM) (x1 : Int32) (x2 : Int32) (t0 : Int32) (t1 : Int32) : Option (Int32 × zM) :=
  if t0 ≤ t1 then (some (0, M)) else (if x1 = 0 then (zbn (f_X11_readLawLine M x2) (fun u_1 => if u_1.1 = 0 then (some (0, u_1.2)) else (some (1, u_1.2)))) else (zbn (f_X11_readCoastLine M ) (fun u_3 => if u_3.1 = 0 then (some (0, u_3.2)) else (some (1, u_3.2)))))
set_option maxRecDepth 100000 in
set_option maxHeartbeats 4000000 in
theorem lb_X11_readLine_16 (g : zG)  {r : Int32 × zM} (E : zX g p m c cX11_readLine 3 s args (zWs yX11_readLine cX11_readLine 3 (some .boolean)) RX11) (S : zSg g 15 s.heap.size s s.heap) (hret : zRi g rE 15 p l e (zrm 578 0 0) s m args below meth c 0 0 Q cX11_readLine .boolean (fun v M1 => r = (v, M1))) (M : zM) (x1 : Int32) (x2 : Int32) (t0 : Int32) (t1 : Int32)  (H : Heap) (locs : List Loc) (ls : Array Slot) (h : b_X11_readLine_16  M x1 x2 t0 t1 = some r) (hZ : zS g rE 15 s H locs M) (hl : lv_has ls 3 [(0, .ref (g.2.2 0)), (1, .int x1), (2, .int x2)]) : W p l e (zrm 578 0 0) s m args below meth c H locs 0 0 Q (F0 m 16 ls [.int t0, .int t1]) := by
  have hx := E.1.1
  have hb := E.1.2.1
  unfold b_X11_readLine_16 at h
  refine zic_ge (tgt := 45) h E dX11_readLine_16 (by decide) (fun c_6 h => ?_) (fun c_6 h => ?_)
  · refine lv_iconst (v := 0) hx hb dX11_readLine_45 (by decide) ?_
    exact hret _ _ _ _ _ _ (Option.some.inj h).symm rfl hZ dX11_readLine_46
  · refine lv_iload_n hx hb dX11_readLine_19 rfl (lv_at hl 1 rfl) ?_
    refine zif_eq (tgt := 33) h E dX11_readLine_20 (by decide) (fun c_5 h => ?_) (fun c_5 h => ?_)
    · refine lv_aload_n hx hb dX11_readLine_33 rfl (lv_at hl 0 rfl) ?_
      refine lv_iload_n hx hb dX11_readLine_34 rfl (lv_at hl 2 rfl) ?_
      obtain ⟨u_1, qu_1, h⟩ := zbn_some h
      refine zciS (zrunVs E S hZ (by decide) (re_0 _) rfl rfl v_X11_readLawLine kw_1601 (c_X11_readLawLine l g M  x2 qu_1 _) rfl hl.1 rfl (Nat.le_of_ble_eq_true rfl) ⟨by decide, by decide⟩ ⟨by decide, by decide⟩ dX11_readLine_35) hZ (fun H locs hZ => ?_)
      refine zif_eq (tgt := 45) h E dX11_readLine_38 (by decide) (fun c_2 h => ?_) (fun c_2 h => ?_)
      · refine lv_iconst (v := 0) hx hb dX11_readLine_45 (by decide) ?_
        exact hret _ _ _ _ _ _ (Option.some.inj h).symm rfl hZ dX11_readLine_46
      · refine lv_iconst (v := 1) hx hb dX11_readLine_41 (by decide) ?_
        refine lv_goto (tgt := 46) hx hb dX11_readLine_42 (by decide) ?_
        exact hret _ _ _ _ _ _ (Option.some.inj h).symm rfl hZ dX11_readLine_46
    · refine lv_aload_n hx hb dX11_readLine_23 rfl (lv_at hl 0 rfl) ?_
      obtain ⟨u_3, qu_3, h⟩ := zbn_some h
      refine zciS (zrunVs E S hZ (by decide) (re_0 _) rfl rfl v_X11_readCoastLine kw_1496 (c_X11_readCoastLine l g M   qu_3 _) rfl hl.1 rfl (Nat.le_of_ble_eq_true rfl) ⟨by decide, by decide⟩ ⟨by decide, by decide⟩ dX11_readLine_24) hZ (fun H locs hZ => ?_)
      refine zif_eq (tgt := 45) h E dX11_readLine_27 (by decide) (fun c_4 h => ?_) (fun c_4 h => ?_)
      · refine lv_iconst (v := 0) hx hb dX11_readLine_45 (by decide) ?_
        exact hret _ _ _ _ _ _ (Option.some.inj h).symm rfl hZ dX11_readLine_46
      · refine lv_goto (tgt := 41) hx hb dX11_readLine_30 (by decide) ?_
        refine lv_iconst (v := 1) hx hb dX11_readLine_41 (by decide) ?_
        refine lv_goto (tgt := 46) hx hb dX11_readLine_42 (by decide) ?_
        exact hret _ _ _ _ _ _ (Option.some.inj h).symm rfl hZ dX11_readLine_46
def f_X11_readLine (M : zM) (x1 : Int32) (x2 : Int32) : Option (Int32 × zM) :=
  zbn (f_X11_letters M ) (fun u_7 => if x1 = 0 then (b_X11_readLine_16  u_7 x1 x2 12 x2) else (b_X11_readLine_16  u_7 x1 x2 14 x2))
set_option maxRecDepth 100000 in
set_option maxHeartbeats 4000000 in
theorem w_X11_readLine (g : zG)  {r : Int32 × zM} (E : zX g p m c cX11_readLine 3 s args (zWs yX11_readLine cX11_readLine 3 (some .boolean)) RX11) (S : zSg g 15 s.heap.size s s.heap) (hret : zRi g rE 15 p l e (zrm 578 0 0) s m args below meth c 0 0 Q cX11_readLine .boolean (fun v M1 => r = (v, M1))) (M : zM) (x1 : Int32) (x2 : Int32) (H : Heap) (locs : List Loc) (ls : Array Slot) (h : f_X11_readLine M x1 x2 = some r) (hZ : zS g rE 15 s H locs M) (hl : lv_has ls 3 [(0, .ref (g.2.2 0)), (1, .int x1), (2, .int x2)]) : W p l e (zrm 578 0 0) s m args below meth c H locs 0 0 Q (F0 m 0 ls []) := by
  have hx := E.1.1
  have hb := E.1.2.1
  unfold f_X11_readLine at h
  refine lv_aload_n hx hb dX11_readLine_0 rfl (lv_at hl 0 rfl) ?_
  obtain ⟨u_7, qu_7, h⟩ := zbn_some h
  refine zcvS (zrunV E hZ (by decide) (re_0 _) rfl rfl v_X11_letters kw_1492 (c_X11_letters l g M   qu_7 _) rfl hl.1 rfl (Nat.le_of_ble_eq_true rfl) ⟨by decide, by decide⟩ ⟨by decide, by decide⟩ dX11_readLine_1) hZ (fun H locs hZ => ?_)
  refine lv_iload_n hx hb dX11_readLine_4 rfl (lv_at hl 2 rfl) ?_
  refine lv_iload_n hx hb dX11_readLine_5 rfl (lv_at hl 1 rfl) ?_
  refine zif_eq (tgt := 14) h E dX11_readLine_6 (by decide) (fun c_8 h => ?_) (fun c_8 h => ?_)
  · refine lv_bipush (v := 12) hx hb dX11_readLine_14 (by decide) ?_
    exact lb_X11_readLine_16 g  E S hret u_7 x1 x2 12 x2  H locs ls h hZ (lv_sub hl [0, 1, 2] rfl)
  · refine lv_bipush (v := 14) hx hb dX11_readLine_9 (by decide) ?_
    refine lv_goto (tgt := 16) hx hb dX11_readLine_11 (by decide) ?_
    exact lb_X11_readLine_16 g  E S hret u_7 x1 x2 14 x2  H locs ls h hZ (lv_sub hl [0, 1, 2] rfl)
theorem c_X11_readLine (l : Launch) (g : zG) (M : zM)  (x1 : Int32) (x2 : Int32) {r : Int32 × zM} (h : f_X11_readLine M x1 x2 = some r) : zMis l g rE 15 yX11_readLine (zWs yX11_readLine cX11_readLine 3 (some .boolean)) 578 [.ref (g.2.2 0), .int x1, .int x2] M (fun v M1 => r = (v, M1)) :=
  zMis_of (by decide +kernel) (Nat.le_of_ble_eq_true rfl) (fun p e s m args below meth c Q ls E S hret hZ hl => w_X11_readLine g  E S hret M x1 x2 _ _ ls h hZ hl)
theorem v_X11_readLine : zYV yX11_readLine cX11_readLine 3 (some .boolean) 2 := ⟨kw_1491, kw_15, kw_1490, kp_44, by decide +kernel⟩

def b_X11_readAll_54  (M : zM) (x2 : Int32) : Option (Int32 × zM) :=
  some (x2 + 1, M)
set_option maxRecDepth 100000 in
set_option maxHeartbeats 4000000 in
theorem lb_X11_readAll_54 (g : zG)  {r : Int32 × zM} (E : zX g p m c cX11_readAll 3 s args (zWs yX11_readAll cX11_readAll 3 (some .int)) RX11) (S : zSg g 15 s.heap.size s s.heap) (hret : zRi g rE 15 p l e (zrm 579 0 0) s m args below meth c 0 0 Q cX11_readAll .int (fun v M1 => r = (v, M1))) (M : zM) (x2 : Int32)  (H : Heap) (locs : List Loc) (ls : Array Slot) (h : b_X11_readAll_54  M x2 = some r) (hZ : zS g rE 15 s H locs M) (hl : lv_has ls 3 [(2, .int x2)]) : W p l e (zrm 579 0 0) s m args below meth c H locs 0 0 Q (F0 m 54 ls []) := by
  have hx := E.1.1
  have hb := E.1.2.1
  unfold b_X11_readAll_54 at h
  refine lv_iload_n hx hb dX11_readAll_54 rfl (lv_at hl 0 rfl) ?_
  refine lv_iconst (v := 1) hx hb dX11_readAll_55 (by decide) ?_
  refine lv_iadd hx hb dX11_readAll_56 ?_
  exact hret _ _ _ _ _ _ (Option.some.inj h).symm rfl hZ dX11_readAll_57
def b_X11_readAll_28  (x1 : Int32) : Nat → zM → Int32 → Option (Int32 × zM)
  | 0, _, _ => none
  | n + 1, M, x2 =>
    zbn (f_X11_readLine M x1 x2) (fun u_1 => if u_1.1 = 0 then (some ((-1), u_1.2)) else (zbn (f_X11_blanks u_1.2 ) (fun u_2 => if (u_2 0 10) = (u_2 0 11) then (b_X11_readAll_54  u_2 x2) else (zbn (f_X11_isAt u_2 59 59) (fun u_3 => if u_3 = 0 then (some ((-1), u_2)) else (znm (zu u_2 0 10 ((u_2 0 10) + 1)) (fun M_4 => znm (x2 + 1) (fun x2_5 => b_X11_readAll_28  x1 n M_4 x2_5))))))))
set_option maxRecDepth 100000 in
set_option maxHeartbeats 4000000 in
theorem lb_X11_readAll_28 (g : zG)  {r : Int32 × zM} (E : zX g p m c cX11_readAll 3 s args (zWs yX11_readAll cX11_readAll 3 (some .int)) RX11) (S : zSg g 15 s.heap.size s s.heap) (hret : zRi g rE 15 p l e (zrm 579 0 0) s m args below meth c 0 0 Q cX11_readAll .int (fun v M1 => r = (v, M1))) (x1 : Int32)  : ∀ (n : Nat) (M : zM) (x2 : Int32) (H : Heap) (locs : List Loc) (ls : Array Slot), b_X11_readAll_28  x1 n M x2 = some r → zS g rE 15 s H locs M → lv_has ls 3 [(0, .ref (g.2.2 0)), (1, .int x1), (2, .int x2)] → W p l e (zrm 579 0 0) s m args below meth c H locs 0 0 Q (F0 m 28 ls []) := by
  have hx := E.1.1
  have hb := E.1.2.1
  intro n
  induction n with
  | zero => intro M x2 H locs ls h hZ hl; cases h
  | succ n ih =>
    intro M x2 H locs ls h hZ hl
    rw [b_X11_readAll_28] at h
    refine lv_aload_n hx hb dX11_readAll_28 rfl (lv_at hl 0 rfl) ?_
    refine lv_iload_n hx hb dX11_readAll_29 rfl (lv_at hl 1 rfl) ?_
    refine lv_iload_n hx hb dX11_readAll_30 rfl (lv_at hl 2 rfl) ?_
    obtain ⟨u_1, qu_1, h⟩ := zbn_some h
    refine zciS (zrunVs E S hZ (by decide) (re_0 _) rfl rfl v_X11_readLine kw_1488 (c_X11_readLine l g M  x1 x2 qu_1 _) rfl hl.1 rfl (Nat.le_of_ble_eq_true rfl) ⟨by decide, by decide⟩ ⟨by decide, by decide⟩ dX11_readAll_31) hZ (fun H locs hZ => ?_)
    refine zif_ne (tgt := 39) h E dX11_readAll_34 (by decide) (fun c_8 h => ?_) (fun c_8 h => ?_)
    · refine lv_aload_n hx hb dX11_readAll_39 rfl (lv_at hl 0 rfl) ?_
      obtain ⟨u_2, qu_2, h⟩ := zbn_some h
      refine zcvS (zrunV E hZ (by decide) (re_0 _) rfl rfl v_X11_blanks kw_1480 (c_X11_blanks l g u_1.2   qu_2 _) rfl hl.1 rfl (Nat.le_of_ble_eq_true rfl) ⟨by decide, by decide⟩ ⟨by decide, by decide⟩ dX11_readAll_40) hZ (fun H locs hZ => ?_)
      refine lv_aload_n hx hb dX11_readAll_43 rfl (lv_at hl 0 rfl) ?_
      refine zg (v := .int (u_2 0 10)) E hZ (by decide) (re_0 _) kc_X11 10 (by decide) kw_1378 rfl rfl dX11_readAll_44 ?_
      refine lv_aload_n hx hb dX11_readAll_47 rfl (lv_at hl 0 rfl) ?_
      refine zg (v := .int (u_2 0 11)) E hZ (by decide) (re_0 _) kc_X11 11 (by decide) kw_1379 rfl rfl dX11_readAll_48 ?_
      refine zic_ne (tgt := 58) h E dX11_readAll_51 (by decide) (fun c_7 h => ?_) (fun c_7 h => ?_)
      · refine lv_aload_n hx hb dX11_readAll_58 rfl (lv_at hl 0 rfl) ?_
        refine lv_bipush (v := 59) hx hb dX11_readAll_59 (by decide) ?_
        refine lv_bipush (v := 59) hx hb dX11_readAll_61 (by decide) ?_
        obtain ⟨u_3, qu_3, h⟩ := zbn_some h
        refine zciR (zrunV E hZ (by decide) (re_0 _) rfl rfl v_X11_isAt kw_1484 (c_X11_isAt l g u_2  59 59 qu_3 _) rfl hl.1 rfl (Nat.le_of_ble_eq_true rfl) ⟨by decide, by decide⟩ ⟨by decide, by decide⟩ dX11_readAll_63) hZ (fun H locs hZ => ?_)
        refine zif_ne (tgt := 71) h E dX11_readAll_66 (by decide) (fun c_6 h => ?_) (fun c_6 h => ?_)
        · refine lv_aload_n hx hb dX11_readAll_71 rfl (lv_at hl 0 rfl) ?_
          refine lv_dup hx hb dX11_readAll_72 rfl ?_
          refine zg (v := .int (u_2 0 10)) E hZ (by decide) (re_0 _) kc_X11 10 (by decide) kw_1378 rfl rfl dX11_readAll_73 ?_
          refine lv_iconst (v := 1) hx hb dX11_readAll_76 (by decide) ?_
          refine lv_iadd hx hb dX11_readAll_77 ?_
          refine zp h E hZ (by decide) (re_0 _) ((re_0 _).trans (congrArg (fun z => Sum.inr (10, z)) (fs_X11_10 g _ _ _))) kc_X11 (by decide) kw_1378 rfl rfl rfl (Nat.le_of_ble_eq_true rfl) dX11_readAll_78 (fun M_4 H locs eM_4 h hZ => ?_)
          obtain ⟨x2_5, ex2_5, h⟩ := znm_ex h
          refine lv_iinc (v := x2_5) (lv' := [(2, .int x2_5), (0, .ref (g.2.2 0)), (1, .int x1)]) hx hb dX11_readAll_81 hl (k := 2) rfl (by rw [ex2_5]; rfl) (by decide) rfl (fun ls hl => ?_)
          refine lv_goto (tgt := 28) hx hb dX11_readAll_84 (by decide) ?_
          exact ih M_4 x2_5 H locs ls h hZ (lv_sub hl [1, 2, 0] rfl)
        · refine lv_iconst (v := (-1)) hx hb dX11_readAll_69 (by decide) ?_
          exact hret _ _ _ _ _ _ (Option.some.inj h).symm rfl hZ dX11_readAll_70
      · exact lb_X11_readAll_54 g  E S hret u_2 x2  H locs ls h hZ (lv_sub hl [2] rfl)
    · refine lv_iconst (v := (-1)) hx hb dX11_readAll_37 (by decide) ?_
      exact hret _ _ _ _ _ _ (Option.some.inj h).symm rfl hZ dX11_readAll_38
def f_X11_readAll (M : zM) (x1 : Int32) : Option (Int32 × zM) :=
  zbn (f_X11_uses M ) (fun u_9 => znm (zu u_9 0 16 0) (fun M_10 => zbn (f_X11_blanks M_10 ) (fun u_11 => if (u_11 0 10) = (u_11 0 11) then (some (0, u_11)) else (b_X11_readAll_28  x1 6000 u_11 0))))
set_option maxRecDepth 100000 in
set_option maxHeartbeats 4000000 in
theorem w_X11_readAll (g : zG)  {r : Int32 × zM} (E : zX g p m c cX11_readAll 3 s args (zWs yX11_readAll cX11_readAll 3 (some .int)) RX11) (S : zSg g 15 s.heap.size s s.heap) (hret : zRi g rE 15 p l e (zrm 579 0 0) s m args below meth c 0 0 Q cX11_readAll .int (fun v M1 => r = (v, M1))) (M : zM) (x1 : Int32) (H : Heap) (locs : List Loc) (ls : Array Slot) (h : f_X11_readAll M x1 = some r) (hZ : zS g rE 15 s H locs M) (hl : lv_has ls 3 [(0, .ref (g.2.2 0)), (1, .int x1)]) : W p l e (zrm 579 0 0) s m args below meth c H locs 0 0 Q (F0 m 0 ls []) := by
  have hx := E.1.1
  have hb := E.1.2.1
  unfold f_X11_readAll at h
  refine lv_aload_n hx hb dX11_readAll_0 rfl (lv_at hl 0 rfl) ?_
  obtain ⟨u_9, qu_9, h⟩ := zbn_some h
  refine zcvS (zrunV E hZ (by decide) (re_0 _) rfl rfl v_X11_uses kw_1476 (c_X11_uses l g M   qu_9 _) rfl hl.1 rfl (Nat.le_of_ble_eq_true rfl) ⟨by decide, by decide⟩ ⟨by decide, by decide⟩ dX11_readAll_1) hZ (fun H locs hZ => ?_)
  refine lv_aload_n hx hb dX11_readAll_4 rfl (lv_at hl 0 rfl) ?_
  refine lv_iconst (v := 0) hx hb dX11_readAll_5 (by decide) ?_
  refine zp h E hZ (by decide) (re_0 _) ((re_0 _).trans (congrArg (fun z => Sum.inr (10, z)) (fs_X11_16 g _ _ _))) kc_X11 (by decide) kw_1384 rfl rfl rfl (Nat.le_of_ble_eq_true rfl) dX11_readAll_6 (fun M_10 H locs eM_10 h hZ => ?_)
  refine lv_aload_n hx hb dX11_readAll_9 rfl (lv_at hl 0 rfl) ?_
  obtain ⟨u_11, qu_11, h⟩ := zbn_some h
  refine zcvS (zrunV E hZ (by decide) (re_0 _) rfl rfl v_X11_blanks kw_1480 (c_X11_blanks l g M_10   qu_11 _) rfl hl.1 rfl (Nat.le_of_ble_eq_true rfl) ⟨by decide, by decide⟩ ⟨by decide, by decide⟩ dX11_readAll_10) hZ (fun H locs hZ => ?_)
  refine lv_aload_n hx hb dX11_readAll_13 rfl (lv_at hl 0 rfl) ?_
  refine zg (v := .int (u_11 0 10)) E hZ (by decide) (re_0 _) kc_X11 10 (by decide) kw_1378 rfl rfl dX11_readAll_14 ?_
  refine lv_aload_n hx hb dX11_readAll_17 rfl (lv_at hl 0 rfl) ?_
  refine zg (v := .int (u_11 0 11)) E hZ (by decide) (re_0 _) kc_X11 11 (by decide) kw_1379 rfl rfl dX11_readAll_18 ?_
  refine zic_ne (tgt := 26) h E dX11_readAll_21 (by decide) (fun c_12 h => ?_) (fun c_12 h => ?_)
  · refine lv_iconst (v := 0) hx hb dX11_readAll_26 (by decide) ?_
    refine lv_istore_n (lv' := [(2, .int 0), (0, .ref (g.2.2 0)), (1, .int x1)]) hx hb dX11_readAll_27 rfl hl (by decide) rfl (fun ls hl => ?_)
    exact lb_X11_readAll_28 g  E S hret x1  6000 u_11 0 H locs ls h hZ (lv_sub hl [1, 2, 0] rfl)
  · refine lv_iconst (v := 0) hx hb dX11_readAll_24 (by decide) ?_
    exact hret _ _ _ _ _ _ (Option.some.inj h).symm rfl hZ dX11_readAll_25
theorem c_X11_readAll (l : Launch) (g : zG) (M : zM)  (x1 : Int32) {r : Int32 × zM} (h : f_X11_readAll M x1 = some r) : zMis l g rE 15 yX11_readAll (zWs yX11_readAll cX11_readAll 3 (some .int)) 579 [.ref (g.2.2 0), .int x1] M (fun v M1 => r = (v, M1)) :=
  zMis_of (by decide +kernel) (Nat.le_of_ble_eq_true rfl) (fun p e s m args below meth c Q ls E S hret hZ hl => w_X11_readAll g  E S hret M x1 _ _ ls h hZ hl)
theorem v_X11_readAll : zYV yX11_readAll cX11_readAll 3 (some .int) 1 := ⟨kw_1475, kw_15, kw_1474, kp_40, by decide +kernel⟩

def b_X11_coast_92   : Nat → zM → Int32 → Option (Int32 × zM)
  | 0, _, _ => none
  | n + 1, M, x2 =>
    if 1181 ≤ x2 then (some (0, M)) else (zck (zin x2 1181) (zck (zin x2 2030) (znm (zu M 1 (x2 : Int32).toNatClampNeg (M 3 (x2 : Int32).toNatClampNeg)) (fun M_1 => znm (x2 + 1) (fun x2_2 => b_X11_coast_92   n M_1 x2_2)))))
set_option maxRecDepth 100000 in
set_option maxHeartbeats 4000000 in
theorem lb_X11_coast_92 (g : zG)  {r : Int32 × zM} (E : zX g p m c cX11_coast 3 s args (zWs yX11_coast cX11_coast 3 (some .int)) RX11) (S : zSg g 15 s.heap.size s s.heap) (hret : zRi g rE 15 p l e (zrm 580 0 0) s m args below meth c 0 0 Q cX11_coast .int (fun v M1 => r = (v, M1)))   : ∀ (n : Nat) (M : zM) (x2 : Int32) (H : Heap) (locs : List Loc) (ls : Array Slot), b_X11_coast_92   n M x2 = some r → zS g rE 15 s H locs M → lv_has ls 3 [(0, .ref (g.2.2 0)), (2, .int x2)] → W p l e (zrm 580 0 0) s m args below meth c H locs 0 0 Q (F0 m 92 ls []) := by
  have hx := E.1.1
  have hb := E.1.2.1
  intro n
  induction n with
  | zero => intro M x2 H locs ls h hZ hl; cases h
  | succ n ih =>
    intro M x2 H locs ls h hZ hl
    rw [b_X11_coast_92] at h
    refine lv_iload_n hx hb dX11_coast_92 rfl (lv_at hl 1 rfl) ?_
    refine lv_sipush (v := 1181) hx hb dX11_coast_93 (by decide) ?_
    refine zic_ge (tgt := 117) h E dX11_coast_96 (by decide) (fun c_3 h => ?_) (fun c_3 h => ?_)
    · refine lv_iconst (v := 0) hx hb dX11_coast_117 (by decide) ?_
      exact hret _ _ _ _ _ _ (Option.some.inj h).symm rfl hZ dX11_coast_118
    · refine lv_aload_n hx hb dX11_coast_99 rfl (lv_at hl 0 rfl) ?_
      refine zg (v := .ref (g.2.2 1)) E hZ (by decide) (re_0 _) kc_X11 1 (by decide) kw_1369 rfl rfl dX11_coast_100 ?_
      refine lv_iload_n hx hb dX11_coast_103 rfl (lv_at hl 1 rfl) ?_
      refine lv_aload_n hx hb dX11_coast_104 rfl (lv_at hl 0 rfl) ?_
      refine zg (v := .ref (g.2.2 3)) E hZ (by decide) (re_0 _) kc_X11 3 (by decide) kw_1371 rfl rfl dX11_coast_105 ?_
      refine lv_iload_n hx hb dX11_coast_108 rfl (lv_at hl 1 rfl) ?_
      refine zia h E hZ (by decide) re_3 dX11_coast_109 (fun h => ?_)
      refine zis h E hZ (by decide) re_1 dX11_coast_110 (fun M_1 H locs eM_1 h hZ => ?_)
      obtain ⟨x2_2, ex2_2, h⟩ := znm_ex h
      refine lv_iinc (v := x2_2) (lv' := [(2, .int x2_2), (0, .ref (g.2.2 0))]) hx hb dX11_coast_111 hl (k := 1) rfl (by rw [ex2_2]; rfl) (by decide) rfl (fun ls hl => ?_)
      refine lv_goto (tgt := 92) hx hb dX11_coast_114 (by decide) ?_
      exact ih M_1 x2_2 H locs ls h hZ (lv_sub hl [1, 0] rfl)
def b_X11_coast_90  (M : zM) : Option (Int32 × zM) :=
  b_X11_coast_92   6000 M 0
set_option maxRecDepth 100000 in
set_option maxHeartbeats 4000000 in
theorem lb_X11_coast_90 (g : zG)  {r : Int32 × zM} (E : zX g p m c cX11_coast 3 s args (zWs yX11_coast cX11_coast 3 (some .int)) RX11) (S : zSg g 15 s.heap.size s s.heap) (hret : zRi g rE 15 p l e (zrm 580 0 0) s m args below meth c 0 0 Q cX11_coast .int (fun v M1 => r = (v, M1))) (M : zM)  (H : Heap) (locs : List Loc) (ls : Array Slot) (h : b_X11_coast_90  M = some r) (hZ : zS g rE 15 s H locs M) (hl : lv_has ls 3 [(0, .ref (g.2.2 0))]) : W p l e (zrm 580 0 0) s m args below meth c H locs 0 0 Q (F0 m 90 ls []) := by
  have hx := E.1.1
  have hb := E.1.2.1
  unfold b_X11_coast_90 at h
  refine lv_iconst (v := 0) hx hb dX11_coast_90 (by decide) ?_
  refine lv_istore_n (lv' := [(2, .int 0), (0, .ref (g.2.2 0))]) hx hb dX11_coast_91 rfl hl (by decide) rfl (fun ls hl => ?_)
  exact lb_X11_coast_92 g  E S hret   6000 M 0 H locs ls h hZ (lv_sub hl [1, 0] rfl)
def b_X11_coast_83  (M : zM) (t0 : Int32) : Option (Int32 × zM) :=
  zbn (f_X11_throwsIf M t0 2) (fun u_4 => if u_4.1 = 0 then (zck (zin 2 2030) (zck (zin 2 2030) (znm (zu u_4.2 1 (2 : Int32).toNatClampNeg ((u_4.2 1 (2 : Int32).toNatClampNeg) + 1)) (fun M_5 => znm (zu M_5 0 7 0) (fun M_6 => zck (zin 2 2030) (some (M_6 1 (2 : Int32).toNatClampNeg, M_6))))))) else (b_X11_coast_90  u_4.2))
set_option maxRecDepth 100000 in
set_option maxHeartbeats 4000000 in
theorem lb_X11_coast_83 (g : zG)  {r : Int32 × zM} (E : zX g p m c cX11_coast 3 s args (zWs yX11_coast cX11_coast 3 (some .int)) RX11) (S : zSg g 15 s.heap.size s s.heap) (hret : zRi g rE 15 p l e (zrm 580 0 0) s m args below meth c 0 0 Q cX11_coast .int (fun v M1 => r = (v, M1))) (M : zM) (t0 : Int32)  (H : Heap) (locs : List Loc) (ls : Array Slot) (h : b_X11_coast_83  M t0 = some r) (hZ : zS g rE 15 s H locs M) (hl : lv_has ls 3 [(0, .ref (g.2.2 0))]) : W p l e (zrm 580 0 0) s m args below meth c H locs 0 0 Q (F0 m 83 ls [.int t0, .ref (g.2.2 0)]) := by
  have hx := E.1.1
  have hb := E.1.2.1
  unfold b_X11_coast_83 at h
  refine lv_iconst (v := 2) hx hb dX11_coast_83 (by decide) ?_
  obtain ⟨u_4, qu_4, h⟩ := zbn_some h
  refine zciS (zrunV E hZ (by decide) (re_0 _) rfl rfl v_X11_throwsIf kw_1651 (c_X11_throwsIf l g M  t0 2 qu_4 _) rfl hl.1 rfl (Nat.le_of_ble_eq_true rfl) ⟨by decide, by decide⟩ ⟨by decide, by decide⟩ dX11_coast_84) hZ (fun H locs hZ => ?_)
  refine zif_eq (tgt := 119) h E dX11_coast_87 (by decide) (fun c_7 h => ?_) (fun c_7 h => ?_)
  · refine lv_aload_n hx hb dX11_coast_119 rfl (lv_at hl 0 rfl) ?_
    refine zg (v := .ref (g.2.2 1)) E hZ (by decide) (re_0 _) kc_X11 1 (by decide) kw_1369 rfl rfl dX11_coast_120 ?_
    refine lv_iconst (v := 2) hx hb dX11_coast_123 (by decide) ?_
    refine lv_dup2_11 hx hb dX11_coast_124 rfl rfl ?_
    refine zia h E hZ (by decide) re_1 dX11_coast_125 (fun h => ?_)
    refine lv_iconst (v := 1) hx hb dX11_coast_126 (by decide) ?_
    refine lv_iadd hx hb dX11_coast_127 ?_
    refine zis h E hZ (by decide) re_1 dX11_coast_128 (fun M_5 H locs eM_5 h hZ => ?_)
    refine lv_aload_n hx hb dX11_coast_129 rfl (lv_at hl 0 rfl) ?_
    refine lv_iconst (v := 0) hx hb dX11_coast_130 (by decide) ?_
    refine zp h E hZ (by decide) (re_0 _) ((re_0 _).trans (congrArg (fun z => Sum.inr (10, z)) (fs_X11_7 g _ _ _))) kc_X11 (by decide) kw_1375 rfl rfl rfl (Nat.le_of_ble_eq_true rfl) dX11_coast_131 (fun M_6 H locs eM_6 h hZ => ?_)
    refine lv_aload_n hx hb dX11_coast_134 rfl (lv_at hl 0 rfl) ?_
    refine zg (v := .ref (g.2.2 1)) E hZ (by decide) (re_0 _) kc_X11 1 (by decide) kw_1369 rfl rfl dX11_coast_135 ?_
    refine lv_iconst (v := 2) hx hb dX11_coast_138 (by decide) ?_
    refine zia h E hZ (by decide) re_1 dX11_coast_139 (fun h => ?_)
    exact hret _ _ _ _ _ _ (Option.some.inj h).symm rfl hZ dX11_coast_140
  · exact lb_X11_coast_90 g  E S hret u_4.2  H locs ls h hZ (lv_sub hl [0] rfl)
def b_X11_coast_59  (M : zM) (t0 : Int32) : Option (Int32 × zM) :=
  zbn (f_X11_throwsIf M t0 1) (fun u_8 => if u_8.1 = 0 then (zck (zin 2 2030) (if (u_8.2 1 (2 : Int32).toNatClampNeg) = 12 then (b_X11_coast_83  u_8.2 1) else (b_X11_coast_83  u_8.2 0))) else (b_X11_coast_90  u_8.2))
set_option maxRecDepth 100000 in
set_option maxHeartbeats 4000000 in
theorem lb_X11_coast_59 (g : zG)  {r : Int32 × zM} (E : zX g p m c cX11_coast 3 s args (zWs yX11_coast cX11_coast 3 (some .int)) RX11) (S : zSg g 15 s.heap.size s s.heap) (hret : zRi g rE 15 p l e (zrm 580 0 0) s m args below meth c 0 0 Q cX11_coast .int (fun v M1 => r = (v, M1))) (M : zM) (t0 : Int32)  (H : Heap) (locs : List Loc) (ls : Array Slot) (h : b_X11_coast_59  M t0 = some r) (hZ : zS g rE 15 s H locs M) (hl : lv_has ls 3 [(0, .ref (g.2.2 0))]) : W p l e (zrm 580 0 0) s m args below meth c H locs 0 0 Q (F0 m 59 ls [.int t0, .ref (g.2.2 0)]) := by
  have hx := E.1.1
  have hb := E.1.2.1
  unfold b_X11_coast_59 at h
  refine lv_iconst (v := 1) hx hb dX11_coast_59 (by decide) ?_
  obtain ⟨u_8, qu_8, h⟩ := zbn_some h
  refine zciS (zrunV E hZ (by decide) (re_0 _) rfl rfl v_X11_throwsIf kw_1651 (c_X11_throwsIf l g M  t0 1 qu_8 _) rfl hl.1 rfl (Nat.le_of_ble_eq_true rfl) ⟨by decide, by decide⟩ ⟨by decide, by decide⟩ dX11_coast_60) hZ (fun H locs hZ => ?_)
  refine zif_ne (tgt := 90) h E dX11_coast_63 (by decide) (fun c_10 h => ?_) (fun c_10 h => ?_)
  · exact lb_X11_coast_90 g  E S hret u_8.2  H locs ls h hZ (lv_sub hl [0] rfl)
  · refine lv_aload_n hx hb dX11_coast_66 rfl (lv_at hl 0 rfl) ?_
    refine lv_aload_n hx hb dX11_coast_67 rfl (lv_at hl 0 rfl) ?_
    refine zg (v := .ref (g.2.2 1)) E hZ (by decide) (re_0 _) kc_X11 1 (by decide) kw_1369 rfl rfl dX11_coast_68 ?_
    refine lv_iconst (v := 2) hx hb dX11_coast_71 (by decide) ?_
    refine zia h E hZ (by decide) re_1 dX11_coast_72 (fun h => ?_)
    refine lv_bipush (v := 12) hx hb dX11_coast_73 (by decide) ?_
    refine zic_ne (tgt := 82) h E dX11_coast_75 (by decide) (fun c_9 h => ?_) (fun c_9 h => ?_)
    · refine lv_iconst (v := 0) hx hb dX11_coast_82 (by decide) ?_
      exact lb_X11_coast_83 g  E S hret u_8.2 0  H locs ls h hZ (lv_sub hl [0] rfl)
    · refine lv_iconst (v := 1) hx hb dX11_coast_78 (by decide) ?_
      refine lv_goto (tgt := 83) hx hb dX11_coast_79 (by decide) ?_
      exact lb_X11_coast_83 g  E S hret u_8.2 1  H locs ls h hZ (lv_sub hl [0] rfl)
def b_X11_coast_46  (M : zM) (x1 : Int32) (t0 : Int32) : Option (Int32 × zM) :=
  znm (zu M 0 14 t0) (fun M_11 => if 0 ≤ x1 then (b_X11_coast_59  M_11 0) else (b_X11_coast_59  M_11 1))
set_option maxRecDepth 100000 in
set_option maxHeartbeats 4000000 in
theorem lb_X11_coast_46 (g : zG)  {r : Int32 × zM} (E : zX g p m c cX11_coast 3 s args (zWs yX11_coast cX11_coast 3 (some .int)) RX11) (S : zSg g 15 s.heap.size s s.heap) (hret : zRi g rE 15 p l e (zrm 580 0 0) s m args below meth c 0 0 Q cX11_coast .int (fun v M1 => r = (v, M1))) (M : zM) (x1 : Int32) (t0 : Int32)  (H : Heap) (locs : List Loc) (ls : Array Slot) (h : b_X11_coast_46  M x1 t0 = some r) (hZ : zS g rE 15 s H locs M) (hl : lv_has ls 3 [(0, .ref (g.2.2 0)), (1, .int x1)]) : W p l e (zrm 580 0 0) s m args below meth c H locs 0 0 Q (F0 m 46 ls [.int t0, .ref (g.2.2 0)]) := by
  have hx := E.1.1
  have hb := E.1.2.1
  unfold b_X11_coast_46 at h
  refine zp h E hZ (by decide) (re_0 _) ((re_0 _).trans (congrArg (fun z => Sum.inr (10, z)) (fs_X11_14 g _ _ _))) kc_X11 (by decide) kw_1382 rfl rfl rfl (Nat.le_of_ble_eq_true rfl) dX11_coast_46 (fun M_11 H locs eM_11 h hZ => ?_)
  refine lv_aload_n hx hb dX11_coast_49 rfl (lv_at hl 0 rfl) ?_
  refine lv_iload_n hx hb dX11_coast_50 rfl (lv_at hl 1 rfl) ?_
  refine zif_ge (tgt := 58) h E dX11_coast_51 (by decide) (fun c_12 h => ?_) (fun c_12 h => ?_)
  · refine lv_iconst (v := 0) hx hb dX11_coast_58 (by decide) ?_
    exact lb_X11_coast_59 g  E S hret M_11 0  H locs ls h hZ (lv_sub hl [0] rfl)
  · refine lv_iconst (v := 1) hx hb dX11_coast_54 (by decide) ?_
    refine lv_goto (tgt := 59) hx hb dX11_coast_55 (by decide) ?_
    exact lb_X11_coast_59 g  E S hret M_11 1  H locs ls h hZ (lv_sub hl [0] rfl)
def b_X11_coast_27  (M : zM) : Option (Int32 × zM) :=
  zbn (f_X11_readAll M 1) (fun u_13 => if 0 ≤ u_13.1 then (b_X11_coast_46  u_13.2 u_13.1 ((-1))) else (b_X11_coast_46  u_13.2 u_13.1 (u_13.2 0 12)))
set_option maxRecDepth 100000 in
set_option maxHeartbeats 4000000 in
theorem lb_X11_coast_27 (g : zG)  {r : Int32 × zM} (E : zX g p m c cX11_coast 3 s args (zWs yX11_coast cX11_coast 3 (some .int)) RX11) (S : zSg g 15 s.heap.size s s.heap) (hret : zRi g rE 15 p l e (zrm 580 0 0) s m args below meth c 0 0 Q cX11_coast .int (fun v M1 => r = (v, M1))) (M : zM)  (H : Heap) (locs : List Loc) (ls : Array Slot) (h : b_X11_coast_27  M = some r) (hZ : zS g rE 15 s H locs M) (hl : lv_has ls 3 [(0, .ref (g.2.2 0))]) : W p l e (zrm 580 0 0) s m args below meth c H locs 0 0 Q (F0 m 27 ls []) := by
  have hx := E.1.1
  have hb := E.1.2.1
  unfold b_X11_coast_27 at h
  refine lv_aload_n hx hb dX11_coast_27 rfl (lv_at hl 0 rfl) ?_
  refine lv_iconst (v := 1) hx hb dX11_coast_28 (by decide) ?_
  obtain ⟨u_13, qu_13, h⟩ := zbn_some h
  refine zciS (zrunVs E S hZ (by decide) (re_0 _) rfl rfl v_X11_readAll kw_1472 (c_X11_readAll l g M  1 qu_13 _) rfl hl.1 rfl (Nat.le_of_ble_eq_true rfl) ⟨by decide, by decide⟩ ⟨by decide, by decide⟩ dX11_coast_29) hZ (fun H locs hZ => ?_)
  refine lv_istore_n (lv' := [(1, .int u_13.1), (0, .ref (g.2.2 0))]) hx hb dX11_coast_32 rfl hl (by decide) rfl (fun ls hl => ?_)
  refine lv_aload_n hx hb dX11_coast_33 rfl (lv_at hl 1 rfl) ?_
  refine lv_iload_n hx hb dX11_coast_34 rfl (lv_at hl 0 rfl) ?_
  refine zif_ge (tgt := 45) h E dX11_coast_35 (by decide) (fun c_14 h => ?_) (fun c_14 h => ?_)
  · refine lv_iconst (v := (-1)) hx hb dX11_coast_45 (by decide) ?_
    exact lb_X11_coast_46 g  E S hret u_13.2 u_13.1 ((-1))  H locs ls h hZ (lv_sub hl [1, 0] rfl)
  · refine lv_aload_n hx hb dX11_coast_38 rfl (lv_at hl 1 rfl) ?_
    refine zg (v := .int (u_13.2 0 12)) E hZ (by decide) (re_0 _) kc_X11 12 (by decide) kw_1380 rfl rfl dX11_coast_39 ?_
    refine lv_goto (tgt := 46) hx hb dX11_coast_42 (by decide) ?_
    exact lb_X11_coast_46 g  E S hret u_13.2 u_13.1 (u_13.2 0 12)  H locs ls h hZ (lv_sub hl [1, 0] rfl)
def b_X11_coast_2   : Nat → zM → Int32 → Option (Int32 × zM)
  | 0, _, _ => none
  | n + 1, M, x1 =>
    if 1181 ≤ x1 then (b_X11_coast_27  M) else (zck (zin x1 2030) (zck (zin x1 1181) (znm (zu M 3 (x1 : Int32).toNatClampNeg (M 1 (x1 : Int32).toNatClampNeg)) (fun M_15 => znm (x1 + 1) (fun x1_16 => b_X11_coast_2   n M_15 x1_16)))))
set_option maxRecDepth 100000 in
set_option maxHeartbeats 4000000 in
theorem lb_X11_coast_2 (g : zG)  {r : Int32 × zM} (E : zX g p m c cX11_coast 3 s args (zWs yX11_coast cX11_coast 3 (some .int)) RX11) (S : zSg g 15 s.heap.size s s.heap) (hret : zRi g rE 15 p l e (zrm 580 0 0) s m args below meth c 0 0 Q cX11_coast .int (fun v M1 => r = (v, M1)))   : ∀ (n : Nat) (M : zM) (x1 : Int32) (H : Heap) (locs : List Loc) (ls : Array Slot), b_X11_coast_2   n M x1 = some r → zS g rE 15 s H locs M → lv_has ls 3 [(0, .ref (g.2.2 0)), (1, .int x1)] → W p l e (zrm 580 0 0) s m args below meth c H locs 0 0 Q (F0 m 2 ls []) := by
  have hx := E.1.1
  have hb := E.1.2.1
  intro n
  induction n with
  | zero => intro M x1 H locs ls h hZ hl; cases h
  | succ n ih =>
    intro M x1 H locs ls h hZ hl
    rw [b_X11_coast_2] at h
    refine lv_iload_n hx hb dX11_coast_2 rfl (lv_at hl 1 rfl) ?_
    refine lv_sipush (v := 1181) hx hb dX11_coast_3 (by decide) ?_
    refine zic_ge (tgt := 27) h E dX11_coast_6 (by decide) (fun c_17 h => ?_) (fun c_17 h => ?_)
    · exact lb_X11_coast_27 g  E S hret M  H locs ls h hZ (lv_sub hl [0] rfl)
    · refine lv_aload_n hx hb dX11_coast_9 rfl (lv_at hl 0 rfl) ?_
      refine zg (v := .ref (g.2.2 3)) E hZ (by decide) (re_0 _) kc_X11 3 (by decide) kw_1371 rfl rfl dX11_coast_10 ?_
      refine lv_iload_n hx hb dX11_coast_13 rfl (lv_at hl 1 rfl) ?_
      refine lv_aload_n hx hb dX11_coast_14 rfl (lv_at hl 0 rfl) ?_
      refine zg (v := .ref (g.2.2 1)) E hZ (by decide) (re_0 _) kc_X11 1 (by decide) kw_1369 rfl rfl dX11_coast_15 ?_
      refine lv_iload_n hx hb dX11_coast_18 rfl (lv_at hl 1 rfl) ?_
      refine zia h E hZ (by decide) re_1 dX11_coast_19 (fun h => ?_)
      refine zis h E hZ (by decide) re_3 dX11_coast_20 (fun M_15 H locs eM_15 h hZ => ?_)
      obtain ⟨x1_16, ex1_16, h⟩ := znm_ex h
      refine lv_iinc (v := x1_16) (lv' := [(1, .int x1_16), (0, .ref (g.2.2 0))]) hx hb dX11_coast_21 hl (k := 1) rfl (by rw [ex1_16]; rfl) (by decide) rfl (fun ls hl => ?_)
      refine lv_goto (tgt := 2) hx hb dX11_coast_24 (by decide) ?_
      exact ih M_15 x1_16 H locs ls h hZ (lv_sub hl [1, 0] rfl)
def f_X11_coast (M : zM)  : Option (Int32 × zM) :=
  b_X11_coast_2   6000 M 0
set_option maxRecDepth 100000 in
set_option maxHeartbeats 4000000 in
theorem w_X11_coast (g : zG)  {r : Int32 × zM} (E : zX g p m c cX11_coast 3 s args (zWs yX11_coast cX11_coast 3 (some .int)) RX11) (S : zSg g 15 s.heap.size s s.heap) (hret : zRi g rE 15 p l e (zrm 580 0 0) s m args below meth c 0 0 Q cX11_coast .int (fun v M1 => r = (v, M1))) (M : zM)  (H : Heap) (locs : List Loc) (ls : Array Slot) (h : f_X11_coast M  = some r) (hZ : zS g rE 15 s H locs M) (hl : lv_has ls 3 [(0, .ref (g.2.2 0))]) : W p l e (zrm 580 0 0) s m args below meth c H locs 0 0 Q (F0 m 0 ls []) := by
  have hx := E.1.1
  have hb := E.1.2.1
  unfold f_X11_coast at h
  refine lv_iconst (v := 0) hx hb dX11_coast_0 (by decide) ?_
  refine lv_istore_n (lv' := [(1, .int 0), (0, .ref (g.2.2 0))]) hx hb dX11_coast_1 rfl hl (by decide) rfl (fun ls hl => ?_)
  exact lb_X11_coast_2 g  E S hret   6000 M 0 H locs ls h hZ (lv_sub hl [1, 0] rfl)
theorem c_X11_coast (l : Launch) (g : zG) (M : zM)   {r : Int32 × zM} (h : f_X11_coast M  = some r) : zMis l g rE 15 yX11_coast (zWs yX11_coast cX11_coast 3 (some .int)) 580 [.ref (g.2.2 0)] M (fun v M1 => r = (v, M1)) :=
  zMis_of (by decide +kernel) (Nat.le_of_ble_eq_true rfl) (fun p e s m args below meth c Q ls E S hret hZ hl => w_X11_coast g  E S hret M  _ _ ls h hZ hl)
theorem v_X11_coast : zYV yX11_coast cX11_coast 3 (some .int) 0 := ⟨kw_1471, kw_15, kw_1469, kw_1470, by decide +kernel⟩

def b_X11_law_85  (M : zM) (x1 : Int32) : Option (Int32 × zM) :=
  zck (zin 3 2030) (znm (zu M 1 (3 : Int32).toNatClampNeg 1) (fun M_1 => znm (zu M_1 0 7 0) (fun M_2 => some (x1, M_2))))
set_option maxRecDepth 100000 in
set_option maxHeartbeats 4000000 in
theorem lb_X11_law_85 (g : zG)  {r : Int32 × zM} (E : zX g p m c cX11_law 3 s args (zWs yX11_law cX11_law 3 (some .int)) RX11) (S : zSg g 15 s.heap.size s s.heap) (hret : zRi g rE 15 p l e (zrm 580 0 0) s m args below meth c 0 0 Q cX11_law .int (fun v M1 => r = (v, M1))) (M : zM) (x1 : Int32)  (H : Heap) (locs : List Loc) (ls : Array Slot) (h : b_X11_law_85  M x1 = some r) (hZ : zS g rE 15 s H locs M) (hl : lv_has ls 3 [(0, .ref (g.2.2 0)), (1, .int x1)]) : W p l e (zrm 580 0 0) s m args below meth c H locs 0 0 Q (F0 m 85 ls []) := by
  have hx := E.1.1
  have hb := E.1.2.1
  unfold b_X11_law_85 at h
  refine lv_aload_n hx hb dX11_law_85 rfl (lv_at hl 0 rfl) ?_
  refine zg (v := .ref (g.2.2 1)) E hZ (by decide) (re_0 _) kc_X11 1 (by decide) kw_1369 rfl rfl dX11_law_86 ?_
  refine lv_iconst (v := 3) hx hb dX11_law_89 (by decide) ?_
  refine lv_iconst (v := 1) hx hb dX11_law_90 (by decide) ?_
  refine zis h E hZ (by decide) re_1 dX11_law_91 (fun M_1 H locs eM_1 h hZ => ?_)
  refine lv_aload_n hx hb dX11_law_92 rfl (lv_at hl 0 rfl) ?_
  refine lv_iconst (v := 0) hx hb dX11_law_93 (by decide) ?_
  refine zp h E hZ (by decide) (re_0 _) ((re_0 _).trans (congrArg (fun z => Sum.inr (10, z)) (fs_X11_7 g _ _ _))) kc_X11 (by decide) kw_1375 rfl rfl rfl (Nat.le_of_ble_eq_true rfl) dX11_law_94 (fun M_2 H locs eM_2 h hZ => ?_)
  refine lv_iload_n hx hb dX11_law_97 rfl (lv_at hl 1 rfl) ?_
  exact hret _ _ _ _ _ _ (Option.some.inj h).symm rfl hZ dX11_law_98
def b_X11_law_52  (x1 : Int32) : Nat → zM → Int32 → Option (Int32 × zM)
  | 0, _, _ => none
  | n + 1, M, x2 =>
    if 849 ≤ x2 then (b_X11_law_85  M x1) else (zck (zin (1181 + x2) 2030) (zck (zin (332 + x2) 2030) (znm (zu M 1 (332 + x2 : Int32).toNatClampNeg (M 1 (1181 + x2 : Int32).toNatClampNeg)) (fun M_3 => znm (x2 + 1) (fun x2_4 => b_X11_law_52  x1 n M_3 x2_4)))))
set_option maxRecDepth 100000 in
set_option maxHeartbeats 4000000 in
theorem lb_X11_law_52 (g : zG)  {r : Int32 × zM} (E : zX g p m c cX11_law 3 s args (zWs yX11_law cX11_law 3 (some .int)) RX11) (S : zSg g 15 s.heap.size s s.heap) (hret : zRi g rE 15 p l e (zrm 580 0 0) s m args below meth c 0 0 Q cX11_law .int (fun v M1 => r = (v, M1))) (x1 : Int32)  : ∀ (n : Nat) (M : zM) (x2 : Int32) (H : Heap) (locs : List Loc) (ls : Array Slot), b_X11_law_52  x1 n M x2 = some r → zS g rE 15 s H locs M → lv_has ls 3 [(0, .ref (g.2.2 0)), (1, .int x1), (2, .int x2)] → W p l e (zrm 580 0 0) s m args below meth c H locs 0 0 Q (F0 m 52 ls []) := by
  have hx := E.1.1
  have hb := E.1.2.1
  intro n
  induction n with
  | zero => intro M x2 H locs ls h hZ hl; cases h
  | succ n ih =>
    intro M x2 H locs ls h hZ hl
    rw [b_X11_law_52] at h
    refine lv_iload_n hx hb dX11_law_52 rfl (lv_at hl 2 rfl) ?_
    refine lv_sipush (v := 849) hx hb dX11_law_53 (by decide) ?_
    refine zic_ge (tgt := 85) h E dX11_law_56 (by decide) (fun c_5 h => ?_) (fun c_5 h => ?_)
    · exact lb_X11_law_85 g  E S hret M x1  H locs ls h hZ (lv_sub hl [0, 1] rfl)
    · refine lv_aload_n hx hb dX11_law_59 rfl (lv_at hl 0 rfl) ?_
      refine zg (v := .ref (g.2.2 1)) E hZ (by decide) (re_0 _) kc_X11 1 (by decide) kw_1369 rfl rfl dX11_law_60 ?_
      refine lv_sipush (v := 332) hx hb dX11_law_63 (by decide) ?_
      refine lv_iload_n hx hb dX11_law_66 rfl (lv_at hl 2 rfl) ?_
      refine lv_iadd hx hb dX11_law_67 ?_
      refine lv_aload_n hx hb dX11_law_68 rfl (lv_at hl 0 rfl) ?_
      refine zg (v := .ref (g.2.2 1)) E hZ (by decide) (re_0 _) kc_X11 1 (by decide) kw_1369 rfl rfl dX11_law_69 ?_
      refine lv_sipush (v := 1181) hx hb dX11_law_72 (by decide) ?_
      refine lv_iload_n hx hb dX11_law_75 rfl (lv_at hl 2 rfl) ?_
      refine lv_iadd hx hb dX11_law_76 ?_
      refine zia h E hZ (by decide) re_1 dX11_law_77 (fun h => ?_)
      refine zis h E hZ (by decide) re_1 dX11_law_78 (fun M_3 H locs eM_3 h hZ => ?_)
      obtain ⟨x2_4, ex2_4, h⟩ := znm_ex h
      refine lv_iinc (v := x2_4) (lv' := [(2, .int x2_4), (0, .ref (g.2.2 0)), (1, .int x1)]) hx hb dX11_law_79 hl (k := 2) rfl (by rw [ex2_4]; rfl) (by decide) rfl (fun ls hl => ?_)
      refine lv_goto (tgt := 52) hx hb dX11_law_82 (by decide) ?_
      exact ih M_3 x2_4 H locs ls h hZ (lv_sub hl [1, 2, 0] rfl)
def b_X11_law_32  (M : zM) (x1 : Int32) (t0 : Int32) : Option (Int32 × zM) :=
  zbn (f_X11_throwsIf M t0 1) (fun u_6 => if u_6.1 = 0 then (zck (zin 1181 2030) (znm (zu u_6.2 1 (1181 : Int32).toNatClampNeg x1) (fun M_7 => b_X11_law_52  x1 6000 M_7 0))) else (some (0, u_6.2)))
set_option maxRecDepth 100000 in
set_option maxHeartbeats 4000000 in
theorem lb_X11_law_32 (g : zG)  {r : Int32 × zM} (E : zX g p m c cX11_law 3 s args (zWs yX11_law cX11_law 3 (some .int)) RX11) (S : zSg g 15 s.heap.size s s.heap) (hret : zRi g rE 15 p l e (zrm 580 0 0) s m args below meth c 0 0 Q cX11_law .int (fun v M1 => r = (v, M1))) (M : zM) (x1 : Int32) (t0 : Int32)  (H : Heap) (locs : List Loc) (ls : Array Slot) (h : b_X11_law_32  M x1 t0 = some r) (hZ : zS g rE 15 s H locs M) (hl : lv_has ls 3 [(0, .ref (g.2.2 0)), (1, .int x1)]) : W p l e (zrm 580 0 0) s m args below meth c H locs 0 0 Q (F0 m 32 ls [.int t0, .ref (g.2.2 0)]) := by
  have hx := E.1.1
  have hb := E.1.2.1
  unfold b_X11_law_32 at h
  refine lv_iconst (v := 1) hx hb dX11_law_32 (by decide) ?_
  obtain ⟨u_6, qu_6, h⟩ := zbn_some h
  refine zciS (zrunV E hZ (by decide) (re_0 _) rfl rfl v_X11_throwsIf kw_1651 (c_X11_throwsIf l g M  t0 1 qu_6 _) rfl hl.1 rfl (Nat.le_of_ble_eq_true rfl) ⟨by decide, by decide⟩ ⟨by decide, by decide⟩ dX11_law_33) hZ (fun H locs hZ => ?_)
  refine zif_eq (tgt := 41) h E dX11_law_36 (by decide) (fun c_8 h => ?_) (fun c_8 h => ?_)
  · refine lv_aload_n hx hb dX11_law_41 rfl (lv_at hl 0 rfl) ?_
    refine zg (v := .ref (g.2.2 1)) E hZ (by decide) (re_0 _) kc_X11 1 (by decide) kw_1369 rfl rfl dX11_law_42 ?_
    refine lv_sipush (v := 1181) hx hb dX11_law_45 (by decide) ?_
    refine lv_iload_n hx hb dX11_law_48 rfl (lv_at hl 1 rfl) ?_
    refine zis h E hZ (by decide) re_1 dX11_law_49 (fun M_7 H locs eM_7 h hZ => ?_)
    refine lv_iconst (v := 0) hx hb dX11_law_50 (by decide) ?_
    refine lv_istore_n (lv' := [(2, .int 0), (0, .ref (g.2.2 0)), (1, .int x1)]) hx hb dX11_law_51 rfl hl (by decide) rfl (fun ls hl => ?_)
    exact lb_X11_law_52 g  E S hret x1  6000 M_7 0 H locs ls h hZ (lv_sub hl [1, 2, 0] rfl)
  · refine lv_iconst (v := 0) hx hb dX11_law_39 (by decide) ?_
    exact hret _ _ _ _ _ _ (Option.some.inj h).symm rfl hZ dX11_law_40
def b_X11_law_19  (M : zM) (x1 : Int32) (t0 : Int32) : Option (Int32 × zM) :=
  znm (zu M 0 14 t0) (fun M_9 => if 0 ≤ x1 then (b_X11_law_32  M_9 x1 0) else (b_X11_law_32  M_9 x1 1))
set_option maxRecDepth 100000 in
set_option maxHeartbeats 4000000 in
theorem lb_X11_law_19 (g : zG)  {r : Int32 × zM} (E : zX g p m c cX11_law 3 s args (zWs yX11_law cX11_law 3 (some .int)) RX11) (S : zSg g 15 s.heap.size s s.heap) (hret : zRi g rE 15 p l e (zrm 580 0 0) s m args below meth c 0 0 Q cX11_law .int (fun v M1 => r = (v, M1))) (M : zM) (x1 : Int32) (t0 : Int32)  (H : Heap) (locs : List Loc) (ls : Array Slot) (h : b_X11_law_19  M x1 t0 = some r) (hZ : zS g rE 15 s H locs M) (hl : lv_has ls 3 [(0, .ref (g.2.2 0)), (1, .int x1)]) : W p l e (zrm 580 0 0) s m args below meth c H locs 0 0 Q (F0 m 19 ls [.int t0, .ref (g.2.2 0)]) := by
  have hx := E.1.1
  have hb := E.1.2.1
  unfold b_X11_law_19 at h
  refine zp h E hZ (by decide) (re_0 _) ((re_0 _).trans (congrArg (fun z => Sum.inr (10, z)) (fs_X11_14 g _ _ _))) kc_X11 (by decide) kw_1382 rfl rfl rfl (Nat.le_of_ble_eq_true rfl) dX11_law_19 (fun M_9 H locs eM_9 h hZ => ?_)
  refine lv_aload_n hx hb dX11_law_22 rfl (lv_at hl 0 rfl) ?_
  refine lv_iload_n hx hb dX11_law_23 rfl (lv_at hl 1 rfl) ?_
  refine zif_ge (tgt := 31) h E dX11_law_24 (by decide) (fun c_10 h => ?_) (fun c_10 h => ?_)
  · refine lv_iconst (v := 0) hx hb dX11_law_31 (by decide) ?_
    exact lb_X11_law_32 g  E S hret M_9 x1 0  H locs ls h hZ (lv_sub hl [0, 1] rfl)
  · refine lv_iconst (v := 1) hx hb dX11_law_27 (by decide) ?_
    refine lv_goto (tgt := 32) hx hb dX11_law_28 (by decide) ?_
    exact lb_X11_law_32 g  E S hret M_9 x1 1  H locs ls h hZ (lv_sub hl [0, 1] rfl)
def f_X11_law (M : zM)  : Option (Int32 × zM) :=
  zbn (f_X11_readAll M 0) (fun u_11 => if 0 ≤ u_11.1 then (b_X11_law_19  u_11.2 u_11.1 ((-1))) else (b_X11_law_19  u_11.2 u_11.1 (u_11.2 0 12)))
set_option maxRecDepth 100000 in
set_option maxHeartbeats 4000000 in
theorem w_X11_law (g : zG)  {r : Int32 × zM} (E : zX g p m c cX11_law 3 s args (zWs yX11_law cX11_law 3 (some .int)) RX11) (S : zSg g 15 s.heap.size s s.heap) (hret : zRi g rE 15 p l e (zrm 580 0 0) s m args below meth c 0 0 Q cX11_law .int (fun v M1 => r = (v, M1))) (M : zM)  (H : Heap) (locs : List Loc) (ls : Array Slot) (h : f_X11_law M  = some r) (hZ : zS g rE 15 s H locs M) (hl : lv_has ls 3 [(0, .ref (g.2.2 0))]) : W p l e (zrm 580 0 0) s m args below meth c H locs 0 0 Q (F0 m 0 ls []) := by
  have hx := E.1.1
  have hb := E.1.2.1
  unfold f_X11_law at h
  refine lv_aload_n hx hb dX11_law_0 rfl (lv_at hl 0 rfl) ?_
  refine lv_iconst (v := 0) hx hb dX11_law_1 (by decide) ?_
  obtain ⟨u_11, qu_11, h⟩ := zbn_some h
  refine zciS (zrunVs E S hZ (by decide) (re_0 _) rfl rfl v_X11_readAll kw_1472 (c_X11_readAll l g M  0 qu_11 _) rfl hl.1 rfl (Nat.le_of_ble_eq_true rfl) ⟨by decide, by decide⟩ ⟨by decide, by decide⟩ dX11_law_2) hZ (fun H locs hZ => ?_)
  refine lv_istore_n (lv' := [(1, .int u_11.1), (0, .ref (g.2.2 0))]) hx hb dX11_law_5 rfl hl (by decide) rfl (fun ls hl => ?_)
  refine lv_aload_n hx hb dX11_law_6 rfl (lv_at hl 1 rfl) ?_
  refine lv_iload_n hx hb dX11_law_7 rfl (lv_at hl 0 rfl) ?_
  refine zif_ge (tgt := 18) h E dX11_law_8 (by decide) (fun c_12 h => ?_) (fun c_12 h => ?_)
  · refine lv_iconst (v := (-1)) hx hb dX11_law_18 (by decide) ?_
    exact lb_X11_law_19 g  E S hret u_11.2 u_11.1 ((-1))  H locs ls h hZ (lv_sub hl [1, 0] rfl)
  · refine lv_aload_n hx hb dX11_law_11 rfl (lv_at hl 1 rfl) ?_
    refine zg (v := .int (u_11.2 0 12)) E hZ (by decide) (re_0 _) kc_X11 12 (by decide) kw_1380 rfl rfl dX11_law_12 ?_
    refine lv_goto (tgt := 19) hx hb dX11_law_15 (by decide) ?_
    exact lb_X11_law_19 g  E S hret u_11.2 u_11.1 (u_11.2 0 12)  H locs ls h hZ (lv_sub hl [1, 0] rfl)
theorem c_X11_law (l : Launch) (g : zG) (M : zM)   {r : Int32 × zM} (h : f_X11_law M  = some r) : zMis l g rE 15 yX11_law (zWs yX11_law cX11_law 3 (some .int)) 580 [.ref (g.2.2 0)] M (fun v M1 => r = (v, M1)) :=
  zMis_of (by decide +kernel) (Nat.le_of_ble_eq_true rfl) (fun p e s m args below meth c Q ls E S hret hZ hl => w_X11_law g  E S hret M  _ _ ls h hZ hl)
theorem v_X11_law : zYV yX11_law cX11_law 3 (some .int) 0 := ⟨kw_1658, kw_15, kw_1656, kw_1657, by decide +kernel⟩

end
