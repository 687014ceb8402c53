section
variable {p : Program} {l : Launch} {e : Env} {s : State} {m : MethodId} {args : Array Value} {below : List Frame} {meth : Method} {c : Code} {Q : State → Prop}
def f_J6_bitCount_0f7a4 (x0 : Int32) : Option (Int32) :=
  znm (x0 - (((x0.toUInt32 >>> ((1 : Int32).toUInt32 &&& Int32.toUInt32 31)).toInt32) &&& 1431655765)) (fun x0_1 => znm ((x0_1 &&& 858993459) + (((x0_1.toUInt32 >>> ((2 : Int32).toUInt32 &&& Int32.toUInt32 31)).toInt32) &&& 858993459)) (fun x0_2 => znm ((x0_2 + ((x0_2.toUInt32 >>> ((4 : Int32).toUInt32 &&& Int32.toUInt32 31)).toInt32)) &&& 252645135) (fun x0_3 => znm (x0_3 + ((x0_3.toUInt32 >>> ((8 : Int32).toUInt32 &&& Int32.toUInt32 31)).toInt32)) (fun x0_4 => znm (x0_4 + ((x0_4.toUInt32 >>> ((16 : Int32).toUInt32 &&& Int32.toUInt32 31)).toInt32)) (fun x0_5 => some (x0_5 &&& 63))))))
set_option maxRecDepth 100000 in
set_option maxHeartbeats 4000000 in
theorem w_J6_bitCount_0f7a4 {en : zE} {K : Nat} (g : zG)  {r : Int32} {M0 : zM} (E : zX g p m c cJ6_bitCount_0f7a4 1 s args (zWs yJ6_bitCount_0f7a4 cJ6_bitCount_0f7a4 1 (some .int)) RJ6) (hret : zRi g en K p l e (zrm 2 0 0) s m args below meth c 0 0 Q cJ6_bitCount_0f7a4 .int (fun v M1 => v = r ∧ M1 = M0)) (M : zM) (hM : M = M0) (x0 : Int32) (H : Heap) (locs : List Loc) (ls : Array Slot) (h : f_J6_bitCount_0f7a4 x0 = some r) (hZ : zS g en K s H locs M) (hl : lv_has ls 1 [(0, .int x0)]) : W p l e (zrm 2 0 0) s m args below meth c H locs 0 0 Q (F0 m 0 ls []) := by
  have hx := E.1.1
  have hb := E.1.2.1
  unfold f_J6_bitCount_0f7a4 at h
  refine lv_iload_n hx hb dJ6_bitCount_0f7a4_0 rfl (lv_at hl 0 rfl) ?_
  refine lv_iload_n hx hb dJ6_bitCount_0f7a4_1 rfl (lv_at hl 0 rfl) ?_
  refine lv_iconst (v := 1) hx hb dJ6_bitCount_0f7a4_2 (by decide) ?_
  refine lv_iushr hx hb dJ6_bitCount_0f7a4_3 rfl ?_
  refine lv_ldcw (v := 1431655765) hx hb E.1.2.2.2.1 (E.w kw_1027) dJ6_bitCount_0f7a4_4 ?_
  refine lv_iand hx hb dJ6_bitCount_0f7a4_7 ?_
  refine lv_isub hx hb dJ6_bitCount_0f7a4_8 ?_
  refine zni h (fun x0_1 ex0_1 h => ?_)
  refine lv_istore_n (lv' := [(0, .int x0_1)]) hx hb dJ6_bitCount_0f7a4_9 rfl hl (by decide) rfl (fun ls hl => ?_)
  refine lv_iload_n hx hb dJ6_bitCount_0f7a4_10 rfl (lv_at hl 0 rfl) ?_
  refine lv_ldcw (v := 858993459) hx hb E.1.2.2.2.1 (E.w kw_1028) dJ6_bitCount_0f7a4_11 ?_
  refine lv_iand hx hb dJ6_bitCount_0f7a4_14 ?_
  refine lv_iload_n hx hb dJ6_bitCount_0f7a4_15 rfl (lv_at hl 0 rfl) ?_
  refine lv_iconst (v := 2) hx hb dJ6_bitCount_0f7a4_16 (by decide) ?_
  refine lv_iushr hx hb dJ6_bitCount_0f7a4_17 rfl ?_
  refine lv_ldcw (v := 858993459) hx hb E.1.2.2.2.1 (E.w kw_1028) dJ6_bitCount_0f7a4_18 ?_
  refine lv_iand hx hb dJ6_bitCount_0f7a4_21 ?_
  refine lv_iadd hx hb dJ6_bitCount_0f7a4_22 ?_
  refine zni h (fun x0_2 ex0_2 h => ?_)
  refine lv_istore_n (lv' := [(0, .int x0_2)]) hx hb dJ6_bitCount_0f7a4_23 rfl hl (by decide) rfl (fun ls hl => ?_)
  refine lv_iload_n hx hb dJ6_bitCount_0f7a4_24 rfl (lv_at hl 0 rfl) ?_
  refine lv_iload_n hx hb dJ6_bitCount_0f7a4_25 rfl (lv_at hl 0 rfl) ?_
  refine lv_iconst (v := 4) hx hb dJ6_bitCount_0f7a4_26 (by decide) ?_
  refine lv_iushr hx hb dJ6_bitCount_0f7a4_27 rfl ?_
  refine lv_iadd hx hb dJ6_bitCount_0f7a4_28 ?_
  refine lv_ldcw (v := 252645135) hx hb E.1.2.2.2.1 (E.w kw_1029) dJ6_bitCount_0f7a4_29 ?_
  refine lv_iand hx hb dJ6_bitCount_0f7a4_32 ?_
  refine zni h (fun x0_3 ex0_3 h => ?_)
  refine lv_istore_n (lv' := [(0, .int x0_3)]) hx hb dJ6_bitCount_0f7a4_33 rfl hl (by decide) rfl (fun ls hl => ?_)
  refine lv_iload_n hx hb dJ6_bitCount_0f7a4_34 rfl (lv_at hl 0 rfl) ?_
  refine lv_iload_n hx hb dJ6_bitCount_0f7a4_35 rfl (lv_at hl 0 rfl) ?_
  refine lv_bipush (v := 8) hx hb dJ6_bitCount_0f7a4_36 (by decide) ?_
  refine lv_iushr hx hb dJ6_bitCount_0f7a4_38 rfl ?_
  refine lv_iadd hx hb dJ6_bitCount_0f7a4_39 ?_
  refine zni h (fun x0_4 ex0_4 h => ?_)
  refine lv_istore_n (lv' := [(0, .int x0_4)]) hx hb dJ6_bitCount_0f7a4_40 rfl hl (by decide) rfl (fun ls hl => ?_)
  refine lv_iload_n hx hb dJ6_bitCount_0f7a4_41 rfl (lv_at hl 0 rfl) ?_
  refine lv_iload_n hx hb dJ6_bitCount_0f7a4_42 rfl (lv_at hl 0 rfl) ?_
  refine lv_bipush (v := 16) hx hb dJ6_bitCount_0f7a4_43 (by decide) ?_
  refine lv_iushr hx hb dJ6_bitCount_0f7a4_45 rfl ?_
  refine lv_iadd hx hb dJ6_bitCount_0f7a4_46 ?_
  refine zni h (fun x0_5 ex0_5 h => ?_)
  refine lv_istore_n (lv' := [(0, .int x0_5)]) hx hb dJ6_bitCount_0f7a4_47 rfl hl (by decide) rfl (fun ls hl => ?_)
  refine lv_iload_n hx hb dJ6_bitCount_0f7a4_48 rfl (lv_at hl 0 rfl) ?_
  refine lv_bipush (v := 63) hx hb dJ6_bitCount_0f7a4_49 (by decide) ?_
  refine lv_iand hx hb dJ6_bitCount_0f7a4_51 ?_
  exact hret _ _ _ _ _ _ ⟨Option.some.inj h, hM⟩ rfl hZ dJ6_bitCount_0f7a4_52
theorem c_J6_bitCount_0f7a4 (l : Launch) (g : zG) (en : zE) (K : Nat) (M : zM)  (x0 : Int32) {r : Int32} (h : f_J6_bitCount_0f7a4 x0 = some r) : zMi l g en K yJ6_bitCount_0f7a4 (zWs yJ6_bitCount_0f7a4 cJ6_bitCount_0f7a4 1 (some .int)) 2 [.int x0] M (fun v M1 => v = r ∧ M1 = M) :=
  zMi_of (by decide +kernel) (Nat.le_of_ble_eq_true rfl) (fun p e s m args below meth c Q ls E hret hZ hl => w_J6_bitCount_0f7a4 g  E hret M rfl x0 _ _ ls h hZ hl)
theorem v_J6_bitCount_0f7a4 : zYS yJ6_bitCount_0f7a4 cJ6_bitCount_0f7a4 1 (some .int) 1 := ⟨kw_1026, kw_27, kw_1025, by decide +kernel⟩

def f_J9_max_f86c9 (x0 : Int64) (x2 : Int64) : Option (Int64) :=
  if (lg_cmp x0 x2) < 0 then (some x2) else (some x0)
set_option maxRecDepth 100000 in
set_option maxHeartbeats 4000000 in
theorem w_J9_max_f86c9 {en : zE} {K : Nat} (g : zG)  {r : Int64} {M0 : zM} (E : zX g p m c cJ9_max_f86c9 4 s args (zWs yJ9_max_f86c9 cJ9_max_f86c9 4 (some .long)) RJ9) (hret : zRl g en K p l e (zrm 2 0 0) s m args below meth c 0 0 Q cJ9_max_f86c9 (fun v M1 => v = r ∧ M1 = M0)) (M : zM) (hM : M = M0) (x0 : Int64) (x2 : Int64) (H : Heap) (locs : List Loc) (ls : Array Slot) (h : f_J9_max_f86c9 x0 x2 = some r) (hZ : zS g en K s H locs M) (hl : lv_has ls 4 [(0, .long x0), (2, .long x2)]) : W p l e (zrm 2 0 0) s m args below meth c H locs 0 0 Q (F0 m 0 ls []) := by
  have hx := E.1.1
  have hb := E.1.2.1
  unfold f_J9_max_f86c9 at h
  refine lv_lload_n hx hb dJ9_max_f86c9_0 rfl (lv_at hl 0 rfl) ?_
  refine lv_lload_n hx hb dJ9_max_f86c9_1 rfl (lv_at hl 1 rfl) ?_
  refine W.lcmp hx hb dJ9_max_f86c9_2 ?_
  refine zif_lt (tgt := 10) h E dJ9_max_f86c9_3 (by decide) (fun c_1 h => ?_) (fun c_1 h => ?_)
  · refine lv_lload_n hx hb dJ9_max_f86c9_10 rfl (lv_at hl 1 rfl) ?_
    exact hret _ _ _ _ _ _ ⟨Option.some.inj h, hM⟩ hZ dJ9_max_f86c9_11
  · refine lv_lload_n hx hb dJ9_max_f86c9_6 rfl (lv_at hl 0 rfl) ?_
    refine lv_goto (tgt := 11) hx hb dJ9_max_f86c9_7 (by decide) ?_
    exact hret _ _ _ _ _ _ ⟨Option.some.inj h, hM⟩ hZ dJ9_max_f86c9_11
theorem c_J9_max_f86c9 (l : Launch) (g : zG) (en : zE) (K : Nat) (M : zM)  (x0 : Int64) (x2 : Int64) {r : Int64} (h : f_J9_max_f86c9 x0 x2 = some r) : zMl l g en K yJ9_max_f86c9 (zWs yJ9_max_f86c9 cJ9_max_f86c9 4 (some .long)) 2 [.long x0, .long x2] M (fun v M1 => v = r ∧ M1 = M) :=
  zMl_of (by decide +kernel) (Nat.le_of_ble_eq_true rfl) (fun p e s m args below meth c Q ls E hret hZ hl => w_J9_max_f86c9 g  E hret M rfl x0 x2 _ _ ls h hZ hl)
theorem v_J9_max_f86c9 : zYS yJ9_max_f86c9 cJ9_max_f86c9 4 (some .long) 2 := ⟨kw_1300, kw_16, kw_1299, by decide +kernel⟩

def f_J9_floorDiv_7cf53 (x0 : Int32) (x1 : Int32) : Option (Int32) :=
  zck (decide (¬ (x1 : Int32) = 0)) (znm (x0 / x1) (fun x2_1 => if 0 ≤ (x0 ^^^ x1) then (some x2_1) else (if (x2_1 * x1) = x0 then (some x2_1) else (some (x2_1 - 1)))))
set_option maxRecDepth 100000 in
set_option maxHeartbeats 4000000 in
theorem w_J9_floorDiv_7cf53 {en : zE} {K : Nat} (g : zG)  {r : Int32} {M0 : zM} (E : zX g p m c cJ9_floorDiv_7cf53 3 s args (zWs yJ9_floorDiv_7cf53 cJ9_floorDiv_7cf53 3 (some .int)) RJ9) (hret : zRi g en K p l e (zrm 2 0 0) s m args below meth c 0 0 Q cJ9_floorDiv_7cf53 .int (fun v M1 => v = r ∧ M1 = M0)) (M : zM) (hM : M = M0) (x0 : Int32) (x1 : Int32) (H : Heap) (locs : List Loc) (ls : Array Slot) (h : f_J9_floorDiv_7cf53 x0 x1 = some r) (hZ : zS g en K s H locs M) (hl : lv_has ls 3 [(0, .int x0), (1, .int x1)]) : W p l e (zrm 2 0 0) s m args below meth c H locs 0 0 Q (F0 m 0 ls []) := by
  have hx := E.1.1
  have hb := E.1.2.1
  unfold f_J9_floorDiv_7cf53 at h
  refine lv_iload_n hx hb dJ9_floorDiv_7cf53_0 rfl (lv_at hl 0 rfl) ?_
  refine lv_iload_n hx hb dJ9_floorDiv_7cf53_1 rfl (lv_at hl 1 rfl) ?_
  refine zdv h E dJ9_floorDiv_7cf53_2 (fun h => ?_)
  refine zni h (fun x2_1 ex2_1 h => ?_)
  refine lv_istore_n (lv' := [(2, .int x2_1), (0, .int x0), (1, .int x1)]) hx hb dJ9_floorDiv_7cf53_3 rfl hl (by decide) rfl (fun ls hl => ?_)
  refine lv_iload_n hx hb dJ9_floorDiv_7cf53_4 rfl (lv_at hl 1 rfl) ?_
  refine lv_iload_n hx hb dJ9_floorDiv_7cf53_5 rfl (lv_at hl 2 rfl) ?_
  refine lv_ixor hx hb dJ9_floorDiv_7cf53_6 ?_
  refine zif_ge (tgt := 21) h E dJ9_floorDiv_7cf53_7 (by decide) (fun c_3 h => ?_) (fun c_3 h => ?_)
  · refine lv_iload_n hx hb dJ9_floorDiv_7cf53_21 rfl (lv_at hl 0 rfl) ?_
    exact hret _ _ _ _ _ _ ⟨Option.some.inj h, hM⟩ rfl hZ dJ9_floorDiv_7cf53_22
  · refine lv_iload_n hx hb dJ9_floorDiv_7cf53_10 rfl (lv_at hl 0 rfl) ?_
    refine lv_iload_n hx hb dJ9_floorDiv_7cf53_11 rfl (lv_at hl 2 rfl) ?_
    refine lv_imul hx hb dJ9_floorDiv_7cf53_12 ?_
    refine lv_iload_n hx hb dJ9_floorDiv_7cf53_13 rfl (lv_at hl 1 rfl) ?_
    refine zic_eq (tgt := 21) h E dJ9_floorDiv_7cf53_14 (by decide) (fun c_2 h => ?_) (fun c_2 h => ?_)
    · refine lv_iload_n hx hb dJ9_floorDiv_7cf53_21 rfl (lv_at hl 0 rfl) ?_
      exact hret _ _ _ _ _ _ ⟨Option.some.inj h, hM⟩ rfl hZ dJ9_floorDiv_7cf53_22
    · refine lv_iload_n hx hb dJ9_floorDiv_7cf53_17 rfl (lv_at hl 0 rfl) ?_
      refine lv_iconst (v := 1) hx hb dJ9_floorDiv_7cf53_18 (by decide) ?_
      refine lv_isub hx hb dJ9_floorDiv_7cf53_19 ?_
      exact hret _ _ _ _ _ _ ⟨Option.some.inj h, hM⟩ rfl hZ dJ9_floorDiv_7cf53_20
theorem c_J9_floorDiv_7cf53 (l : Launch) (g : zG) (en : zE) (K : Nat) (M : zM)  (x0 : Int32) (x1 : Int32) {r : Int32} (h : f_J9_floorDiv_7cf53 x0 x1 = some r) : zMi l g en K yJ9_floorDiv_7cf53 (zWs yJ9_floorDiv_7cf53 cJ9_floorDiv_7cf53 3 (some .int)) 2 [.int x0, .int x1] M (fun v M1 => v = r ∧ M1 = M) :=
  zMi_of (by decide +kernel) (Nat.le_of_ble_eq_true rfl) (fun p e s m args below meth c Q ls E hret hZ hl => w_J9_floorDiv_7cf53 g  E hret M rfl x0 x1 _ _ ls h hZ hl)
theorem v_J9_floorDiv_7cf53 : zYS yJ9_floorDiv_7cf53 cJ9_floorDiv_7cf53 3 (some .int) 2 := ⟨kw_2008, kw_16, kw_2007, by decide +kernel⟩

end
