/-! TEXTS: the string constants are the objects 1000 + i; the bytes of each lie at 2000 + i (made by wip/whole/gen/texts.py) -/
def zLen : List Nat := [154, 6, 6, 5, 5, 2, 4, 4, 4, 4, 4, 5, 7, 4, 4, 5, 4, 4, 4, 2, 3, 6, 5, 5, 5, 4, 5, 4, 3, 2]
def zByt : List (List Int32) := [[103, 114, 111, 117, 110, 100, 32, 112, 101, 114, 105, 111, 100, 32, 114, 111, 117, 110, 100, 32, 114, 97, 110, 103, 101, 32, 100, 117, 116, 121, 32, 115, 116, 111, 114, 109, 32, 101, 100, 105, 116, 105, 111, 110, 32, 101, 114, 114, 111, 114, 32, 112, 97, 99, 101, 32, 103, 111, 97, 108, 32, 102, 114, 111, 109, 32, 116, 111, 32, 109, 111, 114, 101, 32, 108, 101, 115, 115, 32, 119, 97, 100, 101, 32, 119, 97, 105, 116, 32, 116, 105, 114, 101, 32, 105, 102, 32, 111, 114, 32, 97, 110, 100, 32, 110, 111, 116, 32, 109, 111, 110, 107, 32, 112, 108, 97, 99, 101, 32, 100, 101, 112, 116, 104, 32, 115, 116, 101, 112, 32, 116, 105, 114, 101, 100, 32, 104, 111, 117, 114, 32, 114, 105, 115, 105, 110, 103, 32, 116, 104, 101, 114, 101, 32], [103, 114, 111, 117, 110, 100], [112, 101, 114, 105, 111, 100], [114, 111, 117, 110, 100], [114, 97, 110, 103, 101], [116, 111], [109, 111, 110, 107], [112, 97, 99, 101], [103, 111, 97, 108], [100, 117, 116, 121], [102, 114, 111, 109], [115, 116, 111, 114, 109], [101, 100, 105, 116, 105, 111, 110], [108, 101, 115, 115], [109, 111, 114, 101], [101, 114, 114, 111, 114], [119, 97, 100, 101], [119, 97, 105, 116], [116, 105, 114, 101], [105, 102], [110, 111, 116], [114, 105, 115, 105, 110, 103], [116, 104, 101, 114, 101], [112, 108, 97, 99, 101], [100, 101, 112, 116, 104], [115, 116, 101, 112], [116, 105, 114, 101, 100], [104, 111, 117, 114], [97, 110, 100], [111, 114]]
def zStx : List (String × Nat × String × Nat) := [("TideBook$Text", 11, "ground period round range duty storm edition error pace goal from to more less wade wait tire if or and not monk place depth step tired hour rising there ", 0), ("TideBookModel", 156, "ground", 1), ("TideBookModel", 162, "period", 2), ("TideBookModel", 164, "round", 3), ("TideBookModel", 166, "range", 4), ("TideBookModel", 133, "to", 5), ("TideBookModel", 171, "monk", 6), ("TideBookModel", 139, "pace", 7), ("TideBookModel", 141, "goal", 8), ("TideBookModel", 176, "duty", 9), ("TideBookModel", 146, "from", 10), ("TideBookModel", 181, "storm", 11), ("TideBookModel", 183, "edition", 12), ("TideBookModel", 148, "less", 13), ("TideBookModel", 150, "more", 14), ("TideBookModel", 185, "error", 15), ("TideBookModel", 241, "wade", 16), ("TideBookModel", 243, "wait", 17), ("TideBookModel", 245, "tire", 18), ("TideBookModel", 247, "if", 19), ("TideBookModel", 223, "not", 20), ("TideBookModel", 213, "rising", 21), ("TideBookModel", 215, "there", 22), ("TideBookModel", 197, "place", 23), ("TideBookModel", 199, "depth", 24), ("TideBookModel", 201, "step", 25), ("TideBookModel", 203, "tired", 26), ("TideBookModel", 205, "hour", 27), ("TideBookModel", 234, "and", 28), ("TideBookModel", 239, "or", 29)]
def zSg (g : zG) (K sz : Nat) (U : State) (H : Heap) : Prop := vk_S 30 zLen zByt (fun i => g.2.2 (1000 + i)) (fun i => g.2.2 (2000 + i)) (zA g K sz) U H ∧ va_Z "java/lang/String" "COMPACT_STRINGS" "Z" (.int 1) (zA g K sz) U H ∧ va_Zq "jdk/internal/util/Preconditions" "SIOOBE_FORMATTER" "Ljava/util/function/BiFunction;" (zA g K sz) U H ∧ ∀ q ∈ zStx, vk_R q.1 q.2.1 q.2.2.1 (g.2.2 (1000 + q.2.2.2)) U
theorem zSg_of {g : zG} {en : zE} {K : Nat} {M : zM} {s U : State} {H : Heap} {locs : List Loc} (S : zSg g K s.heap.size s s.heap) (hZ : zS g en K s H locs M) (hU : U.heap = H) (hW : s.WarmedH U.vm) : zSg g K H.size U U.heap := by
  have hq : ∀ a : Nat, a < s.heap.size → ¬ zA g K s.heap.size a → H[a]? = s.heap[a]? := hZ.2.2.2.1
  have hn : ∀ q, zA g K H.size q → zA g K s.heap.size q := fun q h => zA_mono hZ.2.2.1 h
  rw [hU]
  exact ⟨vk_S.narrow (vk_S.moved hW.alike (vk_S.kept S.1 hq)) hn, va_Z.narrow (va_Z.moved hW.alike (va_Z.kept S.2.1 hq)) hn, va_Zq.narrow (va_Zq.moved hW.alike (va_Zq.kept S.2.2.1 hq)) hn, fun q h => vk_R.warm hW (S.2.2.2 q h)⟩
theorem zSg_blind {g : zG} {K sz : Nat} {U : State} {f : JFrame} {mk : MethodId} {a : Array Value} (S : zSg g K sz U U.heap) : zSg g K sz (U.calling f mk a) (U.calling f mk a).heap := ⟨vk_S.moved (Vm.Alike.refl U.vm) S.1, va_Z.moved (u := U) (Vm.Alike.refl U.vm) S.2.1, va_Zq.moved (u := U) (Vm.Alike.refl U.vm) S.2.2.1, fun q h => vk_R.same (u := U) rfl (S.2.2.2 q h)⟩
def zPcs (g : zG) (en : zE) (K : Nat) (av : List Value) (M : zM) (sz : Nat) : Array Value → State → Prop := fun a U => zPc g en K av M sz a U ∧ zSg g K sz U U.heap
theorem zPcs_blind {g : zG} {en : zE} {K : Nat} {av : List Value} {M : zM} {sz : Nat} : FrameBlind (zPcs g en K av M sz) := fun a U f mk q => ⟨zPc_blind a U f mk q.1, zSg_blind q.2⟩
def zMis (l : Launch) (g : zG) (en : zE) (K : Nat) (y : MethodName) (ws : List Cond) (d : Nat) (av : List Value) (M : zM) (P : Int32 → zM → Prop) : Prop := ∀ sz : Nat, Met l y ws (zrm d 0 0) (zPcs g en K av M sz) (va_Qi P (zB g en K) (zA g K sz)) 0 0 (zA g K sz)
def zMvs (l : Launch) (g : zG) (en : zE) (K : Nat) (y : MethodName) (ws : List Cond) (d : Nat) (av : List Value) (M : zM) (P : zM → Prop) : Prop := ∀ sz : Nat, Met l y ws (zrm d 0 0) (zPcs g en K av M sz) (va_Qv P (zB g en K) (zA g K sz)) 0 0 (zA g K sz)
section ZTX
variable {p : Program} {l : Launch} {e : Env} {R : Room} {s : State} {m : MethodId} {args : Array Value} {below : List Frame} {meth : Method} {c : Code} {H : Heap} {locs : List Loc} {cells slots : Nat} {Q : State → Prop}
variable {cc : ByteArray} {pc : Nat} {ls : Array Slot} {rest st : List Value} {g : zG} {en : zE} {K : Nat} {M : zM} {nL : Nat} {Ts : List Cond} {own : String}
variable {y : MethodName} {yc : ByteArray} {yn n d mc ms index : Nat} {yr : Option FieldType} {Qc : Array Value → State → Outcome → State → Prop} {free : Addr → Prop} {As : List Value}
theorem zrunVs {k ci : Nat} {fs : List Value} {q : vw_C} (E : zX g p m c cc nL s args Ts own) (S : zSg g K s.heap.size s s.heap) (hZ : zS g en K s H locs M) (hk : k < K) (he : en g k (M k) = .inr (ci, fs)) (hci : vwCl[ci]? = some q) (hq : q.1 = y.cls) (hY : zYV y yc yn yr n) (hlink : Cond.methodLink own index y ∈ zT)
    (hM : Met l y (zWs y yc yn yr) (zrm d mc ms) (zPcs g en K (.ref (g.2.2 k) :: As) M H.size) Qc mc ms free) (hn : As.length = n) (hl : ls.size = nL) (hst : st = As.reverse ++ .ref (g.2.2 k) :: rest) (hW : (rest.map fun v => v.category).sum ≤ 8) (hR : d + 1 ≤ R.frames ∧ 8 + (yn + 11) + 48 * d ≤ R.locals) (hf : cells + mc ≤ R.cells ∧ slots + ms ≤ R.slots) (hdg : decode cc pc = .ok (.invokevirtual index, 3)) :
    va_Run p l e R s m args below meth c H locs cells slots mc ms (F0 m pc ls st) rest (Qc (Value.ref (g.2.2 k) :: As).toArray) free := by
  subst hst
  obtain ⟨q1, q2, q3⟩ := q
  have hq : q1 = y.cls := hq
  subst hq
  exact va_runV (C := y.cls) (As := As) (rest := rest) E.1 hM ⟨callB_of n E.1.2.2.2.2 (zGood E.2.2.2 hY.1) rfl rfl rfl (E.w hY.2.1) (E.w hlink) hY.2.2.2.2 hR, E.w hY.2.2.1, E.w hY.2.2.2.1⟩ ⟨zPcs_blind, va_recv E.2.1 hZ.1 hci ((zw_at hk).trans (by rw [he])), fun U hU hW => ⟨zPc_of E.2.1 E.2.2.1 hZ hU hW, zSg_of S hZ hU hW⟩⟩ rfl hn hl rfl (lv_room hW) hdg hf
/-- a call on a text -/
theorem zrunVx {i : Nat} (E : zX g p m c cc nL s args Ts own) (S : zSg g K s.heap.size s s.heap) (hZ : zS g en K s H locs M) (hi : i < 30) (hq : "java/lang/String" = y.cls) (hY : zYV y yc yn yr n) (hlink : Cond.methodLink own index y ∈ zT)
    (hM : Met l y (zWs y yc yn yr) (zrm d mc ms) (zPcs g en K (.ref (g.2.2 (1000 + i)) :: As) M H.size) Qc mc ms free) (hn : As.length = n) (hl : ls.size = nL) (hst : st = As.reverse ++ .ref (g.2.2 (1000 + i)) :: rest) (hW : (rest.map fun v => v.category).sum ≤ 8) (hR : d + 1 ≤ R.frames ∧ 8 + (yn + 11) + 48 * d ≤ R.locals) (hf : cells + mc ≤ R.cells ∧ slots + ms ≤ R.slots) (hdg : decode cc pc = .ok (.invokevirtual index, 3)) :
    va_Run p l e R s m args below meth c H locs cells slots mc ms (F0 m pc ls st) rest (Qc (Value.ref (g.2.2 (1000 + i)) :: As).toArray) free := by
  subst hst
  exact va_runV (C := y.cls) (As := As) (rest := rest) E.1 hM ⟨callB_of n E.1.2.2.2.2 (zGood E.2.2.2 hY.1) rfl rfl rfl (E.w hY.2.1) (E.w hlink) hY.2.2.2.2 hR, E.w hY.2.2.1, E.w hY.2.2.2.1⟩ ⟨zPcs_blind, by rw [← hq]; exact vk_recv (i := i) S.1 hi hZ.2.2, fun U hU hW => ⟨zPc_of E.2.1 E.2.2.1 hZ hU hW, zSg_of S hZ hU hW⟩⟩ rfl hn hl rfl (lv_room hW) hdg hf
theorem zrunSs (E : zX g p m c cc nL s args Ts own) (S : zSg g K s.heap.size s s.heap) (hZ : zS g en K s H locs M) (hY : zYS y yc yn yr n) (hlink : Cond.methodLink own index y ∈ zT)
    (hM : Met l y (zWs y yc yn yr) (zrm d mc ms) (zPcs g en K As M H.size) Qc mc ms free) (hn : As.length = n) (hl : ls.size = nL) (hst : st = As.reverse ++ rest) (hW : (rest.map fun v => v.category).sum ≤ 8) (hR : d + 1 ≤ R.frames ∧ 8 + (yn + 11) + 48 * d ≤ R.locals) (hf : cells + mc ≤ R.cells ∧ slots + ms ≤ R.slots) (hdg : decode cc pc = .ok (.invokestatic index, 3)) :
    va_Run p l e R s m args below meth c H locs cells slots mc ms (F0 m pc ls st) rest (Qc As.toArray) free := by
  subst hst
  exact va_runS (As := As) (rest := rest) E.1 hM ⟨callB_of n E.1.2.2.2.2 (zGood E.2.2.2 hY.1) rfl rfl rfl (E.w hY.2.1) (E.w hlink) hY.2.2.2 hR, E.w hY.2.2.1⟩ ⟨zPcs_blind, fun U hU hW => ⟨zPc_of E.2.1 E.2.2.1 hZ hU hW, zSg_of S hZ hU hW⟩⟩ rfl hn hl rfl (lv_room hW) hdg hf
theorem zlds {tx : String} {i : Nat} (E : zX g p m c cc nL s args Ts own) (S : zSg g K s.heap.size s s.heap) (hq : (own, index, tx, i) ∈ zStx) (hdg : decode cc pc = .ok (.ldc index, 2)) (kk : W p l e R s m args below meth c H locs cells slots Q (F0 m (pc + 2) ls (.ref (g.2.2 (1000 + i)) :: rest))) : W p l e R s m args below meth c H locs cells slots Q (F0 m pc ls rest) :=
  va_ldcS E.1.1 E.1.2.1 E.1.2.2.2.1 (S.2.2.2 _ hq) hdg kk
end ZTX
section ZTY
variable {l : Launch} {g : zG} {en : zE} {K : Nat} {M : zM} {y : MethodName} {cc : ByteArray} {n d : Nat} {av : List Value}
theorem zMis_of {ty : FieldType} {P : Int32 → zM → Prop} (hy : plainFor y = true) (hlen : (lg_sl av).length ≤ n)
    (walk : ∀ (p : Program) (e : Env) (s : State) (m : MethodId) (args : Array Value) (below : List Frame) (meth : Method) (c : Code) (Q : State → Prop) (ls : Array Slot), zX g p m c cc n s args (zWs y cc n (some ty)) y.cls → zSg g K s.heap.size s s.heap → zRi g en K p l e (zrm d 0 0) s m args below meth c 0 0 Q cc ty P → zS g en K s s.heap [] M → lv_has ls n (lv_args 0 av) → W p l e (zrm d 0 0) s m args below meth c s.heap [] 0 0 Q (F0 m 0 ls [])) : zMis l g en K y (zWs y cc n (some ty)) d av M P := by
  intro sz
  refine zofWF (cc := cc) (maxL := n) (ret := some ty) hy rfl ?_
  intro p e s m args below meth c s₁ B hml hv
  obtain ⟨hv, S⟩ := hv
  obtain ⟨rfl, rfl, hX, hZ⟩ := z_entry B hml hv
  have hlocks := B.notSynchronized
  have hl := lv_entry av (n := n) hlen
  rw [lg_entry_eq]
  exact walk p e s m _ below meth c _ _ hX S (fun v M1 H locs ls pc hp hn hZ1 hd => W.zret hX.1.1 hX.1.2.1 B.returns hn (fun t ht _ => ⟨⟨v, M1, rfl, hp, by show va_P _ _ _ _; rw [ht]; exact hZ1.1⟩, hZ1.2.2.F ht⟩) hZ1.2.2.2.2 hd) hZ hl
theorem zMvs_of {P : zM → Prop} (hy : plainFor y = true) (hlen : (lg_sl av).length ≤ n)
    (walk : ∀ (p : Program) (e : Env) (s : State) (m : MethodId) (args : Array Value) (below : List Frame) (meth : Method) (c : Code) (Q : State → Prop) (ls : Array Slot), zX g p m c cc n s args (zWs y cc n none) y.cls → zSg g K s.heap.size s s.heap → zRv g en K p l e (zrm d 0 0) s m args below meth c 0 0 Q cc P → zS g en K s s.heap [] M → lv_has ls n (lv_args 0 av) → W p l e (zrm d 0 0) s m args below meth c s.heap [] 0 0 Q (F0 m 0 ls [])) : zMvs l g en K y (zWs y cc n none) d av M P := by
  intro sz
  refine zofWF (cc := cc) (maxL := n) (ret := none) hy rfl ?_
  intro p e s m args below meth c s₁ B hml hv
  obtain ⟨hv, S⟩ := hv
  obtain ⟨rfl, rfl, hX, hZ⟩ := z_entry B hml hv
  have hlocks := B.notSynchronized
  have hl := lv_entry av (n := n) hlen
  rw [lg_entry_eq]
  exact walk p e s m _ below meth c _ _ hX S (fun M1 H locs ls pc hp hZ1 hd => W.vret hX.1.1 hX.1.2.1 B.returns (fun t ht _ => ⟨⟨M1, rfl, hp, by show va_P _ _ _ _; rw [ht]; exact hZ1.1⟩, hZ1.2.2.F ht⟩) hZ1.2.2.2.2 hd) hZ hl
end ZTY
theorem v_J0_length_8abf5 : zYV yJ0_length_8abf5 cJ0_length_8abf5 1 (some .int) 0 := ⟨kw_1508, kw_6, kw_1506, kw_1507, by decide +kernel⟩
theorem v_J0_coder_7d493 : zYV yJ0_coder_7d493 cJ0_coder_7d493 1 (some .byte) 0 := ⟨kw_1512, kw_6, kw_1510, kw_1511, by decide +kernel⟩
theorem v_J0_charAt_5068e : zYV yJ0_charAt_5068e cJ0_charAt_5068e 2 (some .char) 1 := ⟨kw_1516, kw_6, kw_1514, kw_1515, by decide +kernel⟩
theorem v_J0_isLatin1_aae02 : zYV yJ0_isLatin1_aae02 cJ0_isLatin1_aae02 1 (some .boolean) 0 := ⟨kw_207, kw_6, kw_205, kw_206, by decide +kernel⟩
theorem v_J1_charAt_3b067 : zYS yJ1_charAt_3b067 cJ1_charAt_3b067 2 (some .char) 2 := ⟨kw_1519, kw_7, kw_1518, by decide +kernel⟩
theorem v_J0_checkIndex_df160 : zYS yJ0_checkIndex_df160 cJ0_checkIndex_df160 2 none 2 := ⟨kw_1522, kw_6, kw_1521, by decide +kernel⟩
theorem v_J3_checkIndex_8e157 : zYS yJ3_checkIndex_8e157 cJ3_checkIndex_8e157 3 (some .int) 3 := ⟨kw_1525, kw_9, kw_1524, by decide +kernel⟩
set_option maxRecDepth 100000 in
set_option maxHeartbeats 4000000 in
theorem c_J0_coder_7d493 (l : Launch) (g : zG) (en : zE) (K : Nat) (M : zM) {i : Nat} (hi : i < 30) : zMis l g en K yJ0_coder_7d493 (zWs yJ0_coder_7d493 cJ0_coder_7d493 1 (some .byte)) 2 [.ref (g.2.2 (1000 + i))] M (fun v M1 => v = 0 ∧ M1 = M) := by
  refine zMis_of (by decide +kernel) (Nat.le_of_ble_eq_true rfl) (fun p e s m args below meth c Q ls E S hret hZ hl => ?_)
  have hx := E.1.1
  have hb := E.1.2.1
  have hown := E.1.2.2.2.1
  have hl : lv_has ls 1 [(0, .ref (g.2.2 (1000 + i)))] := hl
  refine va_gets hx hb S.2.1 hZ.2.2 hown (E.w kw_208) (fun x h => h) dJ0_coder_7d493_0 ?_
  refine lv_if_eq (tgt := 13) hx hb dJ0_coder_7d493_3 (by decide) (fun q => absurd q (by decide)) (fun _ => ?_)
  refine lv_aload_n hx hb dJ0_coder_7d493_6 rfl (lv_at hl 0 rfl) ?_
  refine vk_getf hx hb (S.1.1 i hi).2.1 hZ.2.2 hown (E.w kw_2067) (fun x h => h) dJ0_coder_7d493_7 ?_
  refine lv_goto (tgt := 14) hx hb dJ0_coder_7d493_10 (by decide) ?_
  exact hret _ _ _ _ _ _ ⟨rfl, rfl⟩ rfl hZ dJ0_coder_7d493_14
set_option maxRecDepth 100000 in
set_option maxHeartbeats 4000000 in
theorem c_J0_isLatin1_aae02 (l : Launch) (g : zG) (en : zE) (K : Nat) (M : zM) {i : Nat} (hi : i < 30) : zMis l g en K yJ0_isLatin1_aae02 (zWs yJ0_isLatin1_aae02 cJ0_isLatin1_aae02 1 (some .boolean)) 2 [.ref (g.2.2 (1000 + i))] M (fun v M1 => v = 1 ∧ M1 = M) := by
  refine zMis_of (by decide +kernel) (Nat.le_of_ble_eq_true rfl) (fun p e s m args below meth c Q ls E S hret hZ hl => ?_)
  have hx := E.1.1
  have hb := E.1.2.1
  have hown := E.1.2.2.2.1
  have hl : lv_has ls 1 [(0, .ref (g.2.2 (1000 + i)))] := hl
  refine va_gets hx hb S.2.1 hZ.2.2 hown (E.w kw_208) (fun x h => h) dJ0_isLatin1_aae02_0 ?_
  refine lv_if_eq (tgt := 17) hx hb dJ0_isLatin1_aae02_3 (by decide) (fun q => absurd q (by decide)) (fun _ => ?_)
  refine lv_aload_n hx hb dJ0_isLatin1_aae02_6 rfl (lv_at hl 0 rfl) ?_
  refine vk_getf hx hb (S.1.1 i hi).2.1 hZ.2.2 hown (E.w kw_2067) (fun x h => h) dJ0_isLatin1_aae02_7 ?_
  refine lv_if_ne (tgt := 17) hx hb dJ0_isLatin1_aae02_10 (by decide) (fun q => absurd rfl q) (fun _ => ?_)
  refine lv_iconst (v := 1) hx hb dJ0_isLatin1_aae02_13 (by decide) ?_
  refine lv_goto (tgt := 18) hx hb dJ0_isLatin1_aae02_14 (by decide) ?_
  exact hret _ _ _ _ _ _ ⟨rfl, rfl⟩ rfl hZ dJ0_isLatin1_aae02_18
set_option maxRecDepth 100000 in
set_option maxHeartbeats 4000000 in
theorem c_J0_length_8abf5 (l : Launch) (g : zG) (en : zE) (K : Nat) (M : zM) {i : Nat} (hi : i < 30) : zMis l g en K yJ0_length_8abf5 (zWs yJ0_length_8abf5 cJ0_length_8abf5 1 (some .int)) 4 [.ref (g.2.2 (1000 + i))] M (fun v M1 => v = nI (zLen.getD i 0) ∧ M1 = M) := by
  refine zMis_of (by decide +kernel) (Nat.le_of_ble_eq_true rfl) (fun p e s m args below meth c Q ls E S hret hZ hl => ?_)
  have hx := E.1.1
  have hb := E.1.2.1
  have hown := E.1.2.2.2.1
  have hl : lv_has ls 1 [(0, .ref (g.2.2 (1000 + i)))] := hl
  refine lv_aload_n hx hb dJ0_length_8abf5_0 rfl (lv_at hl 0 rfl) ?_
  refine vk_getf hx hb (S.1.1 i hi).2.2.1 hZ.2.2 hown (E.w kw_2068) (fun x h => h) dJ0_length_8abf5_1 ?_
  refine va_tlen hx hb (S.1.1 i hi).2.2.2 hZ.2.2 rfl dJ0_length_8abf5_4 ?_
  refine lv_aload_n hx hb dJ0_length_8abf5_5 rfl (lv_at hl 0 rfl) ?_
  refine zciR (zrunVx E S hZ hi rfl v_J0_coder_7d493 kw_1509 (c_J0_coder_7d493 l g en K M hi _) rfl hl.1 rfl (Nat.le_of_ble_eq_true rfl) ⟨by decide, by decide⟩ ⟨by decide, by decide⟩ dJ0_length_8abf5_6) hZ (fun H locs hZ => ?_)
  refine lv_ishr hx hb dJ0_length_8abf5_9 ?_
  exact hret _ _ _ _ _ _ ⟨sb_shr0 _, rfl⟩ rfl hZ dJ0_length_8abf5_10
set_option maxRecDepth 100000 in
set_option maxHeartbeats 4000000 in
theorem c_J3_checkIndex_8e157 (l : Launch) (g : zG) (en : zE) (K : Nat) (M : zM) {a b : Nat} (o : Option Nat) (hab : a < b) (hb2 : b < 2 ^ 31) : zMis l g en K yJ3_checkIndex_8e157 (zWs yJ3_checkIndex_8e157 cJ3_checkIndex_8e157 3 (some .int)) 2 [.int (nI a), .int (nI b), va_rf o] M (fun v M1 => v = nI a ∧ M1 = M) := by
  refine zMis_of (by decide +kernel) (by cases o <;> exact Nat.le_of_ble_eq_true rfl) (fun p e s m args below meth c Q ls E S hret hZ hl => ?_)
  have hx := E.1.1
  have hb := E.1.2.1
  have hown := E.1.2.2.2.1
  have hl : lv_has ls 3 [(0, .int (nI a)), (1, .int (nI b))] := by
    cases o
    · exact lv_sub (l := [(0, .int (nI a)), (1, .int (nI b)), (2, .null)]) hl [0, 1] rfl
    · exact lv_sub (l := [(0, .int (nI a)), (1, .int (nI b)), (2, .ref _)]) hl [0, 1] rfl
  refine lv_iload_n hx hb dJ3_checkIndex_8e157_0 rfl (lv_at hl 0 rfl) ?_
  refine lv_if_lt (tgt := 9) hx hb dJ3_checkIndex_8e157_1 (by decide) (fun q => absurd q (nI_pos (by omega))) (fun _ => ?_)
  refine lv_iload_n hx hb dJ3_checkIndex_8e157_4 rfl (lv_at hl 0 rfl) ?_
  refine lv_iload_n hx hb dJ3_checkIndex_8e157_5 rfl (lv_at hl 1 rfl) ?_
  refine lv_icmp_lt (tgt := 16) hx hb dJ3_checkIndex_8e157_6 (by decide) (fun _ => ?_) (fun q => absurd (nI_lt hab hb2) q)
  refine lv_iload_n hx hb dJ3_checkIndex_8e157_16 rfl (lv_at hl 0 rfl) ?_
  exact hret _ _ _ _ _ _ ⟨rfl, rfl⟩ rfl hZ dJ3_checkIndex_8e157_17
set_option maxRecDepth 100000 in
set_option maxHeartbeats 4000000 in
theorem c_J0_checkIndex_df160 (l : Launch) (g : zG) (en : zE) (K : Nat) (M : zM) {a b : Nat} (hab : a < b) (hb2 : b < 2 ^ 31) : zMvs l g en K yJ0_checkIndex_df160 (zWs yJ0_checkIndex_df160 cJ0_checkIndex_df160 2 none) 4 [.int (nI a), .int (nI b)] M (fun M1 => M1 = M) := by
  refine zMvs_of (by decide +kernel) (Nat.le_of_ble_eq_true rfl) (fun p e s m args below meth c Q ls E S hret hZ hl => ?_)
  have hx := E.1.1
  have hb := E.1.2.1
  have hown := E.1.2.2.2.1
  have hl : lv_has ls 2 [(0, .int (nI a)), (1, .int (nI b))] := hl
  refine lv_iload_n hx hb dJ0_checkIndex_df160_0 rfl (lv_at hl 0 rfl) ?_
  refine lv_iload_n hx hb dJ0_checkIndex_df160_1 rfl (lv_at hl 1 rfl) ?_
  have key : ∀ o : Option Nat, va_Z "jdk/internal/util/Preconditions" "SIOOBE_FORMATTER" "Ljava/util/function/BiFunction;" (va_rf o) (zA g K s.heap.size) s s.heap → W p l e (zrm 4 0 0) s m args below meth c s.heap [] 0 0 Q (F0 m 2 ls [.int (nI b), .int (nI a)]) := by
    intro o hz
    refine va_gets hx hb hz hZ.2.2 hown (E.w kw_231) (fun x h => h) dJ0_checkIndex_df160_2 ?_
    refine zciR (zrunSs (As := [.int (nI a), .int (nI b), va_rf o]) (rest := []) E S hZ v_J3_checkIndex_8e157 kw_1523 (c_J3_checkIndex_8e157 l g en K M o hab hb2 _) rfl hl.1 rfl (Nat.le_of_ble_eq_true rfl) ⟨by decide, by decide⟩ ⟨by decide, by decide⟩ dJ0_checkIndex_df160_5) hZ (fun H locs hZ => ?_)
    refine lv_pop hx hb dJ0_checkIndex_df160_8 rfl ?_
    exact hret _ _ _ _ _ rfl hZ dJ0_checkIndex_df160_9
  rcases S.2.2.1 with h | ⟨t, h⟩
  · exact key none h
  · exact key (some t) h
set_option maxRecDepth 100000 in
set_option maxHeartbeats 4000000 in
theorem c_J1_charAt_3b067 (l : Launch) (g : zG) (en : zE) (K : Nat) (M : zM) {i j : Nat} (hi : i < 30) (hj : j < zLen.getD i 0) : zMis l g en K yJ1_charAt_3b067 (zWs yJ1_charAt_3b067 cJ1_charAt_3b067 2 (some .char)) 6 [.ref (g.2.2 (2000 + i)), .int (nI j)] M (fun v M1 => v = (zByt.getD i []).getD j 0 ∧ M1 = M) := by
  refine zMis_of (by decide +kernel) (Nat.le_of_ble_eq_true rfl) (fun p e s m args below meth c Q ls E S hret hZ hl => ?_)
  have hx := E.1.1
  have hb := E.1.2.1
  have hown := E.1.2.2.2.1
  have hl : lv_has ls 2 [(0, .ref (g.2.2 (2000 + i))), (1, .int (nI j))] := hl
  have hL : zLen.getD i 0 < 2 ^ 31 := (show ∀ i, i < 30 → zLen.getD i 0 < 2 ^ 31 by decide +kernel) i hi
  refine lv_iload_n hx hb dJ1_charAt_3b067_0 rfl (lv_at hl 1 rfl) ?_
  refine lv_aload_n hx hb dJ1_charAt_3b067_1 rfl (lv_at hl 0 rfl) ?_
  refine va_tlen hx hb (S.1.1 i hi).2.2.2 hZ.2.2 rfl dJ1_charAt_3b067_2 ?_
  refine zcvS (zrunSs (As := [.int (nI j), .int (nI (zLen.getD i 0))]) (rest := []) E S hZ v_J0_checkIndex_df160 kw_1520 (c_J0_checkIndex_df160 l g en K M hj hL _) rfl hl.1 rfl (Nat.le_of_ble_eq_true rfl) ⟨by decide, by decide⟩ ⟨by decide, by decide⟩ dJ1_charAt_3b067_3) hZ (fun H locs hZ => ?_)
  refine lv_aload_n hx hb dJ1_charAt_3b067_6 rfl (lv_at hl 0 rfl) ?_
  refine lv_iload_n hx hb dJ1_charAt_3b067_7 rfl (lv_at hl 1 rfl) ?_
  refine va_tb hx hb (S.1.1 i hi).2.2.2 hZ.2.2 (vp_in_nI hj hL) (by rw [nI_clamp (by omega)]) dJ1_charAt_3b067_8 ?_
  refine lv_sipush (v := 255) hx hb dJ1_charAt_3b067_9 (by decide) ?_
  refine lv_iand hx hb dJ1_charAt_3b067_12 ?_
  refine lv_i2c hx hb dJ1_charAt_3b067_13 rfl ?_
  have hv : ∀ i, i < 30 → ∀ j, j < zLen.getD i 0 → (((zByt.getD i []).getD j 0 &&& 255).toUInt32 % 65536).toInt32 = (zByt.getD i []).getD j 0 ∧ narrow .char (.int ((zByt.getD i []).getD j 0)) = .int ((zByt.getD i []).getD j 0) := by decide +kernel
  have hv := hv i hi j hj
  exact hret _ _ _ _ _ _ ⟨hv.1, rfl⟩ (by rw [hv.1]; exact hv.2) hZ dJ1_charAt_3b067_14
set_option maxRecDepth 100000 in
set_option maxHeartbeats 4000000 in
theorem c_J0_charAt_5068e (l : Launch) (g : zG) (en : zE) (K : Nat) (M : zM) {i j : Nat} (hi : i < 30) (hj : j < zLen.getD i 0) : zMis l g en K yJ0_charAt_5068e (zWs yJ0_charAt_5068e cJ0_charAt_5068e 2 (some .char)) 8 [.ref (g.2.2 (1000 + i)), .int (nI j)] M (fun v M1 => v = (zByt.getD i []).getD j 0 ∧ M1 = M) := by
  refine zMis_of (by decide +kernel) (Nat.le_of_ble_eq_true rfl) (fun p e s m args below meth c Q ls E S hret hZ hl => ?_)
  have hx := E.1.1
  have hb := E.1.2.1
  have hown := E.1.2.2.2.1
  have hl : lv_has ls 2 [(0, .ref (g.2.2 (1000 + i))), (1, .int (nI j))] := hl
  refine lv_aload_n hx hb dJ0_charAt_5068e_0 rfl (lv_at hl 0 rfl) ?_
  refine zciR (zrunVx E S hZ hi rfl v_J0_isLatin1_aae02 kw_204 (c_J0_isLatin1_aae02 l g en K M hi _) rfl hl.1 rfl (Nat.le_of_ble_eq_true rfl) ⟨by decide, by decide⟩ ⟨by decide, by decide⟩ dJ0_charAt_5068e_1) hZ (fun H locs hZ => ?_)
  refine lv_if_eq (tgt := 16) hx hb dJ0_charAt_5068e_4 (by decide) (fun q => absurd q (by decide)) (fun _ => ?_)
  refine lv_aload_n hx hb dJ0_charAt_5068e_7 rfl (lv_at hl 0 rfl) ?_
  refine vk_getf hx hb (S.1.1 i hi).2.2.1 hZ.2.2 hown (E.w kw_2068) (fun x h => h) dJ0_charAt_5068e_8 ?_
  refine lv_iload_n hx hb dJ0_charAt_5068e_11 rfl (lv_at hl 1 rfl) ?_
  refine zciR (zrunSs (As := [.ref (g.2.2 (2000 + i)), .int (nI j)]) (rest := []) E S hZ v_J1_charAt_3b067 kw_1517 (c_J1_charAt_3b067 l g en K M hi hj _) rfl hl.1 rfl (Nat.le_of_ble_eq_true rfl) ⟨by decide, by decide⟩ ⟨by decide, by decide⟩ dJ0_charAt_5068e_12) hZ (fun H locs hZ => ?_)
  have hv : ∀ i, i < 30 → ∀ j, j < zLen.getD i 0 → narrow .char (.int ((zByt.getD i []).getD j 0)) = .int ((zByt.getD i []).getD j 0) := by decide +kernel
  exact hret _ _ _ _ _ _ ⟨rfl, rfl⟩ (hv i hi j hj) hZ dJ0_charAt_5068e_15
theorem zst_0 : ("TideBook$Text", 11, "ground period round range duty storm edition error pace goal from to more less wade wait tire if or and not monk place depth step tired hour rising there ", 0) ∈ zStx := List.mem_of_getElem? (i := 0) rfl
theorem zst_1 : ("TideBookModel", 156, "ground", 1) ∈ zStx := List.mem_of_getElem? (i := 1) rfl
theorem zst_2 : ("TideBookModel", 162, "period", 2) ∈ zStx := List.mem_of_getElem? (i := 2) rfl
theorem zst_3 : ("TideBookModel", 164, "round", 3) ∈ zStx := List.mem_of_getElem? (i := 3) rfl
theorem zst_4 : ("TideBookModel", 166, "range", 4) ∈ zStx := List.mem_of_getElem? (i := 4) rfl
theorem zst_5 : ("TideBookModel", 133, "to", 5) ∈ zStx := List.mem_of_getElem? (i := 5) rfl
theorem zst_6 : ("TideBookModel", 171, "monk", 6) ∈ zStx := List.mem_of_getElem? (i := 6) rfl
theorem zst_7 : ("TideBookModel", 139, "pace", 7) ∈ zStx := List.mem_of_getElem? (i := 7) rfl
theorem zst_8 : ("TideBookModel", 141, "goal", 8) ∈ zStx := List.mem_of_getElem? (i := 8) rfl
theorem zst_9 : ("TideBookModel", 176, "duty", 9) ∈ zStx := List.mem_of_getElem? (i := 9) rfl
theorem zst_10 : ("TideBookModel", 146, "from", 10) ∈ zStx := List.mem_of_getElem? (i := 10) rfl
theorem zst_11 : ("TideBookModel", 181, "storm", 11) ∈ zStx := List.mem_of_getElem? (i := 11) rfl
theorem zst_12 : ("TideBookModel", 183, "edition", 12) ∈ zStx := List.mem_of_getElem? (i := 12) rfl
theorem zst_13 : ("TideBookModel", 148, "less", 13) ∈ zStx := List.mem_of_getElem? (i := 13) rfl
theorem zst_14 : ("TideBookModel", 150, "more", 14) ∈ zStx := List.mem_of_getElem? (i := 14) rfl
theorem zst_15 : ("TideBookModel", 185, "error", 15) ∈ zStx := List.mem_of_getElem? (i := 15) rfl
theorem zst_16 : ("TideBookModel", 241, "wade", 16) ∈ zStx := List.mem_of_getElem? (i := 16) rfl
theorem zst_17 : ("TideBookModel", 243, "wait", 17) ∈ zStx := List.mem_of_getElem? (i := 17) rfl
theorem zst_18 : ("TideBookModel", 245, "tire", 18) ∈ zStx := List.mem_of_getElem? (i := 18) rfl
theorem zst_19 : ("TideBookModel", 247, "if", 19) ∈ zStx := List.mem_of_getElem? (i := 19) rfl
theorem zst_20 : ("TideBookModel", 223, "not", 20) ∈ zStx := List.mem_of_getElem? (i := 20) rfl
theorem zst_21 : ("TideBookModel", 213, "rising", 21) ∈ zStx := List.mem_of_getElem? (i := 21) rfl
theorem zst_22 : ("TideBookModel", 215, "there", 22) ∈ zStx := List.mem_of_getElem? (i := 22) rfl
theorem zst_23 : ("TideBookModel", 197, "place", 23) ∈ zStx := List.mem_of_getElem? (i := 23) rfl
theorem zst_24 : ("TideBookModel", 199, "depth", 24) ∈ zStx := List.mem_of_getElem? (i := 24) rfl
theorem zst_25 : ("TideBookModel", 201, "step", 25) ∈ zStx := List.mem_of_getElem? (i := 25) rfl
theorem zst_26 : ("TideBookModel", 203, "tired", 26) ∈ zStx := List.mem_of_getElem? (i := 26) rfl
theorem zst_27 : ("TideBookModel", 205, "hour", 27) ∈ zStx := List.mem_of_getElem? (i := 27) rfl
theorem zst_28 : ("TideBookModel", 234, "and", 28) ∈ zStx := List.mem_of_getElem? (i := 28) rfl
theorem zst_29 : ("TideBookModel", 239, "or", 29) ∈ zStx := List.mem_of_getElem? (i := 29) rfl
theorem zLen_lt {i : Nat} (hi : i < 30) : zLen.getD i 0 < 2 ^ 31 := (show ∀ i, i < 30 → zLen.getD i 0 < 2 ^ 31 by decide +kernel) i hi
section ZTZ
variable {p : Program} {l : Launch} {e : Env} {R : Room} {s : State} {m : MethodId} {args : Array Value} {below : List Frame} {meth : Method} {c : Code} {H : Heap} {locs : List Loc} {cells slots : Nat} {Q : State → Prop}
variable {cc : ByteArray} {pc : Nat} {ls : Array Slot} {rest st : List Value} {g : zG} {en : zE} {K : Nat} {M : zM} {nL index : Nat} {Ts : List Cond} {own : String} {β : Type} {r : β}
theorem zcharAt {x : Int32} {i : Nat} {X : Option β} (h : zck (zin x (zLen.getD i 0)) X = some r) (E : zX g p m c cc nL s args Ts own) (S : zSg g K s.heap.size s s.heap) (hZ : zS g en K s H locs M) (hi : i < 30) (hlink : Cond.methodLink own index yJ0_charAt_5068e ∈ zT) (hl : ls.size = nL) (hW : (rest.map fun v => v.category).sum ≤ 8) (hR : 9 ≤ R.frames ∧ 8 + (2 + 11) + 48 * 8 ≤ R.locals) (hf : cells ≤ R.cells ∧ slots ≤ R.slots) (hdg : decode cc pc = .ok (.invokevirtual index, 3))
    (kk : X = some r → ∀ (H1 : Heap) (locs1 : List Loc), zS g en K s H1 locs1 M → W p l e R s m args below meth c H1 locs1 cells slots Q (F0 m (pc + 3) ls (.int ((zByt.getD i []).getD x.toNatClampNeg 0) :: rest))) : W p l e R s m args below meth c H locs cells slots Q (F0 m pc ls (.int x :: .ref (g.2.2 (1000 + i)) :: rest)) := by
  replace h := zck_some h
  obtain ⟨h1, h⟩ := h
  obtain ⟨j, hj, rfl⟩ := vp_in_of (zin_of h1) (zLen_lt hi)
  have hc : (nI j).toNatClampNeg = j := nI_clamp (Nat.lt_trans hj (zLen_lt hi))
  rw [hc] at kk
  exact zciR (zrunVx E S hZ hi rfl v_J0_charAt_5068e hlink (c_J0_charAt_5068e l g en K M hi hj _) rfl hl rfl hW hR hf hdg) hZ (fun H1 locs1 hZ1 => kk h H1 locs1 hZ1)
end ZTZ
