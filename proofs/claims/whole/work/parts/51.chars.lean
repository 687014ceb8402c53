/-! WORDS.toCharArray() in the constructor of Text -/
def zSgA (g : zG) (A : Nat → Prop) (U : State) (H : Heap) : Prop := vk_S 30 zLen zByt (fun i => g.2.2 (1000 + i)) (fun i => g.2.2 (2000 + i)) A U H ∧ va_Z "java/lang/String" "COMPACT_STRINGS" "Z" (.int 1) A U H ∧ va_Zq "jdk/internal/util/Preconditions" "SIOOBE_FORMATTER" "Ljava/util/function/BiFunction;" A U H ∧ ∀ q ∈ zStx, vk_R q.1 q.2.1 q.2.2.1 (g.2.2 (1000 + q.2.2.2)) U
theorem zSgA_of {g : zG} {A : Nat → Prop} {s U : State} {H : Heap} (S : zSgA g A s s.heap) (hq : ∀ a : Nat, a < s.heap.size → ¬ A a → H[a]? = s.heap[a]?) (hU : U.heap = H) (hW : s.WarmedH U.vm) : zSgA g A U U.heap := by
  rw [hU]
  exact ⟨vk_S.moved hW.alike (vk_S.kept S.1 hq), va_Z.moved hW.alike (va_Z.kept S.2.1 hq), va_Zq.moved hW.alike (va_Zq.kept S.2.2.1 hq), fun q h => vk_R.warm hW (S.2.2.2 q h)⟩
theorem zSgA_blind {g : zG} {A : Nat → Prop} {U : State} {f : JFrame} {mk : MethodId} {a : Array Value} (S : zSgA g A U U.heap) : zSgA g A (U.calling f mk a) (U.calling f mk a).heap := ⟨vk_S.moved (Vm.Alike.refl U.vm) S.1, va_Z.moved (u := U) (Vm.Alike.refl U.vm) S.2.1, va_Zq.moved (u := U) (Vm.Alike.refl U.vm) S.2.2.1, fun q h => vk_R.same (u := U) rfl (S.2.2.2 q h)⟩
theorem zSgA_narrow {g : zG} {A B : Nat → Prop} {U : State} {H : Heap} (S : zSgA g A U H) (h : ∀ q, B q → A q) : zSgA g B U H := ⟨vk_S.narrow S.1 h, va_Z.narrow S.2.1 h, va_Zq.narrow S.2.2.1 h, S.2.2.2⟩
def zch (j : Nat) : Int32 := (zByt.getD 0 []).getD j 0
theorem zch_ok {j : Nat} (hj : j < 154) : vp_nar .char ((zch j &&& 255).toUInt32 % 65536).toInt32 = zch j := (show ∀ j, j < 154 → vp_nar .char ((zch j &&& 255).toUInt32 % 65536).toInt32 = zch j by decide +kernel) j hj
set_option maxRecDepth 100000 in
set_option maxHeartbeats 4000000 in
theorem i_inflate (l : Launch) (g : zG) (qd b0 : Nat) (f0 : Nat → Int32) (hb0 : b0 ≤ qd) (sz : Nat) (hsz0 : b0 ≤ sz) : Met l yJ1_inflate_03870 (zWs yJ1_inflate_03870 cJ1_inflate_03870 6 none) (zrm 2 0 0) (va_Pc [.ref (g.2.2 2000), .int 0, .ref qd, .int 0, .int 154] (fun U => U.heap.size = sz ∧ va_P g.1 vwCl [(qd, .inl (g.2.1 1, 154, .inl f0))] U.heap ∧ va_K g.1 vwCl (zty g) U ∧ zN U ∧ va_T .byte (g.2.2 2000) 154 (fun j => .int (zch j)) (fun q => b0 ≤ q) U U.heap)) (va_Qv (fun f : Nat → Int32 => ∀ j, f j = if j < 154 then zch j else f0 j) (fun f t => va_P g.1 vwCl [(qd, .inl (g.2.1 1, 154, .inl f))] t.heap) (fun q => b0 ≤ q)) 0 0 (fun q => b0 ≤ q) := by
  refine zofWF (cc := cJ1_inflate_03870) (maxL := 6) (ret := none) (by decide +kernel) rfl ?_
  intro p e s m args below meth c s₁ B hml hv
  obtain ⟨rfl, hsz, hP, hK, hN0, hT⟩ := hv
  have hx := B.exec
  have hb := B.bytes
  have hr := B.returns
  have hlocks := B.notSynchronized
  have hS : va_S (fun q => b0 ≤ q) s.heap s.heap [] := va_S.rf
  have hD : va_D (fun q => b0 ≤ q) [(qd, .inl (g.2.1 1, 154, .inl f0))] := by
    refine ⟨fun i j p q hi hj _ => ?_, fun k q hk => ?_⟩
    · match i, j, hi, hj with
      | 0, 0, _, _ => rfl
      | i + 1, _, hi, _ => simp at hi
      | 0, j + 1, _, hj => simp at hj
    · match k, hk with
      | 0, hk => cases hk; exact hb0
      | k + 1, hk => simp at hk
  have hl := lv_entry ([.ref (g.2.2 2000), .int 0, .ref qd, .int 0, .int 154]) (n := 6) (Nat.le_of_ble_eq_true rfl)
  rw [lg_entry_eq]
  generalize (lg_sl ([.ref (g.2.2 2000), .int 0, .ref qd, .int 0, .int 154]) ++ List.replicate (6 - (lg_sl ([.ref (g.2.2 2000), .int 0, .ref qd, .int 0, .int 154])).length) Slot.unset).toArray = ls at hl ⊢
  have hl : lv_has ls 6 [(0, .ref (g.2.2 2000)), (1, .int 0), (2, .ref qd), (3, .int 0), (4, .int 154)] := hl
  show W p l e (zrm 2 0 0) s m _ below meth c s.heap [] 0 0 _ _
  refine lv_iconst (v := 0) hx hb dJ1_inflate_03870_0 (by decide) ?_
  refine lv_istore (lv' := [(5, .int 0), (0, .ref (g.2.2 2000)), (1, .int 0), (2, .ref qd), (3, .int 0), (4, .int 154)]) hx hb dJ1_inflate_03870_1 hl (by decide) rfl (fun ls hl => ?_)
  have loop : ∀ (n i : Nat) (f : Nat → Int32) (H : Heap) (locs : List Loc) (ls : Array Slot), i + n = 154 → (∀ j, f j = if j < i then zch j else f0 j) → va_P g.1 vwCl [(qd, .inl (g.2.1 1, 154, .inl f))] H → va_D (fun q => b0 ≤ q) [(qd, .inl (g.2.1 1, 154, .inl f))] → va_S (fun q => b0 ≤ q) s.heap H locs → lv_has ls 6 [(5, .int (nI i)), (0, .ref (g.2.2 2000)), (1, .int (nI i)), (2, .ref qd), (3, .int (nI i)), (4, .int 154)] → W p l e (zrm 2 0 0) s m ([.ref (g.2.2 2000), .int 0, .ref qd, .int 0, .int 154] : List Value).toArray below meth c H locs 0 0 (MQ below (va_Qv (fun f : Nat → Int32 => ∀ j, f j = if j < 154 then zch j else f0 j) (fun f t => va_P g.1 vwCl [(qd, .inl (g.2.1 1, 154, .inl f))] t.heap) (fun q => b0 ≤ q)) ([.ref (g.2.2 2000), .int 0, .ref qd, .int 0, .int 154] : List Value).toArray s 0 0 (fun q => b0 ≤ q)) (F0 m 3 ls []) := by
    intro n
    induction n with
    | zero =>
      intro i f H locs ls hin hf hP hD hS hl
      have hi : i = 154 := by omega
      subst hi
      refine lv_iload hx hb dJ1_inflate_03870_3 (lv_at hl 0 rfl) ?_
      refine lv_iload hx hb dJ1_inflate_03870_5 (lv_at hl 5 rfl) ?_
      refine lv_icmp_ge (tgt := 33) hx hb dJ1_inflate_03870_7 (by decide) (fun _ => ?_) (fun q => absurd (show (154 : Int32) ≤ nI 154 by decide) q)
      exact W.vret hx hb hr (fun t ht _ => ⟨⟨f, rfl, hf, by show va_P _ _ _ _; rw [ht]; exact hP⟩, hS.F ht⟩) hS.2.2 dJ1_inflate_03870_33
    | succ n ih =>
      intro i f H locs ls hin hf hP hD hS hl
      have hi : i < 154 := by omega
      have h154 : (154 : Int32) = nI 154 := by decide
      refine lv_iload hx hb dJ1_inflate_03870_3 (lv_at hl 0 rfl) ?_
      refine lv_iload hx hb dJ1_inflate_03870_5 (lv_at hl 5 rfl) ?_
      refine lv_icmp_ge (tgt := 33) hx hb dJ1_inflate_03870_7 (by decide) (fun q => absurd q (by rw [h154]; exact nI_ge hi (by decide))) (fun _ => ?_)
      refine lv_aload_n hx hb dJ1_inflate_03870_10 rfl (lv_at hl 3 rfl) ?_
      refine lv_iload_n hx hb dJ1_inflate_03870_11 rfl (lv_at hl 4 rfl) ?_
      refine lv_iinc (v := nI (i + 1)) (lv' := [(3, .int (nI (i + 1))), (5, .int (nI i)), (0, .ref (g.2.2 2000)), (1, .int (nI i)), (2, .ref qd), (4, .int 154)]) hx hb dJ1_inflate_03870_12 hl (k := 4) rfl (nI_1 i) (by decide) rfl (fun ls hl => ?_)
      refine lv_aload_n hx hb dJ1_inflate_03870_15 rfl (lv_at hl 2 rfl) ?_
      refine lv_iload_n hx hb dJ1_inflate_03870_16 rfl (lv_at hl 3 rfl) ?_
      refine lv_iinc (v := nI (i + 1)) (lv' := [(1, .int (nI (i + 1))), (3, .int (nI (i + 1))), (5, .int (nI i)), (0, .ref (g.2.2 2000)), (2, .ref qd), (4, .int 154)]) hx hb dJ1_inflate_03870_17 hl (k := 3) rfl (nI_1 i) (by decide) rfl (fun ls hl => ?_)
      refine va_tb (v := .int (zch i)) hx hb hT hS (vp_in_nI hi (by decide)) (by rw [nI_clamp (by omega)]) dJ1_inflate_03870_20 ?_
      refine lv_sipush (v := 255) hx hb dJ1_inflate_03870_21 (by decide) ?_
      refine lv_iand hx hb dJ1_inflate_03870_24 ?_
      refine lv_i2c hx hb dJ1_inflate_03870_25 rfl ?_
      refine va_cast hx hb hK hP hD hS 0 1 rfl rfl (vp_in_nI hi (by decide)) dJ1_inflate_03870_26 (fun H locs hP hD hS => ?_)
      rw [nI_clamp (by omega), zch_ok hi] at hP hD
      refine lv_iinc (v := nI (i + 1)) (lv' := [(5, .int (nI (i + 1))), (1, .int (nI (i + 1))), (3, .int (nI (i + 1))), (0, .ref (g.2.2 2000)), (2, .ref qd), (4, .int 154)]) hx hb dJ1_inflate_03870_27 hl (k := 2) rfl (nI_1 i) (by decide) rfl (fun ls hl => ?_)
      refine lv_goto (tgt := 3) hx hb dJ1_inflate_03870_30 (by decide) ?_
      refine ih (i + 1) (upd f i (zch i)) H locs ls (by omega) ?_ hP hD hS (lv_sub hl [0, 3, 1, 4, 2, 5] rfl)
      intro j
      unfold upd
      by_cases hj : j = i
      · subst hj; simp
      · rw [if_neg hj, hf j]
        by_cases h1 : j < i
        · rw [if_pos h1, if_pos (by omega)]
        · rw [if_neg h1, if_neg (by omega)]
  exact loop 154 0 f0 _ _ ls rfl (fun j => by simp) hP hD hS hl
theorem v_J1_inflate_03870 : zYS yJ1_inflate_03870 cJ1_inflate_03870 6 none 5 := ⟨kw_215, kw_7, kw_214, by decide +kernel⟩
set_option maxRecDepth 100000 in
set_option maxHeartbeats 4000000 in
theorem i_toChars (l : Launch) (g : zG) (b0 : Nat) (sz : Nat) (hsz0 : b0 ≤ sz) : Met l yJ1_toChars_9d188 (zWs yJ1_toChars_9d188 cJ1_toChars_9d188 2 (some (.array .char))) (zrm 4 1 154) (va_Pc [.ref (g.2.2 2000)] (fun U => U.heap.size = sz ∧ va_K g.1 vwCl (zty g) U ∧ zN U ∧ va_T .byte (g.2.2 2000) 154 (fun j => .int (zch j)) (fun q => b0 ≤ q) U U.heap)) (va_Qr (fun _ : Unit => True) (fun _ a t => sz ≤ a ∧ va_P g.1 vwCl [(a, .inl (g.2.1 1, 154, .inl zch))] t.heap) (fun q => sz ≤ q)) 1 154 (fun q => sz ≤ q) := by
  refine zofWF (cc := cJ1_toChars_9d188) (maxL := 2) (ret := some (.array .char)) (by decide +kernel) rfl ?_
  intro p e s m args below meth c s₁ B hml hv
  obtain ⟨rfl, hsz, hK, hN0, hT⟩ := hv
  have E : zX g p m c cJ1_toChars_9d188 2 s _ (zWs yJ1_toChars_9d188 cJ1_toChars_9d188 2 (some (.array .char))) RJ1 := ⟨⟨B.exec, B.bytes, hml, findClass_of_methodNamed B.named, atoms_spec (ws := zWs yJ1_toChars_9d188 cJ1_toChars_9d188 2 (some (.array .char))) B.pre⟩, hK, hN0, fun w h => List.mem_cons_of_mem _ h⟩
  have hx := B.exec
  have hb := B.bytes
  have hr := B.returns
  have hlocks := B.notSynchronized
  subst hsz
  have hT : va_T .byte (g.2.2 2000) 154 (fun j => .int (zch j)) (fun q => s.heap.size ≤ q) s s.heap := hT.narrow (fun q h => Nat.le_trans hsz0 h)
  have hA : ∀ q : Nat, s.heap.size ≤ q → (fun q => s.heap.size ≤ q) q := fun _ h => h
  have hS : va_S (fun q => s.heap.size ≤ q) s.heap s.heap [] := va_S.rf
  have hP : va_P g.1 vwCl [] s.heap := fun k q h => by simp at h
  have hD : va_D (fun q : Nat => s.heap.size ≤ q) [] := ⟨fun i j p q h => by simp at h, fun k q h => by simp at h⟩
  have hl := lv_entry ([.ref (g.2.2 2000)]) (n := 2) (Nat.le_of_ble_eq_true rfl)
  rw [lg_entry_eq]
  generalize (lg_sl ([.ref (g.2.2 2000)]) ++ List.replicate (2 - (lg_sl ([.ref (g.2.2 2000)])).length) Slot.unset).toArray = ls at hl ⊢
  have hl : lv_has ls 2 [(0, .ref (g.2.2 2000))] := hl
  show W p l e (zrm 4 1 154) s m _ below meth c s.heap [] 0 0 _ _
  refine lv_aload_n hx hb dJ1_toChars_9d188_0 rfl (lv_at hl 0 rfl) ?_
  refine va_tlen (v := 154) hx hb hT hS (by decide) dJ1_toChars_9d188_1 ?_
  refine zna (atype := .char) (t := 1) (N' := 154) hx hb (E.w ka_char) rfl E.2.1 rfl hP hD hS hA (by rfl) (by decide) (by decide) (by decide) (Nat.le_of_ble_eq_true rfl) (Nat.le_of_ble_eq_true rfl) dJ1_toChars_9d188_2 (fun qd H hP hD hS => ?_)
  have hP : va_P g.1 vwCl [(qd, .inl (g.2.1 1, 154, .inl (fun _ => 0)))] H := hP
  have hD : va_D (fun q => s.heap.size ≤ q) [(qd, .inl (g.2.1 1, 154, .inl (fun _ => 0)))] := hD
  have hqd : s.heap.size ≤ qd := hD.2 0 _ rfl
  refine lv_astore_n (lv' := [(1, .ref qd), (0, .ref (g.2.2 2000))]) hx hb dJ1_toChars_9d188_4 rfl hl (by decide) rfl (fun ls hl => ?_)
  refine lv_aload_n hx hb dJ1_toChars_9d188_5 rfl (lv_at hl 1 rfl) ?_
  refine lv_iconst (v := 0) hx hb dJ1_toChars_9d188_6 (by decide) ?_
  refine lv_aload_n hx hb dJ1_toChars_9d188_7 rfl (lv_at hl 0 rfl) ?_
  refine lv_iconst (v := 0) hx hb dJ1_toChars_9d188_8 (by decide) ?_
  refine lv_aload_n hx hb dJ1_toChars_9d188_9 rfl (lv_at hl 1 rfl) ?_
  refine va_tlen (v := 154) hx hb hT hS (by decide) dJ1_toChars_9d188_10 ?_
  refine va_callv (va_runS (As := [.ref (g.2.2 2000), .int 0, .ref qd, .int 0, .int 154]) (rest := []) E.1 (i_inflate l g qd s.heap.size (fun _ => 0) hqd H.size hS.1) ⟨callB_of 5 E.1.2.2.2.2 (zGood E.2.2.2 v_J1_inflate_03870.1) rfl rfl rfl (E.w v_J1_inflate_03870.2.1) (E.w kw_213) v_J1_inflate_03870.2.2.2 ⟨by decide, by decide⟩, E.w v_J1_inflate_03870.2.2.1⟩ ⟨?_, fun U hU hW => ⟨rfl, by rw [hU], by rw [hU]; exact hP, va_K.moved hW.alike E.2.1, E.2.2.1.warm hW, by rw [hU]; exact va_T.moved hW.alike (hT.kept hS.2.1)⟩⟩ rfl rfl hl.1 rfl (lv_room (Nat.le_of_ble_eq_true rfl)) dJ1_toChars_9d188_11 ⟨by decide, by decide⟩) hS (fun q _ h => h) (fun q h => h) (fun f t H1 locs ht hvm hw hB hz1 hk1 hS => ?_)
  · intro a U f mk q
    obtain ⟨q0, q1, qP, qK, qN, qT⟩ := q
    exact ⟨q0, q1, qP, va_K.moved (u := U) (U := U.calling f mk a) (Vm.Alike.refl U.vm) qK, zN.same (s := U) rfl qN, va_T.moved (u := U) (Vm.Alike.refl U.vm) qT⟩
  · rw [ht] at hB
    have hf : f = zch := by
      funext j
      rw [hw j]
      by_cases hj : j < 154
      · rw [if_pos hj]
      · rw [if_neg hj]
        unfold zch
        rw [List.getD_eq_getElem?_getD, List.getElem?_eq_none (by show 154 ≤ j; omega)]
        rfl
    subst hf
    refine lv_aload_n hx hb dJ1_toChars_9d188_14 rfl (lv_at hl 0 rfl) ?_
    exact W.aret (rt := .array .char) hx hb hr (Or.inr ⟨_, rfl⟩) (Or.inr ⟨qd, rfl⟩) (fun t ht _ => ⟨⟨(), qd, rfl, trivial, hqd, by rw [ht]; exact hB⟩, hS.F ht⟩) hS.2.2 dJ1_toChars_9d188_15
theorem v_J1_toChars_9d188 : zYS yJ1_toChars_9d188 cJ1_toChars_9d188 2 (some (.array .char)) 1 := ⟨kw_212, kw_7, kw_211, by decide +kernel⟩
set_option maxRecDepth 100000 in
set_option maxHeartbeats 4000000 in
theorem i_toCharArray (l : Launch) (g : zG) (sz : Nat) : Met l yJ0_toCharArray_70df3 (zWs yJ0_toCharArray_70df3 cJ0_toCharArray_70df3 1 (some (.array .char))) (zrm 6 1 154) (va_Pc [.ref (g.2.2 (1000 + 0))] (fun U => U.heap.size = sz ∧ va_K g.1 vwCl (zty g) U ∧ zN U ∧ zSgA g (fun q => sz ≤ q) U U.heap)) (va_Qr (fun _ : Unit => True) (fun _ a t => sz ≤ a ∧ va_P g.1 vwCl [(a, .inl (g.2.1 1, 154, .inl zch))] t.heap) (fun q => sz ≤ q)) 1 154 (fun q => sz ≤ q) := by
  refine zofWF (cc := cJ0_toCharArray_70df3) (maxL := 1) (ret := some (.array .char)) (by decide +kernel) rfl ?_
  intro p e s m args below meth c s₁ B hml hv
  obtain ⟨rfl, hsz, hK, hN0, S⟩ := hv
  have E : zX g p m c cJ0_toCharArray_70df3 1 s _ (zWs yJ0_toCharArray_70df3 cJ0_toCharArray_70df3 1 (some (.array .char))) RJ0 := ⟨⟨B.exec, B.bytes, hml, findClass_of_methodNamed B.named, atoms_spec (ws := zWs yJ0_toCharArray_70df3 cJ0_toCharArray_70df3 1 (some (.array .char))) B.pre⟩, hK, hN0, fun w h => List.mem_cons_of_mem _ h⟩
  have hx := B.exec
  have hb := B.bytes
  have hr := B.returns
  have hown := E.1.2.2.2.1
  have hlocks := B.notSynchronized
  subst hsz
  have hz0 : ∀ q, zA g 0 s.heap.size q → s.heap.size ≤ q := fun q h => h.elim (fun ⟨k, hk, _⟩ => absurd hk (Nat.not_lt_zero _)) id
  have S0 : zSg g 0 s.heap.size s s.heap := zSgA_narrow S hz0
  have hZ : zS g xE 0 s s.heap [] (fun _ _ => 0) := ⟨fun k q h => by simp [zw] at h, ⟨fun i j p q h => by simp [zw] at h, fun k q h => by simp [zw] at h⟩, va_S.rf⟩
  have hl := lv_entry ([.ref (g.2.2 (1000 + 0))]) (n := 1) (Nat.le_of_ble_eq_true rfl)
  rw [lg_entry_eq]
  generalize (lg_sl ([.ref (g.2.2 (1000 + 0))]) ++ List.replicate (1 - (lg_sl ([.ref (g.2.2 (1000 + 0))])).length) Slot.unset).toArray = ls at hl ⊢
  have hl : lv_has ls 1 [(0, .ref (g.2.2 (1000 + 0)))] := hl
  show W p l e (zrm 6 1 154) s m _ below meth c s.heap [] 0 0 _ _
  refine lv_aload_n hx hb dJ0_toCharArray_70df3_0 rfl (lv_at hl 0 rfl) ?_
  refine zciR (zrunVx (i := 0) E S0 hZ (by decide) rfl v_J0_isLatin1_aae02 kw_204 (c_J0_isLatin1_aae02 l g xE 0 (fun _ _ => 0) (i := 0) (by decide) _) rfl hl.1 rfl (Nat.le_of_ble_eq_true rfl) ⟨by decide, by decide⟩ ⟨by decide, by decide⟩ dJ0_toCharArray_70df3_1) hZ (fun H locs hZ => ?_)
  have hS : va_S (fun q => s.heap.size ≤ q) s.heap H locs := ⟨hZ.2.2.1, fun q h1 h2 => hZ.2.2.2.1 q h1 (fun z => h2 (hz0 q z)), fun l hl => hz0 _ (hZ.2.2.2.2 l hl)⟩
  refine lv_if_eq (tgt := 17) hx hb dJ0_toCharArray_70df3_4 (by decide) (fun q => absurd q (by decide)) (fun _ => ?_)
  refine lv_aload_n hx hb dJ0_toCharArray_70df3_7 rfl (lv_at hl 0 rfl) ?_
  refine vk_getf hx hb (S.1.1 0 (by decide)).2.2.1 hS hown (E.w kw_2068) (fun x h => h) dJ0_toCharArray_70df3_8 ?_
  have hT : va_T .byte (g.2.2 2000) 154 (fun j => .int (zch j)) (fun q => s.heap.size ≤ q) s s.heap := (S.1.1 0 (by decide)).2.2.2
  refine va_callr (va_runS (As := [.ref (g.2.2 2000)]) (rest := []) E.1 (i_toChars l g s.heap.size H.size hS.1) ⟨callB_of 1 E.1.2.2.2.2 (zGood E.2.2.2 v_J1_toChars_9d188.1) rfl rfl rfl (E.w v_J1_toChars_9d188.2.1) (E.w kw_210) v_J1_toChars_9d188.2.2.2 ⟨by decide, by decide⟩, E.w v_J1_toChars_9d188.2.2.1⟩ ⟨?_, fun U hU hW => ⟨rfl, by rw [hU], va_K.moved hW.alike E.2.1, E.2.2.1.warm hW, by rw [hU]; exact va_T.moved hW.alike (hT.kept hS.2.1)⟩⟩ rfl rfl hl.1 rfl (lv_room (Nat.le_of_ble_eq_true rfl)) dJ0_toCharArray_70df3_11 ⟨by decide, by decide⟩) hS (fun q _ h => Nat.le_trans hS.1 h) (fun q h => Nat.le_trans hS.1 h) (fun u qa t H1 locs ht hvm hw hB hz1 hk1 hS2 => ?_)
  · intro a U f mk q
    obtain ⟨q0, q1, qK, qN, qT⟩ := q
    exact ⟨q0, q1, va_K.moved (u := U) (U := U.calling f mk a) (Vm.Alike.refl U.vm) qK, zN.same (s := U) rfl qN, va_T.moved (u := U) (Vm.Alike.refl U.vm) qT⟩
  · rw [ht] at hB
    refine lv_goto (tgt := 24) hx hb dJ0_toCharArray_70df3_14 (by decide) ?_
    exact W.aret (rt := .array .char) hx hb hr (Or.inr ⟨_, rfl⟩) (Or.inr ⟨qa, rfl⟩) (fun t ht _ => ⟨⟨(), qa, rfl, trivial, Nat.le_trans hS.1 hB.1, by rw [ht]; exact hB.2⟩, hS2.F ht⟩) hS2.2.2 dJ0_toCharArray_70df3_24
theorem v_J0_toCharArray_70df3 : zYV yJ0_toCharArray_70df3 cJ0_toCharArray_70df3 1 (some (.array .char)) 0 := ⟨kw_203, kw_6, kw_201, kw_202, by decide +kernel⟩
