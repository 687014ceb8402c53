theorem zcs_blind {g : zG} {av : List Value} {sz : Nat} {A : Nat → Prop} : FrameBlind (va_Pc av (fun U => U.heap.size = sz ∧ va_K g.1 vwCl (zty g) U ∧ zN U ∧ zSgA g A U U.heap)) := by
  intro a U f mk q
  obtain ⟨q0, q1, qK, qN, qS⟩ := q
  exact ⟨q0, q1, va_K.moved (u := U) (U := U.calling f mk a) (Vm.Alike.refl U.vm) qK, zN.same (s := U) rfl qN, zSgA_blind qS⟩
theorem zct_blind {g : zG} {av : List Value} {ws : va_W} {sz b0 : Nat} : FrameBlind (va_Pc av (fun U => U.heap.size = sz ∧ va_P g.1 vwCl ws U.heap ∧ va_K g.1 vwCl (zty g) U ∧ va_D (fun _ => True) ws ∧ zN U ∧ b0 ≤ U.heap.size ∧ zSgA g (fun q => b0 ≤ q) U U.heap)) := by
  intro a U f mk q
  obtain ⟨q0, q1, qP, qK, qD, qN, qb, qS⟩ := q
  exact ⟨q0, q1, qP, va_K.moved (u := U) (U := U.calling f mk a) (Vm.Alike.refl U.vm) qK, qD, zN.same (s := U) rfl qN, qb, zSgA_blind qS⟩
theorem zjoin1 {D : va_G} {cl : List vw_C} {A : Nat → Prop} {ws : va_W} {H H1 : Heap} {sz qa : Nat} {x : va_E} (hP : va_P D cl ws H) (hD : va_D A ws) (hk1 : ∀ q : Nat, q < H.size → ¬ sz ≤ q → H1[q]? = H[q]?) (hq : sz ≤ qa) (hB : va_P D cl [(qa, x)] H1) (hA : A qa) (hlt : ∀ (k : Nat) (q : Nat × va_E), ws[k]? = some q → q.1 < sz := by assumption) : va_P D cl (ws ++ [(qa, x)]) H1 ∧ va_D A (ws ++ [(qa, x)]) := by
  have sp : ∀ (k : Nat) (q : Nat × va_E), (ws ++ [(qa, x)])[k]? = some q → ws[k]? = some q ∨ (k = ws.length ∧ q = (qa, x)) := by
    intro k q hk
    rcases Nat.lt_or_ge k ws.length with h | h
    · rw [List.getElem?_append_left h] at hk; exact Or.inl hk
    · rw [List.getElem?_append_right h] at hk
      match hj : k - ws.length, hk with
      | 0, hk => cases hk; exact Or.inr ⟨by omega, rfl⟩
      | j + 1, hk => simp at hk
  refine ⟨fun k q hk => ?_, fun i j p q hi hj e => ?_, fun k q hk => ?_⟩
  · rcases sp k q hk with h | ⟨-, h⟩
    · exact (hP k q h).kept (hk1 q.1 ((hP k q h).lt) (Nat.not_le.mpr (hlt k q h)))
    · rw [h]; exact hB 0 _ rfl
  · rcases sp i p hi with h | ⟨h, h'⟩ <;> rcases sp j q hj with g | ⟨g, g'⟩
    · exact hD.1 i j p q h g e
    · have := hlt i p h; rw [e, g'] at this; exact absurd this (Nat.not_lt.mpr hq)
    · have := hlt j q g; rw [← e, h'] at this; exact absurd this (Nat.not_lt.mpr hq)
    · rw [h, g]
  · rcases sp k q hk with h | ⟨-, h⟩
    · exact hD.2 k q h
    · rw [h]; exact hA
set_option maxRecDepth 100000 in
set_option maxHeartbeats 4000000 in
theorem i_X7 (l : Launch) (g : zG) (h0 : Nat) (h1 : Nat) (b0 : Nat) (hb0 : b0 ≤ h0) (sz : Nat) : Met l yX7_init (zWs yX7_init cX7_init 2 none) (zrm 8 1 154) (va_Pc [.ref h0, .ref h1] (fun U => U.heap.size = sz ∧ va_P g.1 vwCl [(h0, .inr (6, [.null, .null, .int 0, .int 0, .int 0, .int 0, .int 0]))] U.heap ∧ va_K g.1 vwCl (zty g) U ∧ va_D (fun _ => True) [(h0, .inr (6, [.null, .null, .int 0, .int 0, .int 0, .int 0, .int 0]))] ∧ zN U ∧ b0 ≤ U.heap.size ∧ zSgA g (fun q => b0 ≤ q) U U.heap)) (va_Qv (fun _ : Nat => True) (fun u t => match u with | q1 => va_P g.1 vwCl [(h0, .inr (6, [.ref h1, .ref q1, .int 0, .int 0, .int 0, .int 0, .int (-1)])), (q1, .inl (g.2.1 1, 154, .inl zch))] t.heap ∧ va_D (va_A [(h0, .inr (6, [.null, .null, .int 0, .int 0, .int 0, .int 0, .int 0]))] sz) [(h0, .inr (6, [.ref h1, .ref q1, .int 0, .int 0, .int 0, .int 0, .int (-1)])), (q1, .inl (g.2.1 1, 154, .inl zch))]) (va_A [(h0, .inr (6, [.null, .null, .int 0, .int 0, .int 0, .int 0, .int 0]))] sz)) 1 154 (va_A [(h0, .inr (6, [.null, .null, .int 0, .int 0, .int 0, .int 0, .int 0]))] sz) := by
  refine zofWF (cc := cX7_init) (maxL := 2) (ret := none) (by decide +kernel) rfl ?_
  intro p e s m args below meth c s₁ B hml hv
  obtain ⟨rfl, hsz, hP, hK0, hD0, hN0, hbs, S⟩ := hv
  have E : zX g p m c cX7_init 2 s _ (zWs yX7_init cX7_init 2 none) RX7 := ⟨⟨B.exec, B.bytes, hml, findClass_of_methodNamed B.named, atoms_spec (ws := zWs yX7_init cX7_init 2 none) B.pre⟩, hK0, hN0, fun w h => List.mem_cons_of_mem _ h⟩
  have hx := B.exec
  have hb := B.bytes
  have hr := B.returns
  have hts := E.1.2.2.2.2
  have hown := E.1.2.2.2.1
  have hlocks := B.notSynchronized
  have hin : meth.name = "<init>" := (name_of_methodNamed B.named B.method).1
  subst hsz
  have hD := hD0.self (sz := s.heap.size)
  generalize hAe : va_A [(h0, .inr (6, [.null, .null, .int 0, .int 0, .int 0, .int 0, .int 0]))] s.heap.size = A at hD ⊢
  have hA : ∀ q : Nat, s.heap.size ≤ q → A q := fun q h => by rw [← hAe]; exact Or.inr h
  have hS : va_S A s.heap s.heap [] := va_S.rf
  have hP : va_P g.1 vwCl [(h0, .inr (6, [.null, .null, .int 0, .int 0, .int 0, .int 0, .int 0]))] s.heap := hP
  have hPs := hP
  have hl := lv_entry ([.ref h0, .ref h1]) (n := 2) (Nat.le_of_ble_eq_true rfl)
  rw [lg_entry_eq]
  generalize (lg_sl ([.ref h0, .ref h1]) ++ List.replicate (2 - (lg_sl ([.ref h0, .ref h1])).length) Slot.unset).toArray = ls at hl ⊢
  have hl : lv_has ls 2 [(0, .ref h0), (1, .ref h1)] := hl
  show W p l e (zrm 8 1 154) s m _ below meth c s.heap [] 0 0 _ _
  have hAb : ∀ q, A q → b0 ≤ q := fun q h => by rw [← hAe] at h; rcases h with ⟨k, e9, h9⟩ | h9; (match k, h9 with | 0, h9 => cases h9; exact hb0 | k + 1, h9 => simp at h9); exact Nat.le_trans hbs h9
  refine lv_aload_n hx hb dX7_init_0 rfl (lv_at hl 0 rfl) ?_
  refine W.objInit hx hb hown (E.w kw_198) (E.w kw_34) (E.w kw_35) rfl (by rw [hml]; exact hl.1) rfl dX7_init_1 (Nat.le_of_ble_eq_true rfl) (Nat.le_of_ble_eq_true rfl) ?_
  refine W.eq (g2 := F0 m 4 ls []) rfl ?_
  refine lv_aload_n hx hb dX7_init_4 rfl (lv_at hl 0 rfl) ?_
  refine va_ldcS hx hb hown (S.2.2.2 _ zst_0) dX7_init_5 ?_
  have hSb : va_S (fun q => b0 ≤ q) s.heap s.heap [] := va_S.rf
  refine va_callr (va_runV (C := "java/lang/String") (b := g.2.2 (1000 + 0)) (As := []) (rest := [.ref h0]) E.1 (i_toCharArray l g s.heap.size) ⟨callB_of 0 hts (zGood E.2.2.2 v_J0_toCharArray_70df3.1) rfl rfl rfl (E.w v_J0_toCharArray_70df3.2.1) (E.w kw_200) v_J0_toCharArray_70df3.2.2.2.2 ⟨by decide, by decide⟩, E.w v_J0_toCharArray_70df3.2.2.1, E.w v_J0_toCharArray_70df3.2.2.2.1⟩ ⟨zcs_blind, vk_recv (i := 0) S.1 (by decide) hSb, fun U hU hW => ⟨rfl, by rw [hU], va_K.moved hW.alike E.2.1, E.2.2.1.warm hW, zSgA_narrow (zSgA_of S hSb.2.1 hU hW) (fun q h => Nat.le_trans hbs h)⟩⟩ rfl rfl hl.1 rfl (lv_room (Nat.le_of_ble_eq_true rfl)) dX7_init_7 ⟨by decide, by decide⟩) hS (fun q _ h => hA q h) (fun q h => hA q h) (fun u q1 t H1 locs ht hvm hw hB hz1 hk1 hS => ?_)
  rw [ht] at hB
  obtain ⟨hP, hD⟩ := zjoin1 hP hD hk1 hB.1 hB.2 (hA _ hB.1) (fun k q hk => by match k, hk with | 0, hk => cases hk; exact vx_lt hPs (k := 0) rfl | k + 1, hk => simp at hk)
  generalize H1 = H at hP hS ⊢
  have hP : va_P g.1 vwCl [(h0, .inr (6, [.null, .null, .int 0, .int 0, .int 0, .int 0, .int 0])), (q1, .inl (g.2.1 1, 154, .inl zch))] H := hP
  have hD : va_D A [(h0, .inr (6, [.null, .null, .int 0, .int 0, .int 0, .int 0, .int 0])), (q1, .inl (g.2.1 1, 154, .inl zch))] := hD
  refine W.widen (k := 1) (n := 154) (by decide) (by decide) ?_
  refine va_putF (D := g.1) (ci := 6) (v := .ref q1) (ty := tyX7 1) (C := RX7) (T := TX7) (N := 7) hx hb hts (fun w h => E.2.2.2 _ (kt_X7 w h)) tyX7 tyX7_ok nmX7 hown E.2.1 hP hD hS 0 rfl rfl 1 (by decide) (E.w kw_246) (fun _ h9 => h9) rfl hin rfl (tyX7_ok 1 (by decide)) rfl rfl (Nat.le_of_ble_eq_true rfl) dX7_init_10 (fun H locs hP hD hS => ?_)
  have hP : va_P g.1 vwCl [(h0, .inr (6, [.null, .ref q1, .int 0, .int 0, .int 0, .int 0, .int 0])), (q1, .inl (g.2.1 1, 154, .inl zch))] H := hP
  have hD : va_D A [(h0, .inr (6, [.null, .ref q1, .int 0, .int 0, .int 0, .int 0, .int 0])), (q1, .inl (g.2.1 1, 154, .inl zch))] := hD
  refine lv_aload_n hx hb dX7_init_13 rfl (lv_at hl 0 rfl) ?_
  refine lv_iconst (v := 0) hx hb dX7_init_14 (by decide) ?_
  refine va_put (D := g.1) (ci := 6) (v := .int 0) (ty := tyX7 2) (C := RX7) (T := TX7) (N := 7) hx hb hts (fun w h => E.2.2.2 _ (kt_X7 w h)) tyX7 tyX7_ok nmX7 hown E.2.1 hP hD hS 0 rfl rfl 2 (by decide) (E.w kw_247) (fun _ h9 => h9) rfl (tyX7_ok 2 (by decide)) rfl rfl (Nat.le_of_ble_eq_true rfl) dX7_init_15 (fun H locs hP hD hS => ?_)
  have hP : va_P g.1 vwCl [(h0, .inr (6, [.null, .ref q1, .int 0, .int 0, .int 0, .int 0, .int 0])), (q1, .inl (g.2.1 1, 154, .inl zch))] H := hP
  have hD : va_D A [(h0, .inr (6, [.null, .ref q1, .int 0, .int 0, .int 0, .int 0, .int 0])), (q1, .inl (g.2.1 1, 154, .inl zch))] := hD
  refine lv_aload_n hx hb dX7_init_18 rfl (lv_at hl 0 rfl) ?_
  refine lv_iconst (v := 0) hx hb dX7_init_19 (by decide) ?_
  refine va_put (D := g.1) (ci := 6) (v := .int 0) (ty := tyX7 3) (C := RX7) (T := TX7) (N := 7) hx hb hts (fun w h => E.2.2.2 _ (kt_X7 w h)) tyX7 tyX7_ok nmX7 hown E.2.1 hP hD hS 0 rfl rfl 3 (by decide) (E.w kw_248) (fun _ h9 => h9) rfl (tyX7_ok 3 (by decide)) rfl rfl (Nat.le_of_ble_eq_true rfl) dX7_init_20 (fun H locs hP hD hS => ?_)
  have hP : va_P g.1 vwCl [(h0, .inr (6, [.null, .ref q1, .int 0, .int 0, .int 0, .int 0, .int 0])), (q1, .inl (g.2.1 1, 154, .inl zch))] H := hP
  have hD : va_D A [(h0, .inr (6, [.null, .ref q1, .int 0, .int 0, .int 0, .int 0, .int 0])), (q1, .inl (g.2.1 1, 154, .inl zch))] := hD
  refine lv_aload_n hx hb dX7_init_23 rfl (lv_at hl 0 rfl) ?_
  refine lv_iconst (v := 0) hx hb dX7_init_24 (by decide) ?_
  refine va_put (D := g.1) (ci := 6) (v := .int 0) (ty := tyX7 4) (C := RX7) (T := TX7) (N := 7) hx hb hts (fun w h => E.2.2.2 _ (kt_X7 w h)) tyX7 tyX7_ok nmX7 hown E.2.1 hP hD hS 0 rfl rfl 4 (by decide) (E.w kw_249) (fun _ h9 => h9) rfl (tyX7_ok 4 (by decide)) rfl rfl (Nat.le_of_ble_eq_true rfl) dX7_init_25 (fun H locs hP hD hS => ?_)
  have hP : va_P g.1 vwCl [(h0, .inr (6, [.null, .ref q1, .int 0, .int 0, .int 0, .int 0, .int 0])), (q1, .inl (g.2.1 1, 154, .inl zch))] H := hP
  have hD : va_D A [(h0, .inr (6, [.null, .ref q1, .int 0, .int 0, .int 0, .int 0, .int 0])), (q1, .inl (g.2.1 1, 154, .inl zch))] := hD
  refine lv_aload_n hx hb dX7_init_28 rfl (lv_at hl 0 rfl) ?_
  refine lv_iconst (v := 0) hx hb dX7_init_29 (by decide) ?_
  refine va_put (D := g.1) (ci := 6) (v := .int 0) (ty := tyX7 5) (C := RX7) (T := TX7) (N := 7) hx hb hts (fun w h => E.2.2.2 _ (kt_X7 w h)) tyX7 tyX7_ok nmX7 hown E.2.1 hP hD hS 0 rfl rfl 5 (by decide) (E.w kw_250) (fun _ h9 => h9) rfl (tyX7_ok 5 (by decide)) rfl rfl (Nat.le_of_ble_eq_true rfl) dX7_init_30 (fun H locs hP hD hS => ?_)
  have hP : va_P g.1 vwCl [(h0, .inr (6, [.null, .ref q1, .int 0, .int 0, .int 0, .int 0, .int 0])), (q1, .inl (g.2.1 1, 154, .inl zch))] H := hP
  have hD : va_D A [(h0, .inr (6, [.null, .ref q1, .int 0, .int 0, .int 0, .int 0, .int 0])), (q1, .inl (g.2.1 1, 154, .inl zch))] := hD
  refine lv_aload_n hx hb dX7_init_33 rfl (lv_at hl 0 rfl) ?_
  refine lv_iconst (v := (-1)) hx hb dX7_init_34 (by decide) ?_
  refine va_put (D := g.1) (ci := 6) (v := .int (-1)) (ty := tyX7 6) (C := RX7) (T := TX7) (N := 7) hx hb hts (fun w h => E.2.2.2 _ (kt_X7 w h)) tyX7 tyX7_ok nmX7 hown E.2.1 hP hD hS 0 rfl rfl 6 (by decide) (E.w kw_251) (fun _ h9 => h9) rfl (tyX7_ok 6 (by decide)) rfl rfl (Nat.le_of_ble_eq_true rfl) dX7_init_35 (fun H locs hP hD hS => ?_)
  have hP : va_P g.1 vwCl [(h0, .inr (6, [.null, .ref q1, .int 0, .int 0, .int 0, .int 0, .int (-1)])), (q1, .inl (g.2.1 1, 154, .inl zch))] H := hP
  have hD : va_D A [(h0, .inr (6, [.null, .ref q1, .int 0, .int 0, .int 0, .int 0, .int (-1)])), (q1, .inl (g.2.1 1, 154, .inl zch))] := hD
  refine lv_aload_n hx hb dX7_init_38 rfl (lv_at hl 0 rfl) ?_
  refine lv_aload_n hx hb dX7_init_39 rfl (lv_at hl 1 rfl) ?_
  refine va_putF (D := g.1) (ci := 6) (v := .ref h1) (ty := tyX7 0) (C := RX7) (T := TX7) (N := 7) hx hb hts (fun w h => E.2.2.2 _ (kt_X7 w h)) tyX7 tyX7_ok nmX7 hown E.2.1 hP hD hS 0 rfl rfl 0 (by decide) (E.w kw_245) (fun _ h9 => h9) rfl hin rfl (tyX7_ok 0 (by decide)) rfl rfl (Nat.le_of_ble_eq_true rfl) dX7_init_40 (fun H locs hP hD hS => ?_)
  have hP : va_P g.1 vwCl [(h0, .inr (6, [.ref h1, .ref q1, .int 0, .int 0, .int 0, .int 0, .int (-1)])), (q1, .inl (g.2.1 1, 154, .inl zch))] H := hP
  have hD : va_D A [(h0, .inr (6, [.ref h1, .ref q1, .int 0, .int 0, .int 0, .int 0, .int (-1)])), (q1, .inl (g.2.1 1, 154, .inl zch))] := hD
  exact W.vret hx hb hr (fun t ht _ => ⟨⟨(q1), rfl, trivial, by rw [ht]; exact hP, hD⟩, hS.F ht⟩) hS.2.2 dX7_init_43
