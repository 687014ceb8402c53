theorem kz_708 : (Jvm.Cond.castable "java/lang/IllegalArgumentException" "java/lang/IllegalArgumentException") ∈ zNl := List.mem_filter.mpr ⟨zT_s3 (List.mem_of_getElem? (i := 228) rfl), rfl⟩
theorem kz_773 : (Jvm.Cond.castable "java/lang/UnsupportedOperationException" "java/lang/UnsupportedOperationException") ∈ zNl := List.mem_filter.mpr ⟨zT_s4 (List.mem_of_getElem? (i := 53) rfl), rfl⟩
theorem kz_850 : (Jvm.Cond.castable "java/lang/IndexOutOfBoundsException" "java/lang/IndexOutOfBoundsException") ∈ zNl := List.mem_filter.mpr ⟨zT_s4 (List.mem_of_getElem? (i := 130) rfl), rfl⟩
theorem kz_886 : (Jvm.Cond.castable "java/util/NoSuchElementException" "java/util/NoSuchElementException") ∈ zNl := List.mem_filter.mpr ⟨zT_s4 (List.mem_of_getElem? (i := 166) rfl), rfl⟩
theorem kz_956 : (Jvm.Cond.castable "java/lang/IllegalStateException" "java/lang/IllegalStateException") ∈ zNl := List.mem_filter.mpr ⟨zT_s4 (List.mem_of_getElem? (i := 236) rfl), rfl⟩
set_option maxRecDepth 100000 in
set_option maxHeartbeats 4000000 in
theorem cw_L_coast (l : Launch) (hst : l.stackTraces = false) (g : zG) (cO : ClassId) (qo : Nat) (M : zM) (v : Int64)  {r : zT1} (h : f_X10_coast M  = some r) (he : ∀ (M1 : zM) (k : Nat), r = (M1, .inl k) → k = 1 ∨ k = 4) : zMw l g cO qo yL_coast (zWsH yL_coast cL_coast 3 (some .int) [(0, 8, 11, 13), (0, 8, 14, 15)]) 11 1 [.ref (g.2.2 0), .ref qo] M v (zwr r (fun k => if k = 1 then 1 else 2) (fun x => x.toInt64) v) := by
  intro sz
  refine zofWH (cc := cL_coast) (maxL := 3) (ret := some .int) (hh := [(0, 8, 11, 13), (0, 8, 14, 15)]) (by decide +kernel) rfl ?_
  intro p e s m args below meth c s₁ B hml hv
  obtain ⟨⟨hv, hT⟩, hO, hKo, hap, hNc⟩ := hv
  obtain ⟨rfl, rfl, E, hZ, htab⟩ := z_entryH B hml hv
  have hlocks := B.notSynchronized
  have hx := E.1.1
  have hb := E.1.2.1
  have hl := lv_entry [.ref (g.2.2 0), .ref qo] (n := 3) (Nat.le_of_ble_eq_true rfl)
  rw [lg_entry_eq]
  show W p l e (zrm 11 1 (6 * 1)) s m _ below meth c s.heap [] 0 0 _ _
  generalize (lg_sl [.ref (g.2.2 0), .ref qo] ++ List.replicate (3 - (lg_sl [.ref (g.2.2 0), .ref qo]).length) Slot.unset).toArray = ls at hl ⊢
  have hl : lv_has ls 3 [(0, .ref (g.2.2 0)), (1, .ref qo)] := hl
  have hZ0 := hZ
  refine lv_aload_n hx hb dL_coast_0 rfl (lv_at hl 1 rfl) ?_
  refine lv_iconst (v := 0) hx hb dL_coast_1 (by decide) ?_
  refine lv_aload_n hx hb dL_coast_2 rfl (lv_at hl 0 rfl) ?_
  refine vx_calli (zrunVu (As := []) (rest := [.int 0, .ref qo]) E hT hZ (xb_X10 xs_0) (xe_X10 xs_0 _) rfl rfl v_X10_coast kw_577 (c_X10_coast l hst g M  h _) rfl hl.1 rfl (Nat.le_of_ble_eq_true rfl) ⟨by decide, by decide⟩ ⟨by decide, by decide⟩ dL_coast_3) hZ.2.2 (fun q _ h => zAin hZ q h) (zAin hZ) (fun q _ h => zAin hZ q h) ?_ ?_
  · intro E1 ce q9 w t H1 locs1 ht _ hw hB _ _ hS hce hcv hcl
    obtain ⟨hE, hB⟩ := hB
    have hr : r = (w.1, .inl w.2) := hw
    have hZ1 := zSw_of (cO := cO) (qo := qo) (v := v) hZ0 hO hap (zS_call hZ ht hB hS)
    rcases he _ _ hr with hk | hk
    · have hE1 : E1 = "java/lang/IllegalArgumentException" := by rw [hE, hk]; rfl
      subst hE1
      refine zcatch E.1.2.2.2.1 [] (⟨0, 8, 11, 13⟩ : ExceptionTableEntry) [(⟨0, 8, 14, 15⟩ : ExceptionTableEntry)] htab (fun z hz => by simp at hz) rfl (by decide) (E.w kw_575) (va_Nw.use rfl (E.2.2.1 _ kz_708)) hce hcv hcl ?_
      refine lv_astore_n (lv' := [(2, .ref q9), (0, .ref (g.2.2 0)), (1, .ref qo)]) hx hb dL_coast_11 rfl hl (by decide) rfl (fun ls hl => ?_)
      refine lv_iconst (v := 1) hx hb dL_coast_12 (by decide) ?_
      exact zwret B.returns hlocks E hZ1 (by rw [hr]; simp [zwr, hk]) (by decide) (by decide) dL_coast_13
    · have hE1 : E1 = "java/lang/UnsupportedOperationException" := by rw [hE, hk]; rfl
      subst hE1
      refine zcatch E.1.2.2.2.1 [(⟨0, 8, 11, 13⟩ : ExceptionTableEntry)] (⟨0, 8, 14, 15⟩ : ExceptionTableEntry) [] htab (fun z hz => by rw [List.mem_singleton.mp hz]; exact Or.inr ⟨by decide, "java/lang/IllegalArgumentException", E.w kw_575, hNc _ (List.mem_of_getElem? (i := 0) rfl)⟩) rfl (by decide) (E.w kw_576) (va_Nw.use rfl (E.2.2.1 _ kz_773)) hce hcv hcl ?_
      refine lv_astore_n (lv' := [(2, .ref q9), (0, .ref (g.2.2 0)), (1, .ref qo)]) hx hb dL_coast_14 rfl hl (by decide) rfl (fun ls hl => ?_)
      refine lv_iconst (v := 2) hx hb dL_coast_15 (by decide) ?_
      exact zwret B.returns hlocks E hZ1 (by rw [hr]; simp [zwr, hk]) (by decide) (by decide) dL_coast_16
  · intro x M1 t H1 locs1 ht _ hp hB _ _ hS
    have hr : r = (M1, .inr x) := hp
    have hZ1 := zSw_of (cO := cO) (qo := qo) (v := v) hZ0 hO hap (zS_call hZ ht hB hS)
    refine lv_i2l hx hb dL_coast_6 rfl ?_
    refine zlast E hKo hZ1 dL_coast_7 (fun H locs hZ2 => ?_)
    refine lv_goto (tgt := 17) hx hb dL_coast_8 (by decide) ?_
    refine lv_iconst (v := 0) hx hb dL_coast_17 (by decide) ?_
    exact zwret B.returns hlocks E hZ2 (by rw [hr]; rfl) (by decide) (by decide) dL_coast_18
set_option maxRecDepth 100000 in
set_option maxHeartbeats 4000000 in
theorem cw_L_law (l : Launch) (hst : l.stackTraces = false) (g : zG) (cO : ClassId) (qo : Nat) (M : zM) (v : Int64)  {r : zT1} (h : f_X10_law M  = some r) (he : ∀ (M1 : zM) (k : Nat), r = (M1, .inl k) → k = 1) : zMw l g cO qo yL_law (zWsH yL_law cL_law 3 (some .int) [(0, 8, 11, 13)]) 221 1 [.ref (g.2.2 0), .ref qo] M v (zwr r (fun _ => 1) (fun x => x.toInt64) v) := by
  intro sz
  refine zofWH (cc := cL_law) (maxL := 3) (ret := some .int) (hh := [(0, 8, 11, 13)]) (by decide +kernel) rfl ?_
  intro p e s m args below meth c s₁ B hml hv
  obtain ⟨⟨hv, hT⟩, hO, hKo, hap, hNc⟩ := hv
  obtain ⟨rfl, rfl, E, hZ, htab⟩ := z_entryH B hml hv
  have hlocks := B.notSynchronized
  have hx := E.1.1
  have hb := E.1.2.1
  have hl := lv_entry [.ref (g.2.2 0), .ref qo] (n := 3) (Nat.le_of_ble_eq_true rfl)
  rw [lg_entry_eq]
  show W p l e (zrm 221 1 (6 * 1)) s m _ below meth c s.heap [] 0 0 _ _
  generalize (lg_sl [.ref (g.2.2 0), .ref qo] ++ List.replicate (3 - (lg_sl [.ref (g.2.2 0), .ref qo]).length) Slot.unset).toArray = ls at hl ⊢
  have hl : lv_has ls 3 [(0, .ref (g.2.2 0)), (1, .ref qo)] := hl
  have hZ0 := hZ
  refine lv_aload_n hx hb dL_law_0 rfl (lv_at hl 1 rfl) ?_
  refine lv_iconst (v := 0) hx hb dL_law_1 (by decide) ?_
  refine lv_aload_n hx hb dL_law_2 rfl (lv_at hl 0 rfl) ?_
  refine vx_calli (zrunVu (As := []) (rest := [.int 0, .ref qo]) E hT hZ (xb_X10 xs_0) (xe_X10 xs_0 _) rfl rfl v_X10_law kw_789 (c_X10_law l hst g M  h _) rfl hl.1 rfl (Nat.le_of_ble_eq_true rfl) ⟨by decide, by decide⟩ ⟨by decide, by decide⟩ dL_law_3) hZ.2.2 (fun q _ h => zAin hZ q h) (zAin hZ) (fun q _ h => zAin hZ q h) ?_ ?_
  · intro E1 ce q9 w t H1 locs1 ht _ hw hB _ _ hS hce hcv hcl
    obtain ⟨hE, hB⟩ := hB
    have hr : r = (w.1, .inl w.2) := hw
    have hZ1 := zSw_of (cO := cO) (qo := qo) (v := v) hZ0 hO hap (zS_call hZ ht hB hS)
    have hk := he _ _ hr
    have hE1 : E1 = "java/lang/IllegalArgumentException" := by rw [hE, hk]; rfl
    subst hE1
    refine zcatch E.1.2.2.2.1 [] (⟨0, 8, 11, 13⟩ : ExceptionTableEntry) [] htab (fun z hz => by simp at hz) rfl (by decide) (E.w kw_575) (va_Nw.use rfl (E.2.2.1 _ kz_708)) hce hcv hcl ?_
    refine lv_astore_n (lv' := [(2, .ref q9), (0, .ref (g.2.2 0)), (1, .ref qo)]) hx hb dL_law_11 rfl hl (by decide) rfl (fun ls hl => ?_)
    refine lv_iconst (v := 1) hx hb dL_law_12 (by decide) ?_
    exact zwret B.returns hlocks E hZ1 (by rw [hr]; simp [zwr, hk]) (by decide) (by decide) dL_law_13
  · intro x M1 t H1 locs1 ht _ hp hB _ _ hS
    have hr : r = (M1, .inr x) := hp
    have hZ1 := zSw_of (cO := cO) (qo := qo) (v := v) hZ0 hO hap (zS_call hZ ht hB hS)
    refine lv_i2l hx hb dL_law_6 rfl ?_
    refine zlast E hKo hZ1 dL_law_7 (fun H locs hZ2 => ?_)
    refine lv_goto (tgt := 14) hx hb dL_law_8 (by decide) ?_
    refine lv_iconst (v := 0) hx hb dL_law_14 (by decide) ?_
    exact zwret B.returns hlocks E hZ2 (by rw [hr]; rfl) (by decide) (by decide) dL_law_15
set_option maxRecDepth 100000 in
set_option maxHeartbeats 4000000 in
theorem cw_L_ground (l : Launch) (hst : l.stackTraces = false) (g : zG) (cO : ClassId) (qo : Nat) (M : zM) (v : Int64) (x1 : Int32) {r : zT1} (h : f_X10_ground M x1 = some r) (he : ∀ (M1 : zM) (k : Nat), r = (M1, .inl k) → k = 0) : zMw l g cO qo yL_ground (zWsH yL_ground cL_ground 4 (some .int) [(0, 9, 12, 24)]) 11 1 [.ref (g.2.2 0), .int x1, .ref qo] M v (zwr r (fun _ => 1) (fun x => x.toInt64) v) := by
  intro sz
  refine zofWH (cc := cL_ground) (maxL := 4) (ret := some .int) (hh := [(0, 9, 12, 24)]) (by decide +kernel) rfl ?_
  intro p e s m args below meth c s₁ B hml hv
  obtain ⟨⟨hv, hT⟩, hO, hKo, hap, hNc⟩ := hv
  obtain ⟨rfl, rfl, E, hZ, htab⟩ := z_entryH B hml hv
  have hlocks := B.notSynchronized
  have hx := E.1.1
  have hb := E.1.2.1
  have hl := lv_entry [.ref (g.2.2 0), .int x1, .ref qo] (n := 4) (Nat.le_of_ble_eq_true rfl)
  rw [lg_entry_eq]
  show W p l e (zrm 11 1 (6 * 1)) s m _ below meth c s.heap [] 0 0 _ _
  generalize (lg_sl [.ref (g.2.2 0), .int x1, .ref qo] ++ List.replicate (4 - (lg_sl [.ref (g.2.2 0), .int x1, .ref qo]).length) Slot.unset).toArray = ls at hl ⊢
  have hl : lv_has ls 4 [(0, .ref (g.2.2 0)), (1, .int x1), (2, .ref qo)] := hl
  have hZ0 := hZ
  refine lv_aload_n hx hb dL_ground_0 rfl (lv_at hl 2 rfl) ?_
  refine lv_iconst (v := 0) hx hb dL_ground_1 (by decide) ?_
  refine lv_aload_n hx hb dL_ground_2 rfl (lv_at hl 0 rfl) ?_
  refine lv_iload_n hx hb dL_ground_3 rfl (lv_at hl 1 rfl) ?_
  refine vx_calli (zrunVu (As := [.int x1]) (rest := [.int 0, .ref qo]) E hT hZ (xb_X10 xs_0) (xe_X10 xs_0 _) rfl rfl v_X10_ground kw_840 (c_X10_ground l hst g M x1 h _) rfl hl.1 rfl (Nat.le_of_ble_eq_true rfl) ⟨by decide, by decide⟩ ⟨by decide, by decide⟩ dL_ground_4) hZ.2.2 (fun q _ h => zAin hZ q h) (zAin hZ) (fun q _ h => zAin hZ q h) ?_ ?_
  · intro E1 ce q9 w t H1 locs1 ht _ hw hB _ _ hS hce hcv hcl
    obtain ⟨hE, hB⟩ := hB
    have hr : r = (w.1, .inl w.2) := hw
    have hZ1 := zSw_of (cO := cO) (qo := qo) (v := v) hZ0 hO hap (zS_call hZ ht hB hS)
    have hk := he _ _ hr
    have hE1 : E1 = "java/lang/IndexOutOfBoundsException" := by rw [hE, hk]; rfl
    subst hE1
    refine zcatch E.1.2.2.2.1 [] (⟨0, 9, 12, 24⟩ : ExceptionTableEntry) [] htab (fun z hz => by simp at hz) rfl (by decide) (E.w kw_839) (va_Nw.use rfl (E.2.2.1 _ kz_850)) hce hcv hcl ?_
    refine lv_astore_n (lv' := [(3, .ref q9), (0, .ref (g.2.2 0)), (1, .int x1), (2, .ref qo)]) hx hb dL_ground_12 rfl hl (by decide) rfl (fun ls hl => ?_)
    refine lv_iconst (v := 1) hx hb dL_ground_13 (by decide) ?_
    exact zwret B.returns hlocks E hZ1 (by rw [hr]; simp [zwr, hk]) (by decide) (by decide) dL_ground_14
  · intro x M1 t H1 locs1 ht _ hp hB _ _ hS
    have hr : r = (M1, .inr x) := hp
    have hZ1 := zSw_of (cO := cO) (qo := qo) (v := v) hZ0 hO hap (zS_call hZ ht hB hS)
    refine lv_i2l hx hb dL_ground_7 rfl ?_
    refine zlast E hKo hZ1 dL_ground_8 (fun H locs hZ2 => ?_)
    refine lv_goto (tgt := 15) hx hb dL_ground_9 (by decide) ?_
    refine lv_iconst (v := 0) hx hb dL_ground_15 (by decide) ?_
    exact zwret B.returns hlocks E hZ2 (by rw [hr]; rfl) (by decide) (by decide) dL_ground_16
set_option maxRecDepth 100000 in
set_option maxHeartbeats 4000000 in
theorem cw_L_monk (l : Launch) (hst : l.stackTraces = false) (g : zG) (cO : ClassId) (qo : Nat) (M : zM) (v : Int64) (x1 : Int32) (x2 : Int32) {r : zT1} (h : f_X10_monk M x1 x2 = some r) (he : ∀ (M1 : zM) (k : Nat), r = (M1, .inl k) → k = 0 ∨ k = 3) : zMw l g cO qo yL_monk (zWsH yL_monk cL_monk 5 (some .int) [(0, 10, 13, 24), (0, 10, 17, 30)]) 11 2 [.ref (g.2.2 0), .int x1, .int x2, .ref qo] M v (zwr r (fun k => if k = 0 then 1 else 2) (fun x => x.toInt64) v) := by
  intro sz
  refine zofWH (cc := cL_monk) (maxL := 5) (ret := some .int) (hh := [(0, 10, 13, 24), (0, 10, 17, 30)]) (by decide +kernel) rfl ?_
  intro p e s m args below meth c s₁ B hml hv
  obtain ⟨⟨hv, hT⟩, hO, hKo, hap, hNc⟩ := hv
  obtain ⟨rfl, rfl, E, hZ, htab⟩ := z_entryH B hml hv
  have hlocks := B.notSynchronized
  have hx := E.1.1
  have hb := E.1.2.1
  have hl := lv_entry [.ref (g.2.2 0), .int x1, .int x2, .ref qo] (n := 5) (Nat.le_of_ble_eq_true rfl)
  rw [lg_entry_eq]
  show W p l e (zrm 11 2 (6 * 2)) s m _ below meth c s.heap [] 0 0 _ _
  generalize (lg_sl [.ref (g.2.2 0), .int x1, .int x2, .ref qo] ++ List.replicate (5 - (lg_sl [.ref (g.2.2 0), .int x1, .int x2, .ref qo]).length) Slot.unset).toArray = ls at hl ⊢
  have hl : lv_has ls 5 [(0, .ref (g.2.2 0)), (1, .int x1), (2, .int x2), (3, .ref qo)] := hl
  have hZ0 := hZ
  refine lv_aload_n hx hb dL_monk_0 rfl (lv_at hl 3 rfl) ?_
  refine lv_iconst (v := 0) hx hb dL_monk_1 (by decide) ?_
  refine lv_aload_n hx hb dL_monk_2 rfl (lv_at hl 0 rfl) ?_
  refine lv_iload_n hx hb dL_monk_3 rfl (lv_at hl 1 rfl) ?_
  refine lv_iload_n hx hb dL_monk_4 rfl (lv_at hl 2 rfl) ?_
  refine vx_calli (zrunVu (As := [.int x1, .int x2]) (rest := [.int 0, .ref qo]) E hT hZ (xb_X10 xs_0) (xe_X10 xs_0 _) rfl rfl v_X10_monk kw_868 (c_X10_monk l hst g M x1 x2 h _) rfl hl.1 rfl (Nat.le_of_ble_eq_true rfl) ⟨by decide, by decide⟩ ⟨by decide, by decide⟩ dL_monk_5) hZ.2.2 (fun q _ h => zAin hZ q h) (zAin hZ) (fun q _ h => zAin hZ q h) ?_ ?_
  · intro E1 ce q9 w t H1 locs1 ht _ hw hB _ _ hS hce hcv hcl
    obtain ⟨hE, hB⟩ := hB
    have hr : r = (w.1, .inl w.2) := hw
    have hZ1 := zSw_of (cO := cO) (qo := qo) (v := v) hZ0 hO hap (zS_call hZ ht hB hS)
    rcases he _ _ hr with hk | hk
    · have hE1 : E1 = "java/lang/IndexOutOfBoundsException" := by rw [hE, hk]; rfl
      subst hE1
      refine zcatch E.1.2.2.2.1 [] (⟨0, 10, 13, 24⟩ : ExceptionTableEntry) [(⟨0, 10, 17, 30⟩ : ExceptionTableEntry)] htab (fun z hz => by simp at hz) rfl (by decide) (E.w kw_839) (va_Nw.use rfl (E.2.2.1 _ kz_850)) hce hcv hcl ?_
      refine lv_astore (lv' := [(4, .ref q9), (0, .ref (g.2.2 0)), (1, .int x1), (2, .int x2), (3, .ref qo)]) hx hb dL_monk_13 hl (by decide) rfl (fun ls hl => ?_)
      refine lv_iconst (v := 1) hx hb dL_monk_15 (by decide) ?_
      exact zwret B.returns hlocks E hZ1 (by rw [hr]; simp [zwr, hk]) (by decide) (by decide) dL_monk_16
    · have hE1 : E1 = "java/util/NoSuchElementException" := by rw [hE, hk]; rfl
      subst hE1
      refine zcatch E.1.2.2.2.1 [(⟨0, 10, 13, 24⟩ : ExceptionTableEntry)] (⟨0, 10, 17, 30⟩ : ExceptionTableEntry) [] htab (fun z hz => by rw [List.mem_singleton.mp hz]; exact Or.inr ⟨by decide, "java/lang/IndexOutOfBoundsException", E.w kw_839, hNc _ (List.mem_of_getElem? (i := 1) rfl)⟩) rfl (by decide) (E.w kw_867) (va_Nw.use rfl (E.2.2.1 _ kz_886)) hce hcv hcl ?_
      refine lv_astore (lv' := [(4, .ref q9), (0, .ref (g.2.2 0)), (1, .int x1), (2, .int x2), (3, .ref qo)]) hx hb dL_monk_17 hl (by decide) rfl (fun ls hl => ?_)
      refine lv_iconst (v := 2) hx hb dL_monk_19 (by decide) ?_
      exact zwret B.returns hlocks E hZ1 (by rw [hr]; simp [zwr, hk]) (by decide) (by decide) dL_monk_20
  · intro x M1 t H1 locs1 ht _ hp hB _ _ hS
    have hr : r = (M1, .inr x) := hp
    have hZ1 := zSw_of (cO := cO) (qo := qo) (v := v) hZ0 hO hap (zS_call hZ ht hB hS)
    refine lv_i2l hx hb dL_monk_8 rfl ?_
    refine zlast E hKo hZ1 dL_monk_9 (fun H locs hZ2 => ?_)
    refine lv_goto (tgt := 21) hx hb dL_monk_10 (by decide) ?_
    refine lv_iconst (v := 0) hx hb dL_monk_21 (by decide) ?_
    exact zwret B.returns hlocks E hZ2 (by rw [hr]; rfl) (by decide) (by decide) dL_monk_22
set_option maxRecDepth 100000 in
set_option maxHeartbeats 4000000 in
theorem cw_L_duty (l : Launch) (hst : l.stackTraces = false) (g : zG) (cO : ClassId) (qo : Nat) (M : zM) (v : Int64) (x1 : Int32) (x2 : Int32) {r : zT1} (h : f_X10_duty M x1 x2 = some r) (he : ∀ (M1 : zM) (k : Nat), r = (M1, .inl k) → k = 0 ∨ k = 3) : zMw l g cO qo yL_duty (zWsH yL_duty cL_duty 5 (some .int) [(0, 10, 13, 24), (0, 10, 17, 30)]) 11 2 [.ref (g.2.2 0), .int x1, .int x2, .ref qo] M v (zwr r (fun k => if k = 0 then 1 else 2) (fun x => x.toInt64) v) := by
  intro sz
  refine zofWH (cc := cL_duty) (maxL := 5) (ret := some .int) (hh := [(0, 10, 13, 24), (0, 10, 17, 30)]) (by decide +kernel) rfl ?_
  intro p e s m args below meth c s₁ B hml hv
  obtain ⟨⟨hv, hT⟩, hO, hKo, hap, hNc⟩ := hv
  obtain ⟨rfl, rfl, E, hZ, htab⟩ := z_entryH B hml hv
  have hlocks := B.notSynchronized
  have hx := E.1.1
  have hb := E.1.2.1
  have hl := lv_entry [.ref (g.2.2 0), .int x1, .int x2, .ref qo] (n := 5) (Nat.le_of_ble_eq_true rfl)
  rw [lg_entry_eq]
  show W p l e (zrm 11 2 (6 * 2)) s m _ below meth c s.heap [] 0 0 _ _
  generalize (lg_sl [.ref (g.2.2 0), .int x1, .int x2, .ref qo] ++ List.replicate (5 - (lg_sl [.ref (g.2.2 0), .int x1, .int x2, .ref qo]).length) Slot.unset).toArray = ls at hl ⊢
  have hl : lv_has ls 5 [(0, .ref (g.2.2 0)), (1, .int x1), (2, .int x2), (3, .ref qo)] := hl
  have hZ0 := hZ
  refine lv_aload_n hx hb dL_duty_0 rfl (lv_at hl 3 rfl) ?_
  refine lv_iconst (v := 0) hx hb dL_duty_1 (by decide) ?_
  refine lv_aload_n hx hb dL_duty_2 rfl (lv_at hl 0 rfl) ?_
  refine lv_iload_n hx hb dL_duty_3 rfl (lv_at hl 1 rfl) ?_
  refine lv_iload_n hx hb dL_duty_4 rfl (lv_at hl 2 rfl) ?_
  refine vx_calli (zrunVu (As := [.int x1, .int x2]) (rest := [.int 0, .ref qo]) E hT hZ (xb_X10 xs_0) (xe_X10 xs_0 _) rfl rfl v_X10_duty kw_902 (c_X10_duty l hst g M x1 x2 h _) rfl hl.1 rfl (Nat.le_of_ble_eq_true rfl) ⟨by decide, by decide⟩ ⟨by decide, by decide⟩ dL_duty_5) hZ.2.2 (fun q _ h => zAin hZ q h) (zAin hZ) (fun q _ h => zAin hZ q h) ?_ ?_
  · intro E1 ce q9 w t H1 locs1 ht _ hw hB _ _ hS hce hcv hcl
    obtain ⟨hE, hB⟩ := hB
    have hr : r = (w.1, .inl w.2) := hw
    have hZ1 := zSw_of (cO := cO) (qo := qo) (v := v) hZ0 hO hap (zS_call hZ ht hB hS)
    rcases he _ _ hr with hk | hk
    · have hE1 : E1 = "java/lang/IndexOutOfBoundsException" := by rw [hE, hk]; rfl
      subst hE1
      refine zcatch E.1.2.2.2.1 [] (⟨0, 10, 13, 24⟩ : ExceptionTableEntry) [(⟨0, 10, 17, 30⟩ : ExceptionTableEntry)] htab (fun z hz => by simp at hz) rfl (by decide) (E.w kw_839) (va_Nw.use rfl (E.2.2.1 _ kz_850)) hce hcv hcl ?_
      refine lv_astore (lv' := [(4, .ref q9), (0, .ref (g.2.2 0)), (1, .int x1), (2, .int x2), (3, .ref qo)]) hx hb dL_duty_13 hl (by decide) rfl (fun ls hl => ?_)
      refine lv_iconst (v := 1) hx hb dL_duty_15 (by decide) ?_
      exact zwret B.returns hlocks E hZ1 (by rw [hr]; simp [zwr, hk]) (by decide) (by decide) dL_duty_16
    · have hE1 : E1 = "java/util/NoSuchElementException" := by rw [hE, hk]; rfl
      subst hE1
      refine zcatch E.1.2.2.2.1 [(⟨0, 10, 13, 24⟩ : ExceptionTableEntry)] (⟨0, 10, 17, 30⟩ : ExceptionTableEntry) [] htab (fun z hz => by rw [List.mem_singleton.mp hz]; exact Or.inr ⟨by decide, "java/lang/IndexOutOfBoundsException", E.w kw_839, hNc _ (List.mem_of_getElem? (i := 1) rfl)⟩) rfl (by decide) (E.w kw_867) (va_Nw.use rfl (E.2.2.1 _ kz_886)) hce hcv hcl ?_
      refine lv_astore (lv' := [(4, .ref q9), (0, .ref (g.2.2 0)), (1, .int x1), (2, .int x2), (3, .ref qo)]) hx hb dL_duty_17 hl (by decide) rfl (fun ls hl => ?_)
      refine lv_iconst (v := 2) hx hb dL_duty_19 (by decide) ?_
      exact zwret B.returns hlocks E hZ1 (by rw [hr]; simp [zwr, hk]) (by decide) (by decide) dL_duty_20
  · intro x M1 t H1 locs1 ht _ hp hB _ _ hS
    have hr : r = (M1, .inr x) := hp
    have hZ1 := zSw_of (cO := cO) (qo := qo) (v := v) hZ0 hO hap (zS_call hZ ht hB hS)
    refine lv_i2l hx hb dL_duty_8 rfl ?_
    refine zlast E hKo hZ1 dL_duty_9 (fun H locs hZ2 => ?_)
    refine lv_goto (tgt := 21) hx hb dL_duty_10 (by decide) ?_
    refine lv_iconst (v := 0) hx hb dL_duty_21 (by decide) ?_
    exact zwret B.returns hlocks E hZ2 (by rw [hr]; rfl) (by decide) (by decide) dL_duty_22
set_option maxRecDepth 100000 in
set_option maxHeartbeats 4000000 in
theorem cw_L_range (l : Launch) (hst : l.stackTraces = false) (g : zG) (cO : ClassId) (qo : Nat) (M : zM) (v : Int64) (x1 : Int32) {r : zT1} (h : f_X10_range M x1 = some r) (he : ∀ (M1 : zM) (k : Nat), r = (M1, .inl k) → k = 1) : zMw l g cO qo yL_range (zWsH yL_range cL_range 4 (some .int) [(0, 9, 12, 13)]) 11 1 [.ref (g.2.2 0), .int x1, .ref qo] M v (zwr r (fun _ => 1) (fun x => x.toInt64) v) := by
  intro sz
  refine zofWH (cc := cL_range) (maxL := 4) (ret := some .int) (hh := [(0, 9, 12, 13)]) (by decide +kernel) rfl ?_
  intro p e s m args below meth c s₁ B hml hv
  obtain ⟨⟨hv, hT⟩, hO, hKo, hap, hNc⟩ := hv
  obtain ⟨rfl, rfl, E, hZ, htab⟩ := z_entryH B hml hv
  have hlocks := B.notSynchronized
  have hx := E.1.1
  have hb := E.1.2.1
  have hl := lv_entry [.ref (g.2.2 0), .int x1, .ref qo] (n := 4) (Nat.le_of_ble_eq_true rfl)
  rw [lg_entry_eq]
  show W p l e (zrm 11 1 (6 * 1)) s m _ below meth c s.heap [] 0 0 _ _
  generalize (lg_sl [.ref (g.2.2 0), .int x1, .ref qo] ++ List.replicate (4 - (lg_sl [.ref (g.2.2 0), .int x1, .ref qo]).length) Slot.unset).toArray = ls at hl ⊢
  have hl : lv_has ls 4 [(0, .ref (g.2.2 0)), (1, .int x1), (2, .ref qo)] := hl
  have hZ0 := hZ
  refine lv_aload_n hx hb dL_range_0 rfl (lv_at hl 2 rfl) ?_
  refine lv_iconst (v := 0) hx hb dL_range_1 (by decide) ?_
  refine lv_aload_n hx hb dL_range_2 rfl (lv_at hl 0 rfl) ?_
  refine lv_iload_n hx hb dL_range_3 rfl (lv_at hl 1 rfl) ?_
  refine vx_calli (zrunVu (As := [.int x1]) (rest := [.int 0, .ref qo]) E hT hZ (xb_X10 xs_0) (xe_X10 xs_0 _) rfl rfl v_X10_range kw_913 (c_X10_range l hst g M x1 h _) rfl hl.1 rfl (Nat.le_of_ble_eq_true rfl) ⟨by decide, by decide⟩ ⟨by decide, by decide⟩ dL_range_4) hZ.2.2 (fun q _ h => zAin hZ q h) (zAin hZ) (fun q _ h => zAin hZ q h) ?_ ?_
  · intro E1 ce q9 w t H1 locs1 ht _ hw hB _ _ hS hce hcv hcl
    obtain ⟨hE, hB⟩ := hB
    have hr : r = (w.1, .inl w.2) := hw
    have hZ1 := zSw_of (cO := cO) (qo := qo) (v := v) hZ0 hO hap (zS_call hZ ht hB hS)
    have hk := he _ _ hr
    have hE1 : E1 = "java/lang/IllegalArgumentException" := by rw [hE, hk]; rfl
    subst hE1
    refine zcatch E.1.2.2.2.1 [] (⟨0, 9, 12, 13⟩ : ExceptionTableEntry) [] htab (fun z hz => by simp at hz) rfl (by decide) (E.w kw_575) (va_Nw.use rfl (E.2.2.1 _ kz_708)) hce hcv hcl ?_
    refine lv_astore_n (lv' := [(3, .ref q9), (0, .ref (g.2.2 0)), (1, .int x1), (2, .ref qo)]) hx hb dL_range_12 rfl hl (by decide) rfl (fun ls hl => ?_)
    refine lv_iconst (v := 1) hx hb dL_range_13 (by decide) ?_
    exact zwret B.returns hlocks E hZ1 (by rw [hr]; simp [zwr, hk]) (by decide) (by decide) dL_range_14
  · intro x M1 t H1 locs1 ht _ hp hB _ _ hS
    have hr : r = (M1, .inr x) := hp
    have hZ1 := zSw_of (cO := cO) (qo := qo) (v := v) hZ0 hO hap (zS_call hZ ht hB hS)
    refine lv_i2l hx hb dL_range_7 rfl ?_
    refine zlast E hKo hZ1 dL_range_8 (fun H locs hZ2 => ?_)
    refine lv_goto (tgt := 15) hx hb dL_range_9 (by decide) ?_
    refine lv_iconst (v := 0) hx hb dL_range_15 (by decide) ?_
    exact zwret B.returns hlocks E hZ2 (by rw [hr]; rfl) (by decide) (by decide) dL_range_16
set_option maxRecDepth 100000 in
set_option maxHeartbeats 4000000 in
theorem cw_L_water (l : Launch) (hst : l.stackTraces = false) (g : zG) (cO : ClassId) (qo : Nat) (M : zM) (v : Int64) (x1 : Int32) {r : zT1} (h : f_X10_water M x1 = some r) (he : ∀ (M1 : zM) (k : Nat), r = (M1, .inl k) → k = 1) : zMw l g cO qo yL_water (zWsH yL_water cL_water 4 (some .int) [(0, 9, 12, 13)]) 11 1 [.ref (g.2.2 0), .int x1, .ref qo] M v (zwr r (fun _ => 1) (fun x => x.toInt64) v) := by
  intro sz
  refine zofWH (cc := cL_water) (maxL := 4) (ret := some .int) (hh := [(0, 9, 12, 13)]) (by decide +kernel) rfl ?_
  intro p e s m args below meth c s₁ B hml hv
  obtain ⟨⟨hv, hT⟩, hO, hKo, hap, hNc⟩ := hv
  obtain ⟨rfl, rfl, E, hZ, htab⟩ := z_entryH B hml hv
  have hlocks := B.notSynchronized
  have hx := E.1.1
  have hb := E.1.2.1
  have hl := lv_entry [.ref (g.2.2 0), .int x1, .ref qo] (n := 4) (Nat.le_of_ble_eq_true rfl)
  rw [lg_entry_eq]
  show W p l e (zrm 11 1 (6 * 1)) s m _ below meth c s.heap [] 0 0 _ _
  generalize (lg_sl [.ref (g.2.2 0), .int x1, .ref qo] ++ List.replicate (4 - (lg_sl [.ref (g.2.2 0), .int x1, .ref qo]).length) Slot.unset).toArray = ls at hl ⊢
  have hl : lv_has ls 4 [(0, .ref (g.2.2 0)), (1, .int x1), (2, .ref qo)] := hl
  have hZ0 := hZ
  refine lv_aload_n hx hb dL_water_0 rfl (lv_at hl 2 rfl) ?_
  refine lv_iconst (v := 0) hx hb dL_water_1 (by decide) ?_
  refine lv_aload_n hx hb dL_water_2 rfl (lv_at hl 0 rfl) ?_
  refine lv_iload_n hx hb dL_water_3 rfl (lv_at hl 1 rfl) ?_
  refine vx_calli (zrunVu (As := [.int x1]) (rest := [.int 0, .ref qo]) E hT hZ (xb_X10 xs_0) (xe_X10 xs_0 _) rfl rfl v_X10_water kw_924 (c_X10_water l hst g M x1 h _) rfl hl.1 rfl (Nat.le_of_ble_eq_true rfl) ⟨by decide, by decide⟩ ⟨by decide, by decide⟩ dL_water_4) hZ.2.2 (fun q _ h => zAin hZ q h) (zAin hZ) (fun q _ h => zAin hZ q h) ?_ ?_
  · intro E1 ce q9 w t H1 locs1 ht _ hw hB _ _ hS hce hcv hcl
    obtain ⟨hE, hB⟩ := hB
    have hr : r = (w.1, .inl w.2) := hw
    have hZ1 := zSw_of (cO := cO) (qo := qo) (v := v) hZ0 hO hap (zS_call hZ ht hB hS)
    have hk := he _ _ hr
    have hE1 : E1 = "java/lang/IllegalArgumentException" := by rw [hE, hk]; rfl
    subst hE1
    refine zcatch E.1.2.2.2.1 [] (⟨0, 9, 12, 13⟩ : ExceptionTableEntry) [] htab (fun z hz => by simp at hz) rfl (by decide) (E.w kw_575) (va_Nw.use rfl (E.2.2.1 _ kz_708)) hce hcv hcl ?_
    refine lv_astore_n (lv' := [(3, .ref q9), (0, .ref (g.2.2 0)), (1, .int x1), (2, .ref qo)]) hx hb dL_water_12 rfl hl (by decide) rfl (fun ls hl => ?_)
    refine lv_iconst (v := 1) hx hb dL_water_13 (by decide) ?_
    exact zwret B.returns hlocks E hZ1 (by rw [hr]; simp [zwr, hk]) (by decide) (by decide) dL_water_14
  · intro x M1 t H1 locs1 ht _ hp hB _ _ hS
    have hr : r = (M1, .inr x) := hp
    have hZ1 := zSw_of (cO := cO) (qo := qo) (v := v) hZ0 hO hap (zS_call hZ ht hB hS)
    refine lv_i2l hx hb dL_water_7 rfl ?_
    refine zlast E hKo hZ1 dL_water_8 (fun H locs hZ2 => ?_)
    refine lv_goto (tgt := 15) hx hb dL_water_9 (by decide) ?_
    refine lv_iconst (v := 0) hx hb dL_water_15 (by decide) ?_
    exact zwret B.returns hlocks E hZ2 (by rw [hr]; rfl) (by decide) (by decide) dL_water_16
set_option maxRecDepth 100000 in
set_option maxHeartbeats 4000000 in
theorem cw_L_depth (l : Launch) (hst : l.stackTraces = false) (g : zG) (cO : ClassId) (qo : Nat) (M : zM) (v : Int64) (x1 : Int32) (x2 : Int32) {r : zT1} (h : f_X10_depth M x1 x2 = some r) (he : ∀ (M1 : zM) (k : Nat), r = (M1, .inl k) → k = 0 ∨ k = 1) : zMw l g cO qo yL_depth (zWsH yL_depth cL_depth 5 (some .int) [(0, 10, 13, 24), (0, 10, 17, 13)]) 11 2 [.ref (g.2.2 0), .int x1, .int x2, .ref qo] M v (zwr r (fun k => if k = 0 then 1 else 2) (fun x => x.toInt64) v) := by
  intro sz
  refine zofWH (cc := cL_depth) (maxL := 5) (ret := some .int) (hh := [(0, 10, 13, 24), (0, 10, 17, 13)]) (by decide +kernel) rfl ?_
  intro p e s m args below meth c s₁ B hml hv
  obtain ⟨⟨hv, hT⟩, hO, hKo, hap, hNc⟩ := hv
  obtain ⟨rfl, rfl, E, hZ, htab⟩ := z_entryH B hml hv
  have hlocks := B.notSynchronized
  have hx := E.1.1
  have hb := E.1.2.1
  have hl := lv_entry [.ref (g.2.2 0), .int x1, .int x2, .ref qo] (n := 5) (Nat.le_of_ble_eq_true rfl)
  rw [lg_entry_eq]
  show W p l e (zrm 11 2 (6 * 2)) s m _ below meth c s.heap [] 0 0 _ _
  generalize (lg_sl [.ref (g.2.2 0), .int x1, .int x2, .ref qo] ++ List.replicate (5 - (lg_sl [.ref (g.2.2 0), .int x1, .int x2, .ref qo]).length) Slot.unset).toArray = ls at hl ⊢
  have hl : lv_has ls 5 [(0, .ref (g.2.2 0)), (1, .int x1), (2, .int x2), (3, .ref qo)] := hl
  have hZ0 := hZ
  refine lv_aload_n hx hb dL_depth_0 rfl (lv_at hl 3 rfl) ?_
  refine lv_iconst (v := 0) hx hb dL_depth_1 (by decide) ?_
  refine lv_aload_n hx hb dL_depth_2 rfl (lv_at hl 0 rfl) ?_
  refine lv_iload_n hx hb dL_depth_3 rfl (lv_at hl 1 rfl) ?_
  refine lv_iload_n hx hb dL_depth_4 rfl (lv_at hl 2 rfl) ?_
  refine vx_calli (zrunVu (As := [.int x1, .int x2]) (rest := [.int 0, .ref qo]) E hT hZ (xb_X10 xs_0) (xe_X10 xs_0 _) rfl rfl v_X10_depth kw_931 (c_X10_depth l hst g M x1 x2 h _) rfl hl.1 rfl (Nat.le_of_ble_eq_true rfl) ⟨by decide, by decide⟩ ⟨by decide, by decide⟩ dL_depth_5) hZ.2.2 (fun q _ h => zAin hZ q h) (zAin hZ) (fun q _ h => zAin hZ q h) ?_ ?_
  · intro E1 ce q9 w t H1 locs1 ht _ hw hB _ _ hS hce hcv hcl
    obtain ⟨hE, hB⟩ := hB
    have hr : r = (w.1, .inl w.2) := hw
    have hZ1 := zSw_of (cO := cO) (qo := qo) (v := v) hZ0 hO hap (zS_call hZ ht hB hS)
    rcases he _ _ hr with hk | hk
    · have hE1 : E1 = "java/lang/IndexOutOfBoundsException" := by rw [hE, hk]; rfl
      subst hE1
      refine zcatch E.1.2.2.2.1 [] (⟨0, 10, 13, 24⟩ : ExceptionTableEntry) [(⟨0, 10, 17, 13⟩ : ExceptionTableEntry)] htab (fun z hz => by simp at hz) rfl (by decide) (E.w kw_839) (va_Nw.use rfl (E.2.2.1 _ kz_850)) hce hcv hcl ?_
      refine lv_astore (lv' := [(4, .ref q9), (0, .ref (g.2.2 0)), (1, .int x1), (2, .int x2), (3, .ref qo)]) hx hb dL_depth_13 hl (by decide) rfl (fun ls hl => ?_)
      refine lv_iconst (v := 1) hx hb dL_depth_15 (by decide) ?_
      exact zwret B.returns hlocks E hZ1 (by rw [hr]; simp [zwr, hk]) (by decide) (by decide) dL_depth_16
    · have hE1 : E1 = "java/lang/IllegalArgumentException" := by rw [hE, hk]; rfl
      subst hE1
      refine zcatch E.1.2.2.2.1 [(⟨0, 10, 13, 24⟩ : ExceptionTableEntry)] (⟨0, 10, 17, 13⟩ : ExceptionTableEntry) [] htab (fun z hz => by rw [List.mem_singleton.mp hz]; exact Or.inr ⟨by decide, "java/lang/IndexOutOfBoundsException", E.w kw_839, hNc _ (List.mem_of_getElem? (i := 2) rfl)⟩) rfl (by decide) (E.w kw_575) (va_Nw.use rfl (E.2.2.1 _ kz_708)) hce hcv hcl ?_
      refine lv_astore (lv' := [(4, .ref q9), (0, .ref (g.2.2 0)), (1, .int x1), (2, .int x2), (3, .ref qo)]) hx hb dL_depth_17 hl (by decide) rfl (fun ls hl => ?_)
      refine lv_iconst (v := 2) hx hb dL_depth_19 (by decide) ?_
      exact zwret B.returns hlocks E hZ1 (by rw [hr]; simp [zwr, hk]) (by decide) (by decide) dL_depth_20
  · intro x M1 t H1 locs1 ht _ hp hB _ _ hS
    have hr : r = (M1, .inr x) := hp
    have hZ1 := zSw_of (cO := cO) (qo := qo) (v := v) hZ0 hO hap (zS_call hZ ht hB hS)
    refine lv_i2l hx hb dL_depth_8 rfl ?_
    refine zlast E hKo hZ1 dL_depth_9 (fun H locs hZ2 => ?_)
    refine lv_goto (tgt := 21) hx hb dL_depth_10 (by decide) ?_
    refine lv_iconst (v := 0) hx hb dL_depth_21 (by decide) ?_
    exact zwret B.returns hlocks E hZ2 (by rw [hr]; rfl) (by decide) (by decide) dL_depth_22
set_option maxRecDepth 100000 in
set_option maxHeartbeats 4000000 in
theorem cw_L_printed (l : Launch) (hst : l.stackTraces = false) (g : zG) (cO : ClassId) (qo : Nat) (M : zM) (v : Int64) (x1 : Int32) {r : zT1} (h : f_X10_printed M x1 = some r) (he : ∀ (M1 : zM) (k : Nat), r = (M1, .inl k) → k = 1) : zMw l g cO qo yL_printed (zWsH yL_printed cL_printed 4 (some .int) [(0, 9, 12, 13)]) 11 1 [.ref (g.2.2 0), .int x1, .ref qo] M v (zwr r (fun _ => 1) (fun x => x.toInt64) v) := by
  intro sz
  refine zofWH (cc := cL_printed) (maxL := 4) (ret := some .int) (hh := [(0, 9, 12, 13)]) (by decide +kernel) rfl ?_
  intro p e s m args below meth c s₁ B hml hv
  obtain ⟨⟨hv, hT⟩, hO, hKo, hap, hNc⟩ := hv
  obtain ⟨rfl, rfl, E, hZ, htab⟩ := z_entryH B hml hv
  have hlocks := B.notSynchronized
  have hx := E.1.1
  have hb := E.1.2.1
  have hl := lv_entry [.ref (g.2.2 0), .int x1, .ref qo] (n := 4) (Nat.le_of_ble_eq_true rfl)
  rw [lg_entry_eq]
  show W p l e (zrm 11 1 (6 * 1)) s m _ below meth c s.heap [] 0 0 _ _
  generalize (lg_sl [.ref (g.2.2 0), .int x1, .ref qo] ++ List.replicate (4 - (lg_sl [.ref (g.2.2 0), .int x1, .ref qo]).length) Slot.unset).toArray = ls at hl ⊢
  have hl : lv_has ls 4 [(0, .ref (g.2.2 0)), (1, .int x1), (2, .ref qo)] := hl
  have hZ0 := hZ
  refine lv_aload_n hx hb dL_printed_0 rfl (lv_at hl 2 rfl) ?_
  refine lv_iconst (v := 0) hx hb dL_printed_1 (by decide) ?_
  refine lv_aload_n hx hb dL_printed_2 rfl (lv_at hl 0 rfl) ?_
  refine lv_iload_n hx hb dL_printed_3 rfl (lv_at hl 1 rfl) ?_
  refine vx_calli (zrunVu (As := [.int x1]) (rest := [.int 0, .ref qo]) E hT hZ (xb_X10 xs_0) (xe_X10 xs_0 _) rfl rfl v_X10_printed kw_938 (c_X10_printed l hst g M x1 h _) rfl hl.1 rfl (Nat.le_of_ble_eq_true rfl) ⟨by decide, by decide⟩ ⟨by decide, by decide⟩ dL_printed_4) hZ.2.2 (fun q _ h => zAin hZ q h) (zAin hZ) (fun q _ h => zAin hZ q h) ?_ ?_
  · intro E1 ce q9 w t H1 locs1 ht _ hw hB _ _ hS hce hcv hcl
    obtain ⟨hE, hB⟩ := hB
    have hr : r = (w.1, .inl w.2) := hw
    have hZ1 := zSw_of (cO := cO) (qo := qo) (v := v) hZ0 hO hap (zS_call hZ ht hB hS)
    have hk := he _ _ hr
    have hE1 : E1 = "java/lang/IllegalArgumentException" := by rw [hE, hk]; rfl
    subst hE1
    refine zcatch E.1.2.2.2.1 [] (⟨0, 9, 12, 13⟩ : ExceptionTableEntry) [] htab (fun z hz => by simp at hz) rfl (by decide) (E.w kw_575) (va_Nw.use rfl (E.2.2.1 _ kz_708)) hce hcv hcl ?_
    refine lv_astore_n (lv' := [(3, .ref q9), (0, .ref (g.2.2 0)), (1, .int x1), (2, .ref qo)]) hx hb dL_printed_12 rfl hl (by decide) rfl (fun ls hl => ?_)
    refine lv_iconst (v := 1) hx hb dL_printed_13 (by decide) ?_
    exact zwret B.returns hlocks E hZ1 (by rw [hr]; simp [zwr, hk]) (by decide) (by decide) dL_printed_14
  · intro x M1 t H1 locs1 ht _ hp hB _ _ hS
    have hr : r = (M1, .inr x) := hp
    have hZ1 := zSw_of (cO := cO) (qo := qo) (v := v) hZ0 hO hap (zS_call hZ ht hB hS)
    refine lv_i2l hx hb dL_printed_7 rfl ?_
    refine zlast E hKo hZ1 dL_printed_8 (fun H locs hZ2 => ?_)
    refine lv_goto (tgt := 15) hx hb dL_printed_9 (by decide) ?_
    refine lv_iconst (v := 0) hx hb dL_printed_15 (by decide) ?_
    exact zwret B.returns hlocks E hZ2 (by rw [hr]; rfl) (by decide) (by decide) dL_printed_16
set_option maxRecDepth 100000 in
set_option maxHeartbeats 4000000 in
theorem cw_L_goal (l : Launch) (hst : l.stackTraces = false) (g : zG) (cO : ClassId) (qo : Nat) (M : zM) (v : Int64) (x1 : Int32) (x2 : Int32) {r : zT1} (h : f_X10_goal M x1 x2 = some r) (he : ∀ (M1 : zM) (k : Nat), r = (M1, .inl k) → k = 0 ∨ k = 2) : zMw l g cO qo yL_goal (zWsH yL_goal cL_goal 5 (some .int) [(0, 10, 13, 24), (0, 10, 17, 50)]) 11 3 [.ref (g.2.2 0), .int x1, .int x2, .ref qo] M v (zwr r (fun k => if k = 0 then 1 else 2) (fun x => x.toInt64) v) := by
  intro sz
  refine zofWH (cc := cL_goal) (maxL := 5) (ret := some .int) (hh := [(0, 10, 13, 24), (0, 10, 17, 50)]) (by decide +kernel) rfl ?_
  intro p e s m args below meth c s₁ B hml hv
  obtain ⟨⟨hv, hT⟩, hO, hKo, hap, hNc⟩ := hv
  obtain ⟨rfl, rfl, E, hZ, htab⟩ := z_entryH B hml hv
  have hlocks := B.notSynchronized
  have hx := E.1.1
  have hb := E.1.2.1
  have hl := lv_entry [.ref (g.2.2 0), .int x1, .int x2, .ref qo] (n := 5) (Nat.le_of_ble_eq_true rfl)
  rw [lg_entry_eq]
  show W p l e (zrm 11 3 (6 * 3)) s m _ below meth c s.heap [] 0 0 _ _
  generalize (lg_sl [.ref (g.2.2 0), .int x1, .int x2, .ref qo] ++ List.replicate (5 - (lg_sl [.ref (g.2.2 0), .int x1, .int x2, .ref qo]).length) Slot.unset).toArray = ls at hl ⊢
  have hl : lv_has ls 5 [(0, .ref (g.2.2 0)), (1, .int x1), (2, .int x2), (3, .ref qo)] := hl
  have hZ0 := hZ
  refine lv_aload_n hx hb dL_goal_0 rfl (lv_at hl 3 rfl) ?_
  refine lv_iconst (v := 0) hx hb dL_goal_1 (by decide) ?_
  refine lv_aload_n hx hb dL_goal_2 rfl (lv_at hl 0 rfl) ?_
  refine lv_iload_n hx hb dL_goal_3 rfl (lv_at hl 1 rfl) ?_
  refine lv_iload_n hx hb dL_goal_4 rfl (lv_at hl 2 rfl) ?_
  refine vx_calli (zrunVu (As := [.int x1, .int x2]) (rest := [.int 0, .ref qo]) E hT hZ (xb_X10 xs_0) (xe_X10 xs_0 _) rfl rfl v_X10_goal kw_946 (c_X10_goal l hst g M x1 x2 h _) rfl hl.1 rfl (Nat.le_of_ble_eq_true rfl) ⟨by decide, by decide⟩ ⟨by decide, by decide⟩ dL_goal_5) hZ.2.2 (fun q _ h => zAin hZ q h) (zAin hZ) (fun q _ h => zAin hZ q h) ?_ ?_
  · intro E1 ce q9 w t H1 locs1 ht _ hw hB _ _ hS hce hcv hcl
    obtain ⟨hE, hB⟩ := hB
    have hr : r = (w.1, .inl w.2) := hw
    have hZ1 := zSw_of (cO := cO) (qo := qo) (v := v) hZ0 hO hap (zS_call hZ ht hB hS)
    rcases he _ _ hr with hk | hk
    · have hE1 : E1 = "java/lang/IndexOutOfBoundsException" := by rw [hE, hk]; rfl
      subst hE1
      refine zcatch E.1.2.2.2.1 [] (⟨0, 10, 13, 24⟩ : ExceptionTableEntry) [(⟨0, 10, 17, 50⟩ : ExceptionTableEntry)] htab (fun z hz => by simp at hz) rfl (by decide) (E.w kw_839) (va_Nw.use rfl (E.2.2.1 _ kz_850)) hce hcv hcl ?_
      refine lv_astore (lv' := [(4, .ref q9), (0, .ref (g.2.2 0)), (1, .int x1), (2, .int x2), (3, .ref qo)]) hx hb dL_goal_13 hl (by decide) rfl (fun ls hl => ?_)
      refine lv_iconst (v := 1) hx hb dL_goal_15 (by decide) ?_
      exact zwret B.returns hlocks E hZ1 (by rw [hr]; simp [zwr, hk]) (by decide) (by decide) dL_goal_16
    · have hE1 : E1 = "java/lang/IllegalStateException" := by rw [hE, hk]; rfl
      subst hE1
      refine zcatch E.1.2.2.2.1 [(⟨0, 10, 13, 24⟩ : ExceptionTableEntry)] (⟨0, 10, 17, 50⟩ : ExceptionTableEntry) [] htab (fun z hz => by rw [List.mem_singleton.mp hz]; exact Or.inr ⟨by decide, "java/lang/IndexOutOfBoundsException", E.w kw_839, hNc _ (List.mem_of_getElem? (i := 3) rfl)⟩) rfl (by decide) (E.w kw_945) (va_Nw.use rfl (E.2.2.1 _ kz_956)) hce hcv hcl ?_
      refine lv_astore (lv' := [(4, .ref q9), (0, .ref (g.2.2 0)), (1, .int x1), (2, .int x2), (3, .ref qo)]) hx hb dL_goal_17 hl (by decide) rfl (fun ls hl => ?_)
      refine lv_iconst (v := 2) hx hb dL_goal_19 (by decide) ?_
      exact zwret B.returns hlocks E hZ1 (by rw [hr]; simp [zwr, hk]) (by decide) (by decide) dL_goal_20
  · intro x M1 t H1 locs1 ht _ hp hB _ _ hS
    have hr : r = (M1, .inr x) := hp
    have hZ1 := zSw_of (cO := cO) (qo := qo) (v := v) hZ0 hO hap (zS_call hZ ht hB hS)
    refine lv_i2l hx hb dL_goal_8 rfl ?_
    refine zlast E hKo hZ1 dL_goal_9 (fun H locs hZ2 => ?_)
    refine lv_goto (tgt := 21) hx hb dL_goal_10 (by decide) ?_
    refine lv_iconst (v := 0) hx hb dL_goal_21 (by decide) ?_
    exact zwret B.returns hlocks E hZ2 (by rw [hr]; rfl) (by decide) (by decide) dL_goal_22
set_option maxRecDepth 100000 in
set_option maxHeartbeats 4000000 in
theorem cw_L_rest (l : Launch) (hst : l.stackTraces = false) (g : zG) (cO : ClassId) (qo : Nat) (M : zM) (v : Int64) (x1 : Int32) {r : zT1} (h : f_X10_rest M x1 = some r) (he : ∀ (M1 : zM) (k : Nat), r = (M1, .inl k) → k = 0 ∨ k = 2) : zMw l g cO qo yL_rest (zWsH yL_rest cL_rest 4 (some .int) [(0, 9, 12, 24), (0, 9, 15, 50)]) 11 2 [.ref (g.2.2 0), .int x1, .ref qo] M v (zwr r (fun k => if k = 0 then 1 else 2) (fun x => x.toInt64) v) := by
  intro sz
  refine zofWH (cc := cL_rest) (maxL := 4) (ret := some .int) (hh := [(0, 9, 12, 24), (0, 9, 15, 50)]) (by decide +kernel) rfl ?_
  intro p e s m args below meth c s₁ B hml hv
  obtain ⟨⟨hv, hT⟩, hO, hKo, hap, hNc⟩ := hv
  obtain ⟨rfl, rfl, E, hZ, htab⟩ := z_entryH B hml hv
  have hlocks := B.notSynchronized
  have hx := E.1.1
  have hb := E.1.2.1
  have hl := lv_entry [.ref (g.2.2 0), .int x1, .ref qo] (n := 4) (Nat.le_of_ble_eq_true rfl)
  rw [lg_entry_eq]
  show W p l e (zrm 11 2 (6 * 2)) s m _ below meth c s.heap [] 0 0 _ _
  generalize (lg_sl [.ref (g.2.2 0), .int x1, .ref qo] ++ List.replicate (4 - (lg_sl [.ref (g.2.2 0), .int x1, .ref qo]).length) Slot.unset).toArray = ls at hl ⊢
  have hl : lv_has ls 4 [(0, .ref (g.2.2 0)), (1, .int x1), (2, .ref qo)] := hl
  have hZ0 := hZ
  refine lv_aload_n hx hb dL_rest_0 rfl (lv_at hl 2 rfl) ?_
  refine lv_iconst (v := 0) hx hb dL_rest_1 (by decide) ?_
  refine lv_aload_n hx hb dL_rest_2 rfl (lv_at hl 0 rfl) ?_
  refine lv_iload_n hx hb dL_rest_3 rfl (lv_at hl 1 rfl) ?_
  refine vx_calli (zrunVu (As := [.int x1]) (rest := [.int 0, .ref qo]) E hT hZ (xb_X10 xs_0) (xe_X10 xs_0 _) rfl rfl v_X10_rest kw_977 (c_X10_rest l hst g M x1 h _) rfl hl.1 rfl (Nat.le_of_ble_eq_true rfl) ⟨by decide, by decide⟩ ⟨by decide, by decide⟩ dL_rest_4) hZ.2.2 (fun q _ h => zAin hZ q h) (zAin hZ) (fun q _ h => zAin hZ q h) ?_ ?_
  · intro E1 ce q9 w t H1 locs1 ht _ hw hB _ _ hS hce hcv hcl
    obtain ⟨hE, hB⟩ := hB
    have hr : r = (w.1, .inl w.2) := hw
    have hZ1 := zSw_of (cO := cO) (qo := qo) (v := v) hZ0 hO hap (zS_call hZ ht hB hS)
    rcases he _ _ hr with hk | hk
    · have hE1 : E1 = "java/lang/IndexOutOfBoundsException" := by rw [hE, hk]; rfl
      subst hE1
      refine zcatch E.1.2.2.2.1 [] (⟨0, 9, 12, 24⟩ : ExceptionTableEntry) [(⟨0, 9, 15, 50⟩ : ExceptionTableEntry)] htab (fun z hz => by simp at hz) rfl (by decide) (E.w kw_839) (va_Nw.use rfl (E.2.2.1 _ kz_850)) hce hcv hcl ?_
      refine lv_astore_n (lv' := [(3, .ref q9), (0, .ref (g.2.2 0)), (1, .int x1), (2, .ref qo)]) hx hb dL_rest_12 rfl hl (by decide) rfl (fun ls hl => ?_)
      refine lv_iconst (v := 1) hx hb dL_rest_13 (by decide) ?_
      exact zwret B.returns hlocks E hZ1 (by rw [hr]; simp [zwr, hk]) (by decide) (by decide) dL_rest_14
    · have hE1 : E1 = "java/lang/IllegalStateException" := by rw [hE, hk]; rfl
      subst hE1
      refine zcatch E.1.2.2.2.1 [(⟨0, 9, 12, 24⟩ : ExceptionTableEntry)] (⟨0, 9, 15, 50⟩ : ExceptionTableEntry) [] htab (fun z hz => by rw [List.mem_singleton.mp hz]; exact Or.inr ⟨by decide, "java/lang/IndexOutOfBoundsException", E.w kw_839, hNc _ (List.mem_of_getElem? (i := 3) rfl)⟩) rfl (by decide) (E.w kw_945) (va_Nw.use rfl (E.2.2.1 _ kz_956)) hce hcv hcl ?_
      refine lv_astore_n (lv' := [(3, .ref q9), (0, .ref (g.2.2 0)), (1, .int x1), (2, .ref qo)]) hx hb dL_rest_15 rfl hl (by decide) rfl (fun ls hl => ?_)
      refine lv_iconst (v := 2) hx hb dL_rest_16 (by decide) ?_
      exact zwret B.returns hlocks E hZ1 (by rw [hr]; simp [zwr, hk]) (by decide) (by decide) dL_rest_17
  · intro x M1 t H1 locs1 ht _ hp hB _ _ hS
    have hr : r = (M1, .inr x) := hp
    have hZ1 := zSw_of (cO := cO) (qo := qo) (v := v) hZ0 hO hap (zS_call hZ ht hB hS)
    refine lv_i2l hx hb dL_rest_7 rfl ?_
    refine zlast E hKo hZ1 dL_rest_8 (fun H locs hZ2 => ?_)
    refine lv_goto (tgt := 18) hx hb dL_rest_9 (by decide) ?_
    refine lv_iconst (v := 0) hx hb dL_rest_18 (by decide) ?_
    exact zwret B.returns hlocks E hZ2 (by rw [hr]; rfl) (by decide) (by decide) dL_rest_19
set_option maxRecDepth 100000 in
set_option maxHeartbeats 4000000 in
theorem cw_L_error (l : Launch) (hst : l.stackTraces = false) (g : zG) (cO : ClassId) (qo : Nat) (M : zM) (v : Int64) (x1 : Int32) (x2 : Int32) {r : zT1} (h : f_X10_error M x1 x2 = some r) (he : ∀ (M1 : zM) (k : Nat), r = (M1, .inl k) → k = 1) : zMw l g cO qo yL_error (zWsH yL_error cL_error 5 (some .int) [(0, 10, 13, 13)]) 12 2 [.ref (g.2.2 0), .int x1, .int x2, .ref qo] M v (zwr r (fun _ => 1) (fun x => x.toInt64) v) := by
  intro sz
  refine zofWH (cc := cL_error) (maxL := 5) (ret := some .int) (hh := [(0, 10, 13, 13)]) (by decide +kernel) rfl ?_
  intro p e s m args below meth c s₁ B hml hv
  obtain ⟨⟨hv, hT⟩, hO, hKo, hap, hNc⟩ := hv
  obtain ⟨rfl, rfl, E, hZ, htab⟩ := z_entryH B hml hv
  have hlocks := B.notSynchronized
  have hx := E.1.1
  have hb := E.1.2.1
  have hl := lv_entry [.ref (g.2.2 0), .int x1, .int x2, .ref qo] (n := 5) (Nat.le_of_ble_eq_true rfl)
  rw [lg_entry_eq]
  show W p l e (zrm 12 2 (6 * 2)) s m _ below meth c s.heap [] 0 0 _ _
  generalize (lg_sl [.ref (g.2.2 0), .int x1, .int x2, .ref qo] ++ List.replicate (5 - (lg_sl [.ref (g.2.2 0), .int x1, .int x2, .ref qo]).length) Slot.unset).toArray = ls at hl ⊢
  have hl : lv_has ls 5 [(0, .ref (g.2.2 0)), (1, .int x1), (2, .int x2), (3, .ref qo)] := hl
  have hZ0 := hZ
  refine lv_aload_n hx hb dL_error_0 rfl (lv_at hl 3 rfl) ?_
  refine lv_iconst (v := 0) hx hb dL_error_1 (by decide) ?_
  refine lv_aload_n hx hb dL_error_2 rfl (lv_at hl 0 rfl) ?_
  refine lv_iload_n hx hb dL_error_3 rfl (lv_at hl 1 rfl) ?_
  refine lv_iload_n hx hb dL_error_4 rfl (lv_at hl 2 rfl) ?_
  refine vx_calli (zrunVu (As := [.int x1, .int x2]) (rest := [.int 0, .ref qo]) E hT hZ (xb_X10 xs_0) (xe_X10 xs_0 _) rfl rfl v_X10_error kw_984 (c_X10_error l hst g M x1 x2 h _) rfl hl.1 rfl (Nat.le_of_ble_eq_true rfl) ⟨by decide, by decide⟩ ⟨by decide, by decide⟩ dL_error_5) hZ.2.2 (fun q _ h => zAin hZ q h) (zAin hZ) (fun q _ h => zAin hZ q h) ?_ ?_
  · intro E1 ce q9 w t H1 locs1 ht _ hw hB _ _ hS hce hcv hcl
    obtain ⟨hE, hB⟩ := hB
    have hr : r = (w.1, .inl w.2) := hw
    have hZ1 := zSw_of (cO := cO) (qo := qo) (v := v) hZ0 hO hap (zS_call hZ ht hB hS)
    have hk := he _ _ hr
    have hE1 : E1 = "java/lang/IllegalArgumentException" := by rw [hE, hk]; rfl
    subst hE1
    refine zcatch E.1.2.2.2.1 [] (⟨0, 10, 13, 13⟩ : ExceptionTableEntry) [] htab (fun z hz => by simp at hz) rfl (by decide) (E.w kw_575) (va_Nw.use rfl (E.2.2.1 _ kz_708)) hce hcv hcl ?_
    refine lv_astore (lv' := [(4, .ref q9), (0, .ref (g.2.2 0)), (1, .int x1), (2, .int x2), (3, .ref qo)]) hx hb dL_error_13 hl (by decide) rfl (fun ls hl => ?_)
    refine lv_iconst (v := 1) hx hb dL_error_15 (by decide) ?_
    exact zwret B.returns hlocks E hZ1 (by rw [hr]; simp [zwr, hk]) (by decide) (by decide) dL_error_16
  · intro x M1 t H1 locs1 ht _ hp hB _ _ hS
    have hr : r = (M1, .inr x) := hp
    have hZ1 := zSw_of (cO := cO) (qo := qo) (v := v) hZ0 hO hap (zS_call hZ ht hB hS)
    refine lv_i2l hx hb dL_error_8 rfl ?_
    refine zlast E hKo hZ1 dL_error_9 (fun H locs hZ2 => ?_)
    refine lv_goto (tgt := 17) hx hb dL_error_10 (by decide) ?_
    refine lv_iconst (v := 0) hx hb dL_error_17 (by decide) ?_
    exact zwret B.returns hlocks E hZ2 (by rw [hr]; rfl) (by decide) (by decide) dL_error_18
set_option maxRecDepth 100000 in
set_option maxHeartbeats 4000000 in
theorem cw_L_edition (l : Launch) (hst : l.stackTraces = false) (g : zG) (cO : ClassId) (qo : Nat) (M : zM) (v : Int64) (x1 : Int32) {r : zT1} (h : f_X10_edition M x1 = some r) (he : ∀ (M1 : zM) (k : Nat), r = (M1, .inl k) → k = 1) : zMw l g cO qo yL_edition (zWsH yL_edition cL_edition 4 (some .int) [(0, 9, 12, 13)]) 12 1 [.ref (g.2.2 0), .int x1, .ref qo] M v (zwr r (fun _ => 1) (fun x => x.toInt64) v) := by
  intro sz
  refine zofWH (cc := cL_edition) (maxL := 4) (ret := some .int) (hh := [(0, 9, 12, 13)]) (by decide +kernel) rfl ?_
  intro p e s m args below meth c s₁ B hml hv
  obtain ⟨⟨hv, hT⟩, hO, hKo, hap, hNc⟩ := hv
  obtain ⟨rfl, rfl, E, hZ, htab⟩ := z_entryH B hml hv
  have hlocks := B.notSynchronized
  have hx := E.1.1
  have hb := E.1.2.1
  have hl := lv_entry [.ref (g.2.2 0), .int x1, .ref qo] (n := 4) (Nat.le_of_ble_eq_true rfl)
  rw [lg_entry_eq]
  show W p l e (zrm 12 1 (6 * 1)) s m _ below meth c s.heap [] 0 0 _ _
  generalize (lg_sl [.ref (g.2.2 0), .int x1, .ref qo] ++ List.replicate (4 - (lg_sl [.ref (g.2.2 0), .int x1, .ref qo]).length) Slot.unset).toArray = ls at hl ⊢
  have hl : lv_has ls 4 [(0, .ref (g.2.2 0)), (1, .int x1), (2, .ref qo)] := hl
  have hZ0 := hZ
  refine lv_aload_n hx hb dL_edition_0 rfl (lv_at hl 2 rfl) ?_
  refine lv_iconst (v := 0) hx hb dL_edition_1 (by decide) ?_
  refine lv_aload_n hx hb dL_edition_2 rfl (lv_at hl 0 rfl) ?_
  refine lv_iload_n hx hb dL_edition_3 rfl (lv_at hl 1 rfl) ?_
  refine vx_calli (zrunVu (As := [.int x1]) (rest := [.int 0, .ref qo]) E hT hZ (xb_X10 xs_0) (xe_X10 xs_0 _) rfl rfl v_X10_edition kw_996 (c_X10_edition l hst g M x1 h _) rfl hl.1 rfl (Nat.le_of_ble_eq_true rfl) ⟨by decide, by decide⟩ ⟨by decide, by decide⟩ dL_edition_4) hZ.2.2 (fun q _ h => zAin hZ q h) (zAin hZ) (fun q _ h => zAin hZ q h) ?_ ?_
  · intro E1 ce q9 w t H1 locs1 ht _ hw hB _ _ hS hce hcv hcl
    obtain ⟨hE, hB⟩ := hB
    have hr : r = (w.1, .inl w.2) := hw
    have hZ1 := zSw_of (cO := cO) (qo := qo) (v := v) hZ0 hO hap (zS_call hZ ht hB hS)
    have hk := he _ _ hr
    have hE1 : E1 = "java/lang/IllegalArgumentException" := by rw [hE, hk]; rfl
    subst hE1
    refine zcatch E.1.2.2.2.1 [] (⟨0, 9, 12, 13⟩ : ExceptionTableEntry) [] htab (fun z hz => by simp at hz) rfl (by decide) (E.w kw_575) (va_Nw.use rfl (E.2.2.1 _ kz_708)) hce hcv hcl ?_
    refine lv_astore_n (lv' := [(3, .ref q9), (0, .ref (g.2.2 0)), (1, .int x1), (2, .ref qo)]) hx hb dL_edition_12 rfl hl (by decide) rfl (fun ls hl => ?_)
    refine lv_iconst (v := 1) hx hb dL_edition_13 (by decide) ?_
    exact zwret B.returns hlocks E hZ1 (by rw [hr]; simp [zwr, hk]) (by decide) (by decide) dL_edition_14
  · intro x M1 t H1 locs1 ht _ hp hB _ _ hS
    have hr : r = (M1, .inr x) := hp
    have hZ1 := zSw_of (cO := cO) (qo := qo) (v := v) hZ0 hO hap (zS_call hZ ht hB hS)
    refine lv_i2l hx hb dL_edition_7 rfl ?_
    refine zlast E hKo hZ1 dL_edition_8 (fun H locs hZ2 => ?_)
    refine lv_goto (tgt := 15) hx hb dL_edition_9 (by decide) ?_
    refine lv_iconst (v := 0) hx hb dL_edition_15 (by decide) ?_
    exact zwret B.returns hlocks E hZ2 (by rw [hr]; rfl) (by decide) (by decide) dL_edition_16
set_option maxRecDepth 100000 in
set_option maxHeartbeats 4000000 in
theorem cw_L_wind (l : Launch) (hst : l.stackTraces = false) (g : zG) (cO : ClassId) (qo : Nat) (M : zM) (v : Int64) (x1 : Int32) {r : zT1} (h : f_X10_wind M x1 = some r) (he : ∀ (M1 : zM) (k : Nat), r = (M1, .inl k) → k = 1) : zMw l g cO qo yL_wind (zWsH yL_wind cL_wind 4 (some .int) [(0, 9, 12, 13)]) 11 1 [.ref (g.2.2 0), .int x1, .ref qo] M v (zwr r (fun _ => 1) (fun x => x.toInt64) v) := by
  intro sz
  refine zofWH (cc := cL_wind) (maxL := 4) (ret := some .int) (hh := [(0, 9, 12, 13)]) (by decide +kernel) rfl ?_
  intro p e s m args below meth c s₁ B hml hv
  obtain ⟨⟨hv, hT⟩, hO, hKo, hap, hNc⟩ := hv
  obtain ⟨rfl, rfl, E, hZ, htab⟩ := z_entryH B hml hv
  have hlocks := B.notSynchronized
  have hx := E.1.1
  have hb := E.1.2.1
  have hl := lv_entry [.ref (g.2.2 0), .int x1, .ref qo] (n := 4) (Nat.le_of_ble_eq_true rfl)
  rw [lg_entry_eq]
  show W p l e (zrm 11 1 (6 * 1)) s m _ below meth c s.heap [] 0 0 _ _
  generalize (lg_sl [.ref (g.2.2 0), .int x1, .ref qo] ++ List.replicate (4 - (lg_sl [.ref (g.2.2 0), .int x1, .ref qo]).length) Slot.unset).toArray = ls at hl ⊢
  have hl : lv_has ls 4 [(0, .ref (g.2.2 0)), (1, .int x1), (2, .ref qo)] := hl
  have hZ0 := hZ
  refine lv_aload_n hx hb dL_wind_0 rfl (lv_at hl 2 rfl) ?_
  refine lv_iconst (v := 0) hx hb dL_wind_1 (by decide) ?_
  refine lv_aload_n hx hb dL_wind_2 rfl (lv_at hl 0 rfl) ?_
  refine lv_iload_n hx hb dL_wind_3 rfl (lv_at hl 1 rfl) ?_
  refine vx_calli (zrunVu (As := [.int x1]) (rest := [.int 0, .ref qo]) E hT hZ (xb_X10 xs_0) (xe_X10 xs_0 _) rfl rfl v_X10_wind kw_1003 (c_X10_wind l hst g M x1 h _) rfl hl.1 rfl (Nat.le_of_ble_eq_true rfl) ⟨by decide, by decide⟩ ⟨by decide, by decide⟩ dL_wind_4) hZ.2.2 (fun q _ h => zAin hZ q h) (zAin hZ) (fun q _ h => zAin hZ q h) ?_ ?_
  · intro E1 ce q9 w t H1 locs1 ht _ hw hB _ _ hS hce hcv hcl
    obtain ⟨hE, hB⟩ := hB
    have hr : r = (w.1, .inl w.2) := hw
    have hZ1 := zSw_of (cO := cO) (qo := qo) (v := v) hZ0 hO hap (zS_call hZ ht hB hS)
    have hk := he _ _ hr
    have hE1 : E1 = "java/lang/IllegalArgumentException" := by rw [hE, hk]; rfl
    subst hE1
    refine zcatch E.1.2.2.2.1 [] (⟨0, 9, 12, 13⟩ : ExceptionTableEntry) [] htab (fun z hz => by simp at hz) rfl (by decide) (E.w kw_575) (va_Nw.use rfl (E.2.2.1 _ kz_708)) hce hcv hcl ?_
    refine lv_astore_n (lv' := [(3, .ref q9), (0, .ref (g.2.2 0)), (1, .int x1), (2, .ref qo)]) hx hb dL_wind_12 rfl hl (by decide) rfl (fun ls hl => ?_)
    refine lv_iconst (v := 1) hx hb dL_wind_13 (by decide) ?_
    exact zwret B.returns hlocks E hZ1 (by rw [hr]; simp [zwr, hk]) (by decide) (by decide) dL_wind_14
  · intro x M1 t H1 locs1 ht _ hp hB _ _ hS
    have hr : r = (M1, .inr x) := hp
    have hZ1 := zSw_of (cO := cO) (qo := qo) (v := v) hZ0 hO hap (zS_call hZ ht hB hS)
    refine lv_i2l hx hb dL_wind_7 rfl ?_
    refine zlast E hKo hZ1 dL_wind_8 (fun H locs hZ2 => ?_)
    refine lv_goto (tgt := 15) hx hb dL_wind_9 (by decide) ?_
    refine lv_iconst (v := 0) hx hb dL_wind_15 (by decide) ?_
    exact zwret B.returns hlocks E hZ2 (by rw [hr]; rfl) (by decide) (by decide) dL_wind_16
set_option maxRecDepth 100000 in
set_option maxHeartbeats 4000000 in
theorem cw_L_anew (l : Launch) (hst : l.stackTraces = false) (g : zG) (cO : ClassId) (qo : Nat) (M : zM) (v : Int64) (x1 : Int32) {r : zT1} (h : f_X10_anew M x1 = some r) (he : ∀ (M1 : zM) (k : Nat), r = (M1, .inl k) → k = 0) : zMw l g cO qo yL_anew (zWsH yL_anew cL_anew 4 (some .int) [(0, 16, 19, 24)]) 11 1 [.ref (g.2.2 0), .int x1, .ref qo] M v (zwr r (fun _ => 1) (fun x => if x = 0 then (0 : Int64) else 1) v) := by
  intro sz
  refine zofWH (cc := cL_anew) (maxL := 4) (ret := some .int) (hh := [(0, 16, 19, 24)]) (by decide +kernel) rfl ?_
  intro p e s m args below meth c s₁ B hml hv
  obtain ⟨⟨hv, hT⟩, hO, hKo, hap, hNc⟩ := hv
  obtain ⟨rfl, rfl, E, hZ, htab⟩ := z_entryH B hml hv
  have hlocks := B.notSynchronized
  have hx := E.1.1
  have hb := E.1.2.1
  have hl := lv_entry [.ref (g.2.2 0), .int x1, .ref qo] (n := 4) (Nat.le_of_ble_eq_true rfl)
  rw [lg_entry_eq]
  show W p l e (zrm 11 1 (6 * 1)) s m _ below meth c s.heap [] 0 0 _ _
  generalize (lg_sl [.ref (g.2.2 0), .int x1, .ref qo] ++ List.replicate (4 - (lg_sl [.ref (g.2.2 0), .int x1, .ref qo]).length) Slot.unset).toArray = ls at hl ⊢
  have hl : lv_has ls 4 [(0, .ref (g.2.2 0)), (1, .int x1), (2, .ref qo)] := hl
  have hZ0 := hZ
  refine lv_aload_n hx hb dL_anew_0 rfl (lv_at hl 2 rfl) ?_
  refine lv_iconst (v := 0) hx hb dL_anew_1 (by decide) ?_
  refine lv_aload_n hx hb dL_anew_2 rfl (lv_at hl 0 rfl) ?_
  refine lv_iload_n hx hb dL_anew_3 rfl (lv_at hl 1 rfl) ?_
  refine vx_calli (zrunVu (As := [.int x1]) (rest := [.int 0, .ref qo]) E hT hZ (xb_X10 xs_0) (xe_X10 xs_0 _) rfl rfl v_X10_anew kw_1010 (c_X10_anew l hst g M x1 h _) rfl hl.1 rfl (Nat.le_of_ble_eq_true rfl) ⟨by decide, by decide⟩ ⟨by decide, by decide⟩ dL_anew_4) hZ.2.2 (fun q _ h => zAin hZ q h) (zAin hZ) (fun q _ h => zAin hZ q h) ?_ ?_
  · intro E1 ce q9 w t H1 locs1 ht _ hw hB _ _ hS hce hcv hcl
    obtain ⟨hE, hB⟩ := hB
    have hr : r = (w.1, .inl w.2) := hw
    have hZ1 := zSw_of (cO := cO) (qo := qo) (v := v) hZ0 hO hap (zS_call hZ ht hB hS)
    have hk := he _ _ hr
    have hE1 : E1 = "java/lang/IndexOutOfBoundsException" := by rw [hE, hk]; rfl
    subst hE1
    refine zcatch E.1.2.2.2.1 [] (⟨0, 16, 19, 24⟩ : ExceptionTableEntry) [] htab (fun z hz => by simp at hz) rfl (by decide) (E.w kw_839) (va_Nw.use rfl (E.2.2.1 _ kz_850)) hce hcv hcl ?_
    refine lv_astore_n (lv' := [(3, .ref q9), (0, .ref (g.2.2 0)), (1, .int x1), (2, .ref qo)]) hx hb dL_anew_19 rfl hl (by decide) rfl (fun ls hl => ?_)
    refine lv_iconst (v := 1) hx hb dL_anew_20 (by decide) ?_
    exact zwret B.returns hlocks E hZ1 (by rw [hr]; simp [zwr, hk]) (by decide) (by decide) dL_anew_21
  · intro x M1 t H1 locs1 ht _ hp hB _ _ hS
    have hr : r = (M1, .inr x) := hp
    have hZ1 := zSw_of (cO := cO) (qo := qo) (v := v) hZ0 hO hap (zS_call hZ ht hB hS)
    refine lv_if_eq (tgt := 14) hx hb dL_anew_7 (by decide) (fun hc => ?_) (fun hc => ?_)
    · refine lv_lconst (v := 0) hx hb dL_anew_14 (by decide) ?_
      refine zlast E hKo hZ1 dL_anew_15 (fun H locs hZ2 => ?_)
      refine lv_goto (tgt := 22) hx hb dL_anew_16 (by decide) ?_
      refine lv_iconst (v := 0) hx hb dL_anew_22 (by decide) ?_
      exact zwret B.returns hlocks E hZ2 (by rw [hr]; simp [zwr, hc]) (by decide) (by decide) dL_anew_23
    · refine lv_lconst (v := 1) hx hb dL_anew_10 (by decide) ?_
      refine lv_goto (tgt := 15) hx hb dL_anew_11 (by decide) ?_
      refine zlast E hKo hZ1 dL_anew_15 (fun H locs hZ2 => ?_)
      refine lv_goto (tgt := 22) hx hb dL_anew_16 (by decide) ?_
      refine lv_iconst (v := 0) hx hb dL_anew_22 (by decide) ?_
      exact zwret B.returns hlocks E hZ2 (by rw [hr]; simp [zwr, hc]) (by decide) (by decide) dL_anew_23
set_option maxRecDepth 100000 in
set_option maxHeartbeats 4000000 in
theorem cw_L_hours (l : Launch) (hst : l.stackTraces = false) (g : zG) (cO : ClassId) (qo : Nat) (M : zM) (v : Int64) (x1 : Int32) {r : zT1} (h : f_X10_hours M x1 = some r) (he : ∀ (M1 : zM) (k : Nat), r = (M1, .inl k) → k = 1) : zMw l g cO qo yL_hours (zWsH yL_hours cL_hours 4 (some .int) [(0, 9, 12, 13)]) 11 1 [.ref (g.2.2 0), .int x1, .ref qo] M v (zwr r (fun _ => 1) (fun x => x.toInt64) v) := by
  intro sz
  refine zofWH (cc := cL_hours) (maxL := 4) (ret := some .int) (hh := [(0, 9, 12, 13)]) (by decide +kernel) rfl ?_
  intro p e s m args below meth c s₁ B hml hv
  obtain ⟨⟨hv, hT⟩, hO, hKo, hap, hNc⟩ := hv
  obtain ⟨rfl, rfl, E, hZ, htab⟩ := z_entryH B hml hv
  have hlocks := B.notSynchronized
  have hx := E.1.1
  have hb := E.1.2.1
  have hl := lv_entry [.ref (g.2.2 0), .int x1, .ref qo] (n := 4) (Nat.le_of_ble_eq_true rfl)
  rw [lg_entry_eq]
  show W p l e (zrm 11 1 (6 * 1)) s m _ below meth c s.heap [] 0 0 _ _
  generalize (lg_sl [.ref (g.2.2 0), .int x1, .ref qo] ++ List.replicate (4 - (lg_sl [.ref (g.2.2 0), .int x1, .ref qo]).length) Slot.unset).toArray = ls at hl ⊢
  have hl : lv_has ls 4 [(0, .ref (g.2.2 0)), (1, .int x1), (2, .ref qo)] := hl
  have hZ0 := hZ
  refine lv_aload_n hx hb dL_hours_0 rfl (lv_at hl 2 rfl) ?_
  refine lv_iconst (v := 0) hx hb dL_hours_1 (by decide) ?_
  refine lv_aload_n hx hb dL_hours_2 rfl (lv_at hl 0 rfl) ?_
  refine lv_iload_n hx hb dL_hours_3 rfl (lv_at hl 1 rfl) ?_
  refine vx_calli (zrunVu (As := [.int x1]) (rest := [.int 0, .ref qo]) E hT hZ (xb_X10 xs_0) (xe_X10 xs_0 _) rfl rfl v_X10_hours kw_1017 (c_X10_hours l hst g M x1 h _) rfl hl.1 rfl (Nat.le_of_ble_eq_true rfl) ⟨by decide, by decide⟩ ⟨by decide, by decide⟩ dL_hours_4) hZ.2.2 (fun q _ h => zAin hZ q h) (zAin hZ) (fun q _ h => zAin hZ q h) ?_ ?_
  · intro E1 ce q9 w t H1 locs1 ht _ hw hB _ _ hS hce hcv hcl
    obtain ⟨hE, hB⟩ := hB
    have hr : r = (w.1, .inl w.2) := hw
    have hZ1 := zSw_of (cO := cO) (qo := qo) (v := v) hZ0 hO hap (zS_call hZ ht hB hS)
    have hk := he _ _ hr
    have hE1 : E1 = "java/lang/IllegalArgumentException" := by rw [hE, hk]; rfl
    subst hE1
    refine zcatch E.1.2.2.2.1 [] (⟨0, 9, 12, 13⟩ : ExceptionTableEntry) [] htab (fun z hz => by simp at hz) rfl (by decide) (E.w kw_575) (va_Nw.use rfl (E.2.2.1 _ kz_708)) hce hcv hcl ?_
    refine lv_astore_n (lv' := [(3, .ref q9), (0, .ref (g.2.2 0)), (1, .int x1), (2, .ref qo)]) hx hb dL_hours_12 rfl hl (by decide) rfl (fun ls hl => ?_)
    refine lv_iconst (v := 1) hx hb dL_hours_13 (by decide) ?_
    exact zwret B.returns hlocks E hZ1 (by rw [hr]; simp [zwr, hk]) (by decide) (by decide) dL_hours_14
  · intro x M1 t H1 locs1 ht _ hp hB _ _ hS
    have hr : r = (M1, .inr x) := hp
    have hZ1 := zSw_of (cO := cO) (qo := qo) (v := v) hZ0 hO hap (zS_call hZ ht hB hS)
    refine lv_i2l hx hb dL_hours_7 rfl ?_
    refine zlast E hKo hZ1 dL_hours_8 (fun H locs hZ2 => ?_)
    refine lv_goto (tgt := 15) hx hb dL_hours_9 (by decide) ?_
    refine lv_iconst (v := 0) hx hb dL_hours_15 (by decide) ?_
    exact zwret B.returns hlocks E hZ2 (by rw [hr]; rfl) (by decide) (by decide) dL_hours_16
set_option maxRecDepth 100000 in
set_option maxHeartbeats 4000000 in
theorem cw_L_high (l : Launch) (hst : l.stackTraces = false) (g : zG) (cO : ClassId) (qo : Nat) (M : zM) (v : Int64) (x1 : Int32) {r : zT1} (h : f_X10_high M x1 = some r) (he : ∀ (M1 : zM) (k : Nat), r = (M1, .inl k) → k = 1) : zMw l g cO qo yL_high (zWsH yL_high cL_high 4 (some .int) [(0, 9, 12, 13)]) 11 1 [.ref (g.2.2 0), .int x1, .ref qo] M v (zwr r (fun _ => 1) (fun x => x.toInt64) v) := by
  intro sz
  refine zofWH (cc := cL_high) (maxL := 4) (ret := some .int) (hh := [(0, 9, 12, 13)]) (by decide +kernel) rfl ?_
  intro p e s m args below meth c s₁ B hml hv
  obtain ⟨⟨hv, hT⟩, hO, hKo, hap, hNc⟩ := hv
  obtain ⟨rfl, rfl, E, hZ, htab⟩ := z_entryH B hml hv
  have hlocks := B.notSynchronized
  have hx := E.1.1
  have hb := E.1.2.1
  have hl := lv_entry [.ref (g.2.2 0), .int x1, .ref qo] (n := 4) (Nat.le_of_ble_eq_true rfl)
  rw [lg_entry_eq]
  show W p l e (zrm 11 1 (6 * 1)) s m _ below meth c s.heap [] 0 0 _ _
  generalize (lg_sl [.ref (g.2.2 0), .int x1, .ref qo] ++ List.replicate (4 - (lg_sl [.ref (g.2.2 0), .int x1, .ref qo]).length) Slot.unset).toArray = ls at hl ⊢
  have hl : lv_has ls 4 [(0, .ref (g.2.2 0)), (1, .int x1), (2, .ref qo)] := hl
  have hZ0 := hZ
  refine lv_aload_n hx hb dL_high_0 rfl (lv_at hl 2 rfl) ?_
  refine lv_iconst (v := 0) hx hb dL_high_1 (by decide) ?_
  refine lv_aload_n hx hb dL_high_2 rfl (lv_at hl 0 rfl) ?_
  refine lv_iload_n hx hb dL_high_3 rfl (lv_at hl 1 rfl) ?_
  refine vx_calli (zrunVu (As := [.int x1]) (rest := [.int 0, .ref qo]) E hT hZ (xb_X10 xs_0) (xe_X10 xs_0 _) rfl rfl v_X10_high kw_1071 (c_X10_high l hst g M x1 h _) rfl hl.1 rfl (Nat.le_of_ble_eq_true rfl) ⟨by decide, by decide⟩ ⟨by decide, by decide⟩ dL_high_4) hZ.2.2 (fun q _ h => zAin hZ q h) (zAin hZ) (fun q _ h => zAin hZ q h) ?_ ?_
  · intro E1 ce q9 w t H1 locs1 ht _ hw hB _ _ hS hce hcv hcl
    obtain ⟨hE, hB⟩ := hB
    have hr : r = (w.1, .inl w.2) := hw
    have hZ1 := zSw_of (cO := cO) (qo := qo) (v := v) hZ0 hO hap (zS_call hZ ht hB hS)
    have hk := he _ _ hr
    have hE1 : E1 = "java/lang/IllegalArgumentException" := by rw [hE, hk]; rfl
    subst hE1
    refine zcatch E.1.2.2.2.1 [] (⟨0, 9, 12, 13⟩ : ExceptionTableEntry) [] htab (fun z hz => by simp at hz) rfl (by decide) (E.w kw_575) (va_Nw.use rfl (E.2.2.1 _ kz_708)) hce hcv hcl ?_
    refine lv_astore_n (lv' := [(3, .ref q9), (0, .ref (g.2.2 0)), (1, .int x1), (2, .ref qo)]) hx hb dL_high_12 rfl hl (by decide) rfl (fun ls hl => ?_)
    refine lv_iconst (v := 1) hx hb dL_high_13 (by decide) ?_
    exact zwret B.returns hlocks E hZ1 (by rw [hr]; simp [zwr, hk]) (by decide) (by decide) dL_high_14
  · intro x M1 t H1 locs1 ht _ hp hB _ _ hS
    have hr : r = (M1, .inr x) := hp
    have hZ1 := zSw_of (cO := cO) (qo := qo) (v := v) hZ0 hO hap (zS_call hZ ht hB hS)
    refine lv_i2l hx hb dL_high_7 rfl ?_
    refine zlast E hKo hZ1 dL_high_8 (fun H locs hZ2 => ?_)
    refine lv_goto (tgt := 15) hx hb dL_high_9 (by decide) ?_
    refine lv_iconst (v := 0) hx hb dL_high_15 (by decide) ?_
    exact zwret B.returns hlocks E hZ2 (by rw [hr]; rfl) (by decide) (by decide) dL_high_16
set_option maxRecDepth 100000 in
set_option maxHeartbeats 4000000 in
theorem cw_L_low (l : Launch) (hst : l.stackTraces = false) (g : zG) (cO : ClassId) (qo : Nat) (M : zM) (v : Int64) (x1 : Int32) {r : zT1} (h : f_X10_low M x1 = some r) (he : ∀ (M1 : zM) (k : Nat), r = (M1, .inl k) → k = 1) : zMw l g cO qo yL_low (zWsH yL_low cL_low 4 (some .int) [(0, 9, 12, 13)]) 11 1 [.ref (g.2.2 0), .int x1, .ref qo] M v (zwr r (fun _ => 1) (fun x => x.toInt64) v) := by
  intro sz
  refine zofWH (cc := cL_low) (maxL := 4) (ret := some .int) (hh := [(0, 9, 12, 13)]) (by decide +kernel) rfl ?_
  intro p e s m args below meth c s₁ B hml hv
  obtain ⟨⟨hv, hT⟩, hO, hKo, hap, hNc⟩ := hv
  obtain ⟨rfl, rfl, E, hZ, htab⟩ := z_entryH B hml hv
  have hlocks := B.notSynchronized
  have hx := E.1.1
  have hb := E.1.2.1
  have hl := lv_entry [.ref (g.2.2 0), .int x1, .ref qo] (n := 4) (Nat.le_of_ble_eq_true rfl)
  rw [lg_entry_eq]
  show W p l e (zrm 11 1 (6 * 1)) s m _ below meth c s.heap [] 0 0 _ _
  generalize (lg_sl [.ref (g.2.2 0), .int x1, .ref qo] ++ List.replicate (4 - (lg_sl [.ref (g.2.2 0), .int x1, .ref qo]).length) Slot.unset).toArray = ls at hl ⊢
  have hl : lv_has ls 4 [(0, .ref (g.2.2 0)), (1, .int x1), (2, .ref qo)] := hl
  have hZ0 := hZ
  refine lv_aload_n hx hb dL_low_0 rfl (lv_at hl 2 rfl) ?_
  refine lv_iconst (v := 0) hx hb dL_low_1 (by decide) ?_
  refine lv_aload_n hx hb dL_low_2 rfl (lv_at hl 0 rfl) ?_
  refine lv_iload_n hx hb dL_low_3 rfl (lv_at hl 1 rfl) ?_
  refine vx_calli (zrunVu (As := [.int x1]) (rest := [.int 0, .ref qo]) E hT hZ (xb_X10 xs_0) (xe_X10 xs_0 _) rfl rfl v_X10_low kw_1079 (c_X10_low l hst g M x1 h _) rfl hl.1 rfl (Nat.le_of_ble_eq_true rfl) ⟨by decide, by decide⟩ ⟨by decide, by decide⟩ dL_low_4) hZ.2.2 (fun q _ h => zAin hZ q h) (zAin hZ) (fun q _ h => zAin hZ q h) ?_ ?_
  · intro E1 ce q9 w t H1 locs1 ht _ hw hB _ _ hS hce hcv hcl
    obtain ⟨hE, hB⟩ := hB
    have hr : r = (w.1, .inl w.2) := hw
    have hZ1 := zSw_of (cO := cO) (qo := qo) (v := v) hZ0 hO hap (zS_call hZ ht hB hS)
    have hk := he _ _ hr
    have hE1 : E1 = "java/lang/IllegalArgumentException" := by rw [hE, hk]; rfl
    subst hE1
    refine zcatch E.1.2.2.2.1 [] (⟨0, 9, 12, 13⟩ : ExceptionTableEntry) [] htab (fun z hz => by simp at hz) rfl (by decide) (E.w kw_575) (va_Nw.use rfl (E.2.2.1 _ kz_708)) hce hcv hcl ?_
    refine lv_astore_n (lv' := [(3, .ref q9), (0, .ref (g.2.2 0)), (1, .int x1), (2, .ref qo)]) hx hb dL_low_12 rfl hl (by decide) rfl (fun ls hl => ?_)
    refine lv_iconst (v := 1) hx hb dL_low_13 (by decide) ?_
    exact zwret B.returns hlocks E hZ1 (by rw [hr]; simp [zwr, hk]) (by decide) (by decide) dL_low_14
  · intro x M1 t H1 locs1 ht _ hp hB _ _ hS
    have hr : r = (M1, .inr x) := hp
    have hZ1 := zSw_of (cO := cO) (qo := qo) (v := v) hZ0 hO hap (zS_call hZ ht hB hS)
    refine lv_i2l hx hb dL_low_7 rfl ?_
    refine zlast E hKo hZ1 dL_low_8 (fun H locs hZ2 => ?_)
    refine lv_goto (tgt := 15) hx hb dL_low_9 (by decide) ?_
    refine lv_iconst (v := 0) hx hb dL_low_15 (by decide) ?_
    exact zwret B.returns hlocks E hZ2 (by rw [hr]; rfl) (by decide) (by decide) dL_low_16
set_option maxRecDepth 100000 in
set_option maxHeartbeats 4000000 in
theorem cw_L_dry (l : Launch) (hst : l.stackTraces = false) (g : zG) (cO : ClassId) (qo : Nat) (M : zM) (v : Int64) (x1 : Int32) (x2 : Int32) {r : zT1} (h : f_X10_dry M x1 x2 = some r) (he : ∀ (M1 : zM) (k : Nat), r = (M1, .inl k) → k = 0 ∨ k = 1) : zMw l g cO qo yL_dry (zWsH yL_dry cL_dry 5 (some .int) [(0, 10, 13, 24), (0, 10, 17, 13)]) 11 2 [.ref (g.2.2 0), .int x1, .int x2, .ref qo] M v (zwr r (fun k => if k = 0 then 1 else 2) (fun x => x.toInt64) v) := by
  intro sz
  refine zofWH (cc := cL_dry) (maxL := 5) (ret := some .int) (hh := [(0, 10, 13, 24), (0, 10, 17, 13)]) (by decide +kernel) rfl ?_
  intro p e s m args below meth c s₁ B hml hv
  obtain ⟨⟨hv, hT⟩, hO, hKo, hap, hNc⟩ := hv
  obtain ⟨rfl, rfl, E, hZ, htab⟩ := z_entryH B hml hv
  have hlocks := B.notSynchronized
  have hx := E.1.1
  have hb := E.1.2.1
  have hl := lv_entry [.ref (g.2.2 0), .int x1, .int x2, .ref qo] (n := 5) (Nat.le_of_ble_eq_true rfl)
  rw [lg_entry_eq]
  show W p l e (zrm 11 2 (6 * 2)) s m _ below meth c s.heap [] 0 0 _ _
  generalize (lg_sl [.ref (g.2.2 0), .int x1, .int x2, .ref qo] ++ List.replicate (5 - (lg_sl [.ref (g.2.2 0), .int x1, .int x2, .ref qo]).length) Slot.unset).toArray = ls at hl ⊢
  have hl : lv_has ls 5 [(0, .ref (g.2.2 0)), (1, .int x1), (2, .int x2), (3, .ref qo)] := hl
  have hZ0 := hZ
  refine lv_aload_n hx hb dL_dry_0 rfl (lv_at hl 3 rfl) ?_
  refine lv_iconst (v := 0) hx hb dL_dry_1 (by decide) ?_
  refine lv_aload_n hx hb dL_dry_2 rfl (lv_at hl 0 rfl) ?_
  refine lv_iload_n hx hb dL_dry_3 rfl (lv_at hl 1 rfl) ?_
  refine lv_iload_n hx hb dL_dry_4 rfl (lv_at hl 2 rfl) ?_
  refine vx_calli (zrunVu (As := [.int x1, .int x2]) (rest := [.int 0, .ref qo]) E hT hZ (xb_X10 xs_0) (xe_X10 xs_0 _) rfl rfl v_X10_dry kw_1086 (c_X10_dry l hst g M x1 x2 h _) rfl hl.1 rfl (Nat.le_of_ble_eq_true rfl) ⟨by decide, by decide⟩ ⟨by decide, by decide⟩ dL_dry_5) hZ.2.2 (fun q _ h => zAin hZ q h) (zAin hZ) (fun q _ h => zAin hZ q h) ?_ ?_
  · intro E1 ce q9 w t H1 locs1 ht _ hw hB _ _ hS hce hcv hcl
    obtain ⟨hE, hB⟩ := hB
    have hr : r = (w.1, .inl w.2) := hw
    have hZ1 := zSw_of (cO := cO) (qo := qo) (v := v) hZ0 hO hap (zS_call hZ ht hB hS)
    rcases he _ _ hr with hk | hk
    · have hE1 : E1 = "java/lang/IndexOutOfBoundsException" := by rw [hE, hk]; rfl
      subst hE1
      refine zcatch E.1.2.2.2.1 [] (⟨0, 10, 13, 24⟩ : ExceptionTableEntry) [(⟨0, 10, 17, 13⟩ : ExceptionTableEntry)] htab (fun z hz => by simp at hz) rfl (by decide) (E.w kw_839) (va_Nw.use rfl (E.2.2.1 _ kz_850)) hce hcv hcl ?_
      refine lv_astore (lv' := [(4, .ref q9), (0, .ref (g.2.2 0)), (1, .int x1), (2, .int x2), (3, .ref qo)]) hx hb dL_dry_13 hl (by decide) rfl (fun ls hl => ?_)
      refine lv_iconst (v := 1) hx hb dL_dry_15 (by decide) ?_
      exact zwret B.returns hlocks E hZ1 (by rw [hr]; simp [zwr, hk]) (by decide) (by decide) dL_dry_16
    · have hE1 : E1 = "java/lang/IllegalArgumentException" := by rw [hE, hk]; rfl
      subst hE1
      refine zcatch E.1.2.2.2.1 [(⟨0, 10, 13, 24⟩ : ExceptionTableEntry)] (⟨0, 10, 17, 13⟩ : ExceptionTableEntry) [] htab (fun z hz => by rw [List.mem_singleton.mp hz]; exact Or.inr ⟨by decide, "java/lang/IndexOutOfBoundsException", E.w kw_839, hNc _ (List.mem_of_getElem? (i := 2) rfl)⟩) rfl (by decide) (E.w kw_575) (va_Nw.use rfl (E.2.2.1 _ kz_708)) hce hcv hcl ?_
      refine lv_astore (lv' := [(4, .ref q9), (0, .ref (g.2.2 0)), (1, .int x1), (2, .int x2), (3, .ref qo)]) hx hb dL_dry_17 hl (by decide) rfl (fun ls hl => ?_)
      refine lv_iconst (v := 2) hx hb dL_dry_19 (by decide) ?_
      exact zwret B.returns hlocks E hZ1 (by rw [hr]; simp [zwr, hk]) (by decide) (by decide) dL_dry_20
  · intro x M1 t H1 locs1 ht _ hp hB _ _ hS
    have hr : r = (M1, .inr x) := hp
    have hZ1 := zSw_of (cO := cO) (qo := qo) (v := v) hZ0 hO hap (zS_call hZ ht hB hS)
    refine lv_i2l hx hb dL_dry_8 rfl ?_
    refine zlast E hKo hZ1 dL_dry_9 (fun H locs hZ2 => ?_)
    refine lv_goto (tgt := 21) hx hb dL_dry_10 (by decide) ?_
    refine lv_iconst (v := 0) hx hb dL_dry_21 (by decide) ?_
    exact zwret B.returns hlocks E hZ2 (by rw [hr]; rfl) (by decide) (by decide) dL_dry_22
set_option maxRecDepth 100000 in
set_option maxHeartbeats 4000000 in
theorem cw_L_highest (l : Launch) (hst : l.stackTraces = false) (g : zG) (cO : ClassId) (qo : Nat) (M : zM) (v : Int64) (x1 : Int32) {r : zT1} (h : f_X10_highest M x1 = some r) (he : ∀ (M1 : zM) (k : Nat), r = (M1, .inl k) → k = 1) : zMw l g cO qo yL_highest (zWsH yL_highest cL_highest 4 (some .int) [(0, 9, 12, 13)]) 11 1 [.ref (g.2.2 0), .int x1, .ref qo] M v (zwr r (fun _ => 1) (fun x => x.toInt64) v) := by
  intro sz
  refine zofWH (cc := cL_highest) (maxL := 4) (ret := some .int) (hh := [(0, 9, 12, 13)]) (by decide +kernel) rfl ?_
  intro p e s m args below meth c s₁ B hml hv
  obtain ⟨⟨hv, hT⟩, hO, hKo, hap, hNc⟩ := hv
  obtain ⟨rfl, rfl, E, hZ, htab⟩ := z_entryH B hml hv
  have hlocks := B.notSynchronized
  have hx := E.1.1
  have hb := E.1.2.1
  have hl := lv_entry [.ref (g.2.2 0), .int x1, .ref qo] (n := 4) (Nat.le_of_ble_eq_true rfl)
  rw [lg_entry_eq]
  show W p l e (zrm 11 1 (6 * 1)) s m _ below meth c s.heap [] 0 0 _ _
  generalize (lg_sl [.ref (g.2.2 0), .int x1, .ref qo] ++ List.replicate (4 - (lg_sl [.ref (g.2.2 0), .int x1, .ref qo]).length) Slot.unset).toArray = ls at hl ⊢
  have hl : lv_has ls 4 [(0, .ref (g.2.2 0)), (1, .int x1), (2, .ref qo)] := hl
  have hZ0 := hZ
  refine lv_aload_n hx hb dL_highest_0 rfl (lv_at hl 2 rfl) ?_
  refine lv_iconst (v := 0) hx hb dL_highest_1 (by decide) ?_
  refine lv_aload_n hx hb dL_highest_2 rfl (lv_at hl 0 rfl) ?_
  refine lv_iload_n hx hb dL_highest_3 rfl (lv_at hl 1 rfl) ?_
  refine vx_calli (zrunVu (As := [.int x1]) (rest := [.int 0, .ref qo]) E hT hZ (xb_X10 xs_0) (xe_X10 xs_0 _) rfl rfl v_X10_highest kw_1109 (c_X10_highest l hst g M x1 h _) rfl hl.1 rfl (Nat.le_of_ble_eq_true rfl) ⟨by decide, by decide⟩ ⟨by decide, by decide⟩ dL_highest_4) hZ.2.2 (fun q _ h => zAin hZ q h) (zAin hZ) (fun q _ h => zAin hZ q h) ?_ ?_
  · intro E1 ce q9 w t H1 locs1 ht _ hw hB _ _ hS hce hcv hcl
    obtain ⟨hE, hB⟩ := hB
    have hr : r = (w.1, .inl w.2) := hw
    have hZ1 := zSw_of (cO := cO) (qo := qo) (v := v) hZ0 hO hap (zS_call hZ ht hB hS)
    have hk := he _ _ hr
    have hE1 : E1 = "java/lang/IllegalArgumentException" := by rw [hE, hk]; rfl
    subst hE1
    refine zcatch E.1.2.2.2.1 [] (⟨0, 9, 12, 13⟩ : ExceptionTableEntry) [] htab (fun z hz => by simp at hz) rfl (by decide) (E.w kw_575) (va_Nw.use rfl (E.2.2.1 _ kz_708)) hce hcv hcl ?_
    refine lv_astore_n (lv' := [(3, .ref q9), (0, .ref (g.2.2 0)), (1, .int x1), (2, .ref qo)]) hx hb dL_highest_12 rfl hl (by decide) rfl (fun ls hl => ?_)
    refine lv_iconst (v := 1) hx hb dL_highest_13 (by decide) ?_
    exact zwret B.returns hlocks E hZ1 (by rw [hr]; simp [zwr, hk]) (by decide) (by decide) dL_highest_14
  · intro x M1 t H1 locs1 ht _ hp hB _ _ hS
    have hr : r = (M1, .inr x) := hp
    have hZ1 := zSw_of (cO := cO) (qo := qo) (v := v) hZ0 hO hap (zS_call hZ ht hB hS)
    refine lv_i2l hx hb dL_highest_7 rfl ?_
    refine zlast E hKo hZ1 dL_highest_8 (fun H locs hZ2 => ?_)
    refine lv_goto (tgt := 15) hx hb dL_highest_9 (by decide) ?_
    refine lv_iconst (v := 0) hx hb dL_highest_15 (by decide) ?_
    exact zwret B.returns hlocks E hZ2 (by rw [hr]; rfl) (by decide) (by decide) dL_highest_16
set_option maxRecDepth 100000 in
set_option maxHeartbeats 4000000 in
theorem cw_L_way (l : Launch) (hst : l.stackTraces = false) (g : zG) (cO : ClassId) (qo : Nat) (M : zM) (v : Int64) (x1 : Int32) (x2 : Int32) (x3 : Int32) (x4 : Int32) (x5 : Int32) {r : zT1} (h : f_X10_way M x1 x2 x3 x4 x5 = some r) (he : ∀ (M1 : zM) (k : Nat), r = (M1, .inl k) → k = 0 ∨ k = 1) : zMw l g cO qo yL_way (zWsH yL_way cL_way 8 (some .int) [(0, 16, 19, 24), (0, 16, 23, 13)]) 11 5 [.ref (g.2.2 0), .int x1, .int x2, .int x3, .int x4, .int x5, .ref qo] M v (zwr r (fun k => if k = 0 then 1 else 2) (fun x => x.toInt64) v) := by
  intro sz
  refine zofWH (cc := cL_way) (maxL := 8) (ret := some .int) (hh := [(0, 16, 19, 24), (0, 16, 23, 13)]) (by decide +kernel) rfl ?_
  intro p e s m args below meth c s₁ B hml hv
  obtain ⟨⟨hv, hT⟩, hO, hKo, hap, hNc⟩ := hv
  obtain ⟨rfl, rfl, E, hZ, htab⟩ := z_entryH B hml hv
  have hlocks := B.notSynchronized
  have hx := E.1.1
  have hb := E.1.2.1
  have hl := lv_entry [.ref (g.2.2 0), .int x1, .int x2, .int x3, .int x4, .int x5, .ref qo] (n := 8) (Nat.le_of_ble_eq_true rfl)
  rw [lg_entry_eq]
  show W p l e (zrm 11 5 (6 * 5)) s m _ below meth c s.heap [] 0 0 _ _
  generalize (lg_sl [.ref (g.2.2 0), .int x1, .int x2, .int x3, .int x4, .int x5, .ref qo] ++ List.replicate (8 - (lg_sl [.ref (g.2.2 0), .int x1, .int x2, .int x3, .int x4, .int x5, .ref qo]).length) Slot.unset).toArray = ls at hl ⊢
  have hl : lv_has ls 8 [(0, .ref (g.2.2 0)), (1, .int x1), (2, .int x2), (3, .int x3), (4, .int x4), (5, .int x5), (6, .ref qo)] := hl
  have hZ0 := hZ
  refine lv_aload hx hb dL_way_0 (lv_at hl 6 rfl) ?_
  refine lv_iconst (v := 0) hx hb dL_way_2 (by decide) ?_
  refine lv_aload_n hx hb dL_way_3 rfl (lv_at hl 0 rfl) ?_
  refine lv_iload_n hx hb dL_way_4 rfl (lv_at hl 1 rfl) ?_
  refine lv_iload_n hx hb dL_way_5 rfl (lv_at hl 2 rfl) ?_
  refine lv_iload_n hx hb dL_way_6 rfl (lv_at hl 3 rfl) ?_
  refine lv_iload hx hb dL_way_7 (lv_at hl 4 rfl) ?_
  refine lv_iload hx hb dL_way_9 (lv_at hl 5 rfl) ?_
  refine vx_calli (zrunVu (As := [.int x1, .int x2, .int x3, .int x4, .int x5]) (rest := [.int 0, .ref qo]) E hT hZ (xb_X10 xs_0) (xe_X10 xs_0 _) rfl rfl v_X10_way kw_1116 (c_X10_way l hst g M x1 x2 x3 x4 x5 h _) rfl hl.1 rfl (Nat.le_of_ble_eq_true rfl) ⟨by decide, by decide⟩ ⟨by decide, by decide⟩ dL_way_11) hZ.2.2 (fun q _ h => zAin hZ q h) (zAin hZ) (fun q _ h => zAin hZ q h) ?_ ?_
  · intro E1 ce q9 w t H1 locs1 ht _ hw hB _ _ hS hce hcv hcl
    obtain ⟨hE, hB⟩ := hB
    have hr : r = (w.1, .inl w.2) := hw
    have hZ1 := zSw_of (cO := cO) (qo := qo) (v := v) hZ0 hO hap (zS_call hZ ht hB hS)
    rcases he _ _ hr with hk | hk
    · have hE1 : E1 = "java/lang/IndexOutOfBoundsException" := by rw [hE, hk]; rfl
      subst hE1
      refine zcatch E.1.2.2.2.1 [] (⟨0, 16, 19, 24⟩ : ExceptionTableEntry) [(⟨0, 16, 23, 13⟩ : ExceptionTableEntry)] htab (fun z hz => by simp at hz) rfl (by decide) (E.w kw_839) (va_Nw.use rfl (E.2.2.1 _ kz_850)) hce hcv hcl ?_
      refine lv_astore (lv' := [(7, .ref q9), (0, .ref (g.2.2 0)), (1, .int x1), (2, .int x2), (3, .int x3), (4, .int x4), (5, .int x5), (6, .ref qo)]) hx hb dL_way_19 hl (by decide) rfl (fun ls hl => ?_)
      refine lv_iconst (v := 1) hx hb dL_way_21 (by decide) ?_
      exact zwret B.returns hlocks E hZ1 (by rw [hr]; simp [zwr, hk]) (by decide) (by decide) dL_way_22
    · have hE1 : E1 = "java/lang/IllegalArgumentException" := by rw [hE, hk]; rfl
      subst hE1
      refine zcatch E.1.2.2.2.1 [(⟨0, 16, 19, 24⟩ : ExceptionTableEntry)] (⟨0, 16, 23, 13⟩ : ExceptionTableEntry) [] htab (fun z hz => by rw [List.mem_singleton.mp hz]; exact Or.inr ⟨by decide, "java/lang/IndexOutOfBoundsException", E.w kw_839, hNc _ (List.mem_of_getElem? (i := 2) rfl)⟩) rfl (by decide) (E.w kw_575) (va_Nw.use rfl (E.2.2.1 _ kz_708)) hce hcv hcl ?_
      refine lv_astore (lv' := [(7, .ref q9), (0, .ref (g.2.2 0)), (1, .int x1), (2, .int x2), (3, .int x3), (4, .int x4), (5, .int x5), (6, .ref qo)]) hx hb dL_way_23 hl (by decide) rfl (fun ls hl => ?_)
      refine lv_iconst (v := 2) hx hb dL_way_25 (by decide) ?_
      exact zwret B.returns hlocks E hZ1 (by rw [hr]; simp [zwr, hk]) (by decide) (by decide) dL_way_26
  · intro x M1 t H1 locs1 ht _ hp hB _ _ hS
    have hr : r = (M1, .inr x) := hp
    have hZ1 := zSw_of (cO := cO) (qo := qo) (v := v) hZ0 hO hap (zS_call hZ ht hB hS)
    refine lv_i2l hx hb dL_way_14 rfl ?_
    refine zlast E hKo hZ1 dL_way_15 (fun H locs hZ2 => ?_)
    refine lv_goto (tgt := 27) hx hb dL_way_16 (by decide) ?_
    refine lv_iconst (v := 0) hx hb dL_way_27 (by decide) ?_
    exact zwret B.returns hlocks E hZ2 (by rw [hr]; rfl) (by decide) (by decide) dL_way_28
set_option maxRecDepth 100000 in
set_option maxHeartbeats 4000000 in
theorem cw_L_start (l : Launch) (hst : l.stackTraces = false) (g : zG) (cO : ClassId) (qo : Nat) (M : zM) (v : Int64) (x1 : Int32) (x2 : Int32) (x3 : Int32) (x4 : Int32) (x5 : Int32) {r : zT1} (h : f_X10_start M x1 x2 x3 x4 x5 = some r) (he : ∀ (M1 : zM) (k : Nat), r = (M1, .inl k) → k = 0 ∨ k = 1) : zMw l g cO qo yL_start (zWsH yL_start cL_start 8 (some .int) [(0, 16, 19, 24), (0, 16, 23, 13)]) 11 5 [.ref (g.2.2 0), .int x1, .int x2, .int x3, .int x4, .int x5, .ref qo] M v (zwr r (fun k => if k = 0 then 1 else 2) (fun x => x.toInt64) v) := by
  intro sz
  refine zofWH (cc := cL_start) (maxL := 8) (ret := some .int) (hh := [(0, 16, 19, 24), (0, 16, 23, 13)]) (by decide +kernel) rfl ?_
  intro p e s m args below meth c s₁ B hml hv
  obtain ⟨⟨hv, hT⟩, hO, hKo, hap, hNc⟩ := hv
  obtain ⟨rfl, rfl, E, hZ, htab⟩ := z_entryH B hml hv
  have hlocks := B.notSynchronized
  have hx := E.1.1
  have hb := E.1.2.1
  have hl := lv_entry [.ref (g.2.2 0), .int x1, .int x2, .int x3, .int x4, .int x5, .ref qo] (n := 8) (Nat.le_of_ble_eq_true rfl)
  rw [lg_entry_eq]
  show W p l e (zrm 11 5 (6 * 5)) s m _ below meth c s.heap [] 0 0 _ _
  generalize (lg_sl [.ref (g.2.2 0), .int x1, .int x2, .int x3, .int x4, .int x5, .ref qo] ++ List.replicate (8 - (lg_sl [.ref (g.2.2 0), .int x1, .int x2, .int x3, .int x4, .int x5, .ref qo]).length) Slot.unset).toArray = ls at hl ⊢
  have hl : lv_has ls 8 [(0, .ref (g.2.2 0)), (1, .int x1), (2, .int x2), (3, .int x3), (4, .int x4), (5, .int x5), (6, .ref qo)] := hl
  have hZ0 := hZ
  refine lv_aload hx hb dL_start_0 (lv_at hl 6 rfl) ?_
  refine lv_iconst (v := 0) hx hb dL_start_2 (by decide) ?_
  refine lv_aload_n hx hb dL_start_3 rfl (lv_at hl 0 rfl) ?_
  refine lv_iload_n hx hb dL_start_4 rfl (lv_at hl 1 rfl) ?_
  refine lv_iload_n hx hb dL_start_5 rfl (lv_at hl 2 rfl) ?_
  refine lv_iload_n hx hb dL_start_6 rfl (lv_at hl 3 rfl) ?_
  refine lv_iload hx hb dL_start_7 (lv_at hl 4 rfl) ?_
  refine lv_iload hx hb dL_start_9 (lv_at hl 5 rfl) ?_
  refine vx_calli (zrunVu (As := [.int x1, .int x2, .int x3, .int x4, .int x5]) (rest := [.int 0, .ref qo]) E hT hZ (xb_X10 xs_0) (xe_X10 xs_0 _) rfl rfl v_X10_start kw_1129 (c_X10_start l hst g M x1 x2 x3 x4 x5 h _) rfl hl.1 rfl (Nat.le_of_ble_eq_true rfl) ⟨by decide, by decide⟩ ⟨by decide, by decide⟩ dL_start_11) hZ.2.2 (fun q _ h => zAin hZ q h) (zAin hZ) (fun q _ h => zAin hZ q h) ?_ ?_
  · intro E1 ce q9 w t H1 locs1 ht _ hw hB _ _ hS hce hcv hcl
    obtain ⟨hE, hB⟩ := hB
    have hr : r = (w.1, .inl w.2) := hw
    have hZ1 := zSw_of (cO := cO) (qo := qo) (v := v) hZ0 hO hap (zS_call hZ ht hB hS)
    rcases he _ _ hr with hk | hk
    · have hE1 : E1 = "java/lang/IndexOutOfBoundsException" := by rw [hE, hk]; rfl
      subst hE1
      refine zcatch E.1.2.2.2.1 [] (⟨0, 16, 19, 24⟩ : ExceptionTableEntry) [(⟨0, 16, 23, 13⟩ : ExceptionTableEntry)] htab (fun z hz => by simp at hz) rfl (by decide) (E.w kw_839) (va_Nw.use rfl (E.2.2.1 _ kz_850)) hce hcv hcl ?_
      refine lv_astore (lv' := [(7, .ref q9), (0, .ref (g.2.2 0)), (1, .int x1), (2, .int x2), (3, .int x3), (4, .int x4), (5, .int x5), (6, .ref qo)]) hx hb dL_start_19 hl (by decide) rfl (fun ls hl => ?_)
      refine lv_iconst (v := 1) hx hb dL_start_21 (by decide) ?_
      exact zwret B.returns hlocks E hZ1 (by rw [hr]; simp [zwr, hk]) (by decide) (by decide) dL_start_22
    · have hE1 : E1 = "java/lang/IllegalArgumentException" := by rw [hE, hk]; rfl
      subst hE1
      refine zcatch E.1.2.2.2.1 [(⟨0, 16, 19, 24⟩ : ExceptionTableEntry)] (⟨0, 16, 23, 13⟩ : ExceptionTableEntry) [] htab (fun z hz => by rw [List.mem_singleton.mp hz]; exact Or.inr ⟨by decide, "java/lang/IndexOutOfBoundsException", E.w kw_839, hNc _ (List.mem_of_getElem? (i := 2) rfl)⟩) rfl (by decide) (E.w kw_575) (va_Nw.use rfl (E.2.2.1 _ kz_708)) hce hcv hcl ?_
      refine lv_astore (lv' := [(7, .ref q9), (0, .ref (g.2.2 0)), (1, .int x1), (2, .int x2), (3, .int x3), (4, .int x4), (5, .int x5), (6, .ref qo)]) hx hb dL_start_23 hl (by decide) rfl (fun ls hl => ?_)
      refine lv_iconst (v := 2) hx hb dL_start_25 (by decide) ?_
      exact zwret B.returns hlocks E hZ1 (by rw [hr]; simp [zwr, hk]) (by decide) (by decide) dL_start_26
  · intro x M1 t H1 locs1 ht _ hp hB _ _ hS
    have hr : r = (M1, .inr x) := hp
    have hZ1 := zSw_of (cO := cO) (qo := qo) (v := v) hZ0 hO hap (zS_call hZ ht hB hS)
    refine lv_i2l hx hb dL_start_14 rfl ?_
    refine zlast E hKo hZ1 dL_start_15 (fun H locs hZ2 => ?_)
    refine lv_goto (tgt := 27) hx hb dL_start_16 (by decide) ?_
    refine lv_iconst (v := 0) hx hb dL_start_27 (by decide) ?_
    exact zwret B.returns hlocks E hZ2 (by rw [hr]; rfl) (by decide) (by decide) dL_start_28
set_option maxRecDepth 100000 in
set_option maxHeartbeats 4000000 in
theorem cw_L_safe (l : Launch) (hst : l.stackTraces = false) (g : zG) (cO : ClassId) (qo : Nat) (M : zM) (v : Int64) (x1 : Int32) (x2 : Int32) (x3 : Int32) (x4 : Int32) {r : zT1} (h : f_X10_safe M x1 x2 x3 x4 = some r) (he : ∀ (M1 : zM) (k : Nat), r = (M1, .inl k) → k = 0 ∨ k = 1) : zMw l g cO qo yL_safe (zWsH yL_safe cL_safe 7 (some .int) [(0, 14, 17, 24), (0, 14, 21, 13)]) 11 5 [.ref (g.2.2 0), .int x1, .int x2, .int x3, .int x4, .ref qo] M v (zwr r (fun k => if k = 0 then 1 else 2) (fun x => x.toInt64) v) := by
  intro sz
  refine zofWH (cc := cL_safe) (maxL := 7) (ret := some .int) (hh := [(0, 14, 17, 24), (0, 14, 21, 13)]) (by decide +kernel) rfl ?_
  intro p e s m args below meth c s₁ B hml hv
  obtain ⟨⟨hv, hT⟩, hO, hKo, hap, hNc⟩ := hv
  obtain ⟨rfl, rfl, E, hZ, htab⟩ := z_entryH B hml hv
  have hlocks := B.notSynchronized
  have hx := E.1.1
  have hb := E.1.2.1
  have hl := lv_entry [.ref (g.2.2 0), .int x1, .int x2, .int x3, .int x4, .ref qo] (n := 7) (Nat.le_of_ble_eq_true rfl)
  rw [lg_entry_eq]
  show W p l e (zrm 11 5 (6 * 5)) s m _ below meth c s.heap [] 0 0 _ _
  generalize (lg_sl [.ref (g.2.2 0), .int x1, .int x2, .int x3, .int x4, .ref qo] ++ List.replicate (7 - (lg_sl [.ref (g.2.2 0), .int x1, .int x2, .int x3, .int x4, .ref qo]).length) Slot.unset).toArray = ls at hl ⊢
  have hl : lv_has ls 7 [(0, .ref (g.2.2 0)), (1, .int x1), (2, .int x2), (3, .int x3), (4, .int x4), (5, .ref qo)] := hl
  have hZ0 := hZ
  refine lv_aload hx hb dL_safe_0 (lv_at hl 5 rfl) ?_
  refine lv_iconst (v := 0) hx hb dL_safe_2 (by decide) ?_
  refine lv_aload_n hx hb dL_safe_3 rfl (lv_at hl 0 rfl) ?_
  refine lv_iload_n hx hb dL_safe_4 rfl (lv_at hl 1 rfl) ?_
  refine lv_iload_n hx hb dL_safe_5 rfl (lv_at hl 2 rfl) ?_
  refine lv_iload_n hx hb dL_safe_6 rfl (lv_at hl 3 rfl) ?_
  refine lv_iload hx hb dL_safe_7 (lv_at hl 4 rfl) ?_
  refine vx_calli (zrunVu (As := [.int x1, .int x2, .int x3, .int x4]) (rest := [.int 0, .ref qo]) E hT hZ (xb_X10 xs_0) (xe_X10 xs_0 _) rfl rfl v_X10_safe kw_1136 (c_X10_safe l hst g M x1 x2 x3 x4 h _) rfl hl.1 rfl (Nat.le_of_ble_eq_true rfl) ⟨by decide, by decide⟩ ⟨by decide, by decide⟩ dL_safe_9) hZ.2.2 (fun q _ h => zAin hZ q h) (zAin hZ) (fun q _ h => zAin hZ q h) ?_ ?_
  · intro E1 ce q9 w t H1 locs1 ht _ hw hB _ _ hS hce hcv hcl
    obtain ⟨hE, hB⟩ := hB
    have hr : r = (w.1, .inl w.2) := hw
    have hZ1 := zSw_of (cO := cO) (qo := qo) (v := v) hZ0 hO hap (zS_call hZ ht hB hS)
    rcases he _ _ hr with hk | hk
    · have hE1 : E1 = "java/lang/IndexOutOfBoundsException" := by rw [hE, hk]; rfl
      subst hE1
      refine zcatch E.1.2.2.2.1 [] (⟨0, 14, 17, 24⟩ : ExceptionTableEntry) [(⟨0, 14, 21, 13⟩ : ExceptionTableEntry)] htab (fun z hz => by simp at hz) rfl (by decide) (E.w kw_839) (va_Nw.use rfl (E.2.2.1 _ kz_850)) hce hcv hcl ?_
      refine lv_astore (lv' := [(6, .ref q9), (0, .ref (g.2.2 0)), (1, .int x1), (2, .int x2), (3, .int x3), (4, .int x4), (5, .ref qo)]) hx hb dL_safe_17 hl (by decide) rfl (fun ls hl => ?_)
      refine lv_iconst (v := 1) hx hb dL_safe_19 (by decide) ?_
      exact zwret B.returns hlocks E hZ1 (by rw [hr]; simp [zwr, hk]) (by decide) (by decide) dL_safe_20
    · have hE1 : E1 = "java/lang/IllegalArgumentException" := by rw [hE, hk]; rfl
      subst hE1
      refine zcatch E.1.2.2.2.1 [(⟨0, 14, 17, 24⟩ : ExceptionTableEntry)] (⟨0, 14, 21, 13⟩ : ExceptionTableEntry) [] htab (fun z hz => by rw [List.mem_singleton.mp hz]; exact Or.inr ⟨by decide, "java/lang/IndexOutOfBoundsException", E.w kw_839, hNc _ (List.mem_of_getElem? (i := 2) rfl)⟩) rfl (by decide) (E.w kw_575) (va_Nw.use rfl (E.2.2.1 _ kz_708)) hce hcv hcl ?_
      refine lv_astore (lv' := [(6, .ref q9), (0, .ref (g.2.2 0)), (1, .int x1), (2, .int x2), (3, .int x3), (4, .int x4), (5, .ref qo)]) hx hb dL_safe_21 hl (by decide) rfl (fun ls hl => ?_)
      refine lv_iconst (v := 2) hx hb dL_safe_23 (by decide) ?_
      exact zwret B.returns hlocks E hZ1 (by rw [hr]; simp [zwr, hk]) (by decide) (by decide) dL_safe_24
  · intro x M1 t H1 locs1 ht _ hp hB _ _ hS
    have hr : r = (M1, .inr x) := hp
    have hZ1 := zSw_of (cO := cO) (qo := qo) (v := v) hZ0 hO hap (zS_call hZ ht hB hS)
    refine lv_i2l hx hb dL_safe_12 rfl ?_
    refine zlast E hKo hZ1 dL_safe_13 (fun H locs hZ2 => ?_)
    refine lv_goto (tgt := 25) hx hb dL_safe_14 (by decide) ?_
    refine lv_iconst (v := 0) hx hb dL_safe_25 (by decide) ?_
    exact zwret B.returns hlocks E hZ2 (by rw [hr]; rfl) (by decide) (by decide) dL_safe_26
set_option maxRecDepth 100000 in
set_option maxHeartbeats 4000000 in
theorem cw_L_fetch (l : Launch) (hst : l.stackTraces = false) (g : zG) (cO : ClassId) (qo : Nat) (M : zM) (v : Int64) (x1 : Int32) {r : zT1} (h : f_X10_fetch M x1 = some r) (he : ∀ (M1 : zM) (k : Nat), r = (M1, .inl k) → k = 0) : zMw l g cO qo yL_fetch (zWsH yL_fetch cL_fetch 4 (some .int) [(0, 9, 12, 24)]) 11 1 [.ref (g.2.2 0), .int x1, .ref qo] M v (zwr r (fun _ => 1) (fun x => x.toInt64) v) := by
  intro sz
  refine zofWH (cc := cL_fetch) (maxL := 4) (ret := some .int) (hh := [(0, 9, 12, 24)]) (by decide +kernel) rfl ?_
  intro p e s m args below meth c s₁ B hml hv
  obtain ⟨⟨hv, hT⟩, hO, hKo, hap, hNc⟩ := hv
  obtain ⟨rfl, rfl, E, hZ, htab⟩ := z_entryH B hml hv
  have hlocks := B.notSynchronized
  have hx := E.1.1
  have hb := E.1.2.1
  have hl := lv_entry [.ref (g.2.2 0), .int x1, .ref qo] (n := 4) (Nat.le_of_ble_eq_true rfl)
  rw [lg_entry_eq]
  show W p l e (zrm 11 1 (6 * 1)) s m _ below meth c s.heap [] 0 0 _ _
  generalize (lg_sl [.ref (g.2.2 0), .int x1, .ref qo] ++ List.replicate (4 - (lg_sl [.ref (g.2.2 0), .int x1, .ref qo]).length) Slot.unset).toArray = ls at hl ⊢
  have hl : lv_has ls 4 [(0, .ref (g.2.2 0)), (1, .int x1), (2, .ref qo)] := hl
  have hZ0 := hZ
  refine lv_aload_n hx hb dL_fetch_0 rfl (lv_at hl 2 rfl) ?_
  refine lv_iconst (v := 0) hx hb dL_fetch_1 (by decide) ?_
  refine lv_aload_n hx hb dL_fetch_2 rfl (lv_at hl 0 rfl) ?_
  refine lv_iload_n hx hb dL_fetch_3 rfl (lv_at hl 1 rfl) ?_
  refine vx_calli (zrunVu (As := [.int x1]) (rest := [.int 0, .ref qo]) E hT hZ (xb_X10 xs_0) (xe_X10 xs_0 _) rfl rfl v_X10_fetch kw_1143 (c_X10_fetch l hst g M x1 h _) rfl hl.1 rfl (Nat.le_of_ble_eq_true rfl) ⟨by decide, by decide⟩ ⟨by decide, by decide⟩ dL_fetch_4) hZ.2.2 (fun q _ h => zAin hZ q h) (zAin hZ) (fun q _ h => zAin hZ q h) ?_ ?_
  · intro E1 ce q9 w t H1 locs1 ht _ hw hB _ _ hS hce hcv hcl
    obtain ⟨hE, hB⟩ := hB
    have hr : r = (w.1, .inl w.2) := hw
    have hZ1 := zSw_of (cO := cO) (qo := qo) (v := v) hZ0 hO hap (zS_call hZ ht hB hS)
    have hk := he _ _ hr
    have hE1 : E1 = "java/lang/IndexOutOfBoundsException" := by rw [hE, hk]; rfl
    subst hE1
    refine zcatch E.1.2.2.2.1 [] (⟨0, 9, 12, 24⟩ : ExceptionTableEntry) [] htab (fun z hz => by simp at hz) rfl (by decide) (E.w kw_839) (va_Nw.use rfl (E.2.2.1 _ kz_850)) hce hcv hcl ?_
    refine lv_astore_n (lv' := [(3, .ref q9), (0, .ref (g.2.2 0)), (1, .int x1), (2, .ref qo)]) hx hb dL_fetch_12 rfl hl (by decide) rfl (fun ls hl => ?_)
    refine lv_iconst (v := 1) hx hb dL_fetch_13 (by decide) ?_
    exact zwret B.returns hlocks E hZ1 (by rw [hr]; simp [zwr, hk]) (by decide) (by decide) dL_fetch_14
  · intro x M1 t H1 locs1 ht _ hp hB _ _ hS
    have hr : r = (M1, .inr x) := hp
    have hZ1 := zSw_of (cO := cO) (qo := qo) (v := v) hZ0 hO hap (zS_call hZ ht hB hS)
    refine lv_i2l hx hb dL_fetch_7 rfl ?_
    refine zlast E hKo hZ1 dL_fetch_8 (fun H locs hZ2 => ?_)
    refine lv_goto (tgt := 15) hx hb dL_fetch_9 (by decide) ?_
    refine lv_iconst (v := 0) hx hb dL_fetch_15 (by decide) ?_
    exact zwret B.returns hlocks E hZ2 (by rw [hr]; rfl) (by decide) (by decide) dL_fetch_16
set_option maxRecDepth 100000 in
set_option maxHeartbeats 4000000 in
theorem cw_L_send (l : Launch) (hst : l.stackTraces = false) (g : zG) (cO : ClassId) (qo : Nat) (M : zM) (v : Int64) (x1 : Int32) {r : zT1} (h : f_X10_send M x1 = some r) (he : ∀ (M1 : zM) (k : Nat), r = (M1, .inl k) → k = 0 ∨ k = 1) : zMw l g cO qo yL_send (zWsH yL_send cL_send 4 (some .int) [(0, 9, 12, 24), (0, 9, 15, 13)]) 11 10 [.ref (g.2.2 0), .int x1, .ref qo] M v (zwr r (fun k => if k = 0 then 1 else 2) (fun x => x.toInt64) v) := by
  intro sz
  refine zofWH (cc := cL_send) (maxL := 4) (ret := some .int) (hh := [(0, 9, 12, 24), (0, 9, 15, 13)]) (by decide +kernel) rfl ?_
  intro p e s m args below meth c s₁ B hml hv
  obtain ⟨⟨hv, hT⟩, hO, hKo, hap, hNc⟩ := hv
  obtain ⟨rfl, rfl, E, hZ, htab⟩ := z_entryH B hml hv
  have hlocks := B.notSynchronized
  have hx := E.1.1
  have hb := E.1.2.1
  have hl := lv_entry [.ref (g.2.2 0), .int x1, .ref qo] (n := 4) (Nat.le_of_ble_eq_true rfl)
  rw [lg_entry_eq]
  show W p l e (zrm 11 10 (6 * 10)) s m _ below meth c s.heap [] 0 0 _ _
  generalize (lg_sl [.ref (g.2.2 0), .int x1, .ref qo] ++ List.replicate (4 - (lg_sl [.ref (g.2.2 0), .int x1, .ref qo]).length) Slot.unset).toArray = ls at hl ⊢
  have hl : lv_has ls 4 [(0, .ref (g.2.2 0)), (1, .int x1), (2, .ref qo)] := hl
  have hZ0 := hZ
  refine lv_aload_n hx hb dL_send_0 rfl (lv_at hl 2 rfl) ?_
  refine lv_iconst (v := 0) hx hb dL_send_1 (by decide) ?_
  refine lv_aload_n hx hb dL_send_2 rfl (lv_at hl 0 rfl) ?_
  refine lv_iload_n hx hb dL_send_3 rfl (lv_at hl 1 rfl) ?_
  refine vx_calli (zrunVu (As := [.int x1]) (rest := [.int 0, .ref qo]) E hT hZ (xb_X10 xs_0) (xe_X10 xs_0 _) rfl rfl v_X10_send kw_1156 (c_X10_send l hst g M x1 h _) rfl hl.1 rfl (Nat.le_of_ble_eq_true rfl) ⟨by decide, by decide⟩ ⟨by decide, by decide⟩ dL_send_4) hZ.2.2 (fun q _ h => zAin hZ q h) (zAin hZ) (fun q _ h => zAin hZ q h) ?_ ?_
  · intro E1 ce q9 w t H1 locs1 ht _ hw hB _ _ hS hce hcv hcl
    obtain ⟨hE, hB⟩ := hB
    have hr : r = (w.1, .inl w.2) := hw
    have hZ1 := zSw_of (cO := cO) (qo := qo) (v := v) hZ0 hO hap (zS_call hZ ht hB hS)
    rcases he _ _ hr with hk | hk
    · have hE1 : E1 = "java/lang/IndexOutOfBoundsException" := by rw [hE, hk]; rfl
      subst hE1
      refine zcatch E.1.2.2.2.1 [] (⟨0, 9, 12, 24⟩ : ExceptionTableEntry) [(⟨0, 9, 15, 13⟩ : ExceptionTableEntry)] htab (fun z hz => by simp at hz) rfl (by decide) (E.w kw_839) (va_Nw.use rfl (E.2.2.1 _ kz_850)) hce hcv hcl ?_
      refine lv_astore_n (lv' := [(3, .ref q9), (0, .ref (g.2.2 0)), (1, .int x1), (2, .ref qo)]) hx hb dL_send_12 rfl hl (by decide) rfl (fun ls hl => ?_)
      refine lv_iconst (v := 1) hx hb dL_send_13 (by decide) ?_
      exact zwret B.returns hlocks E hZ1 (by rw [hr]; simp [zwr, hk]) (by decide) (by decide) dL_send_14
    · have hE1 : E1 = "java/lang/IllegalArgumentException" := by rw [hE, hk]; rfl
      subst hE1
      refine zcatch E.1.2.2.2.1 [(⟨0, 9, 12, 24⟩ : ExceptionTableEntry)] (⟨0, 9, 15, 13⟩ : ExceptionTableEntry) [] htab (fun z hz => by rw [List.mem_singleton.mp hz]; exact Or.inr ⟨by decide, "java/lang/IndexOutOfBoundsException", E.w kw_839, hNc _ (List.mem_of_getElem? (i := 2) rfl)⟩) rfl (by decide) (E.w kw_575) (va_Nw.use rfl (E.2.2.1 _ kz_708)) hce hcv hcl ?_
      refine lv_astore_n (lv' := [(3, .ref q9), (0, .ref (g.2.2 0)), (1, .int x1), (2, .ref qo)]) hx hb dL_send_15 rfl hl (by decide) rfl (fun ls hl => ?_)
      refine lv_iconst (v := 2) hx hb dL_send_16 (by decide) ?_
      exact zwret B.returns hlocks E hZ1 (by rw [hr]; simp [zwr, hk]) (by decide) (by decide) dL_send_17
  · intro x M1 t H1 locs1 ht _ hp hB _ _ hS
    have hr : r = (M1, .inr x) := hp
    have hZ1 := zSw_of (cO := cO) (qo := qo) (v := v) hZ0 hO hap (zS_call hZ ht hB hS)
    refine lv_i2l hx hb dL_send_7 rfl ?_
    refine zlast E hKo hZ1 dL_send_8 (fun H locs hZ2 => ?_)
    refine lv_goto (tgt := 18) hx hb dL_send_9 (by decide) ?_
    refine lv_iconst (v := 0) hx hb dL_send_18 (by decide) ?_
    exact zwret B.returns hlocks E hZ2 (by rw [hr]; rfl) (by decide) (by decide) dL_send_19
set_option maxRecDepth 100000 in
set_option maxHeartbeats 4000000 in
theorem cw_L_most (l : Launch) (hst : l.stackTraces = false) (g : zG) (cO : ClassId) (qo : Nat) (M : zM) (v : Int64) (x1 : Int32) (x2 : Int32) {r : zT1} (h : f_X10_most M x1 x2 = some r) (he : ∀ (M1 : zM) (k : Nat), r = (M1, .inl k) → k = 0) : zMw l g cO qo yL_most (zWsH yL_most cL_most 5 (some .int) [(0, 10, 13, 24)]) 85 1 [.ref (g.2.2 0), .int x1, .int x2, .ref qo] M v (zwr r (fun _ => 1) (fun x => x.toInt64) v) := by
  intro sz
  refine zofWH (cc := cL_most) (maxL := 5) (ret := some .int) (hh := [(0, 10, 13, 24)]) (by decide +kernel) rfl ?_
  intro p e s m args below meth c s₁ B hml hv
  obtain ⟨⟨hv, hT⟩, hO, hKo, hap, hNc⟩ := hv
  obtain ⟨rfl, rfl, E, hZ, htab⟩ := z_entryH B hml hv
  have hlocks := B.notSynchronized
  have hx := E.1.1
  have hb := E.1.2.1
  have hl := lv_entry [.ref (g.2.2 0), .int x1, .int x2, .ref qo] (n := 5) (Nat.le_of_ble_eq_true rfl)
  rw [lg_entry_eq]
  show W p l e (zrm 85 1 (6 * 1)) s m _ below meth c s.heap [] 0 0 _ _
  generalize (lg_sl [.ref (g.2.2 0), .int x1, .int x2, .ref qo] ++ List.replicate (5 - (lg_sl [.ref (g.2.2 0), .int x1, .int x2, .ref qo]).length) Slot.unset).toArray = ls at hl ⊢
  have hl : lv_has ls 5 [(0, .ref (g.2.2 0)), (1, .int x1), (2, .int x2), (3, .ref qo)] := hl
  have hZ0 := hZ
  refine lv_aload_n hx hb dL_most_0 rfl (lv_at hl 3 rfl) ?_
  refine lv_iconst (v := 0) hx hb dL_most_1 (by decide) ?_
  refine lv_aload_n hx hb dL_most_2 rfl (lv_at hl 0 rfl) ?_
  refine lv_iload_n hx hb dL_most_3 rfl (lv_at hl 1 rfl) ?_
  refine lv_iload_n hx hb dL_most_4 rfl (lv_at hl 2 rfl) ?_
  refine vx_calli (zrunVu (As := [.int x1, .int x2]) (rest := [.int 0, .ref qo]) E hT hZ (xb_X10 xs_0) (xe_X10 xs_0 _) rfl rfl v_X10_most kw_1201 (c_X10_most l hst g M x1 x2 h _) rfl hl.1 rfl (Nat.le_of_ble_eq_true rfl) ⟨by decide, by decide⟩ ⟨by decide, by decide⟩ dL_most_5) hZ.2.2 (fun q _ h => zAin hZ q h) (zAin hZ) (fun q _ h => zAin hZ q h) ?_ ?_
  · intro E1 ce q9 w t H1 locs1 ht _ hw hB _ _ hS hce hcv hcl
    obtain ⟨hE, hB⟩ := hB
    have hr : r = (w.1, .inl w.2) := hw
    have hZ1 := zSw_of (cO := cO) (qo := qo) (v := v) hZ0 hO hap (zS_call hZ ht hB hS)
    have hk := he _ _ hr
    have hE1 : E1 = "java/lang/IndexOutOfBoundsException" := by rw [hE, hk]; rfl
    subst hE1
    refine zcatch E.1.2.2.2.1 [] (⟨0, 10, 13, 24⟩ : ExceptionTableEntry) [] htab (fun z hz => by simp at hz) rfl (by decide) (E.w kw_839) (va_Nw.use rfl (E.2.2.1 _ kz_850)) hce hcv hcl ?_
    refine lv_astore (lv' := [(4, .ref q9), (0, .ref (g.2.2 0)), (1, .int x1), (2, .int x2), (3, .ref qo)]) hx hb dL_most_13 hl (by decide) rfl (fun ls hl => ?_)
    refine lv_iconst (v := 1) hx hb dL_most_15 (by decide) ?_
    exact zwret B.returns hlocks E hZ1 (by rw [hr]; simp [zwr, hk]) (by decide) (by decide) dL_most_16
  · intro x M1 t H1 locs1 ht _ hp hB _ _ hS
    have hr : r = (M1, .inr x) := hp
    have hZ1 := zSw_of (cO := cO) (qo := qo) (v := v) hZ0 hO hap (zS_call hZ ht hB hS)
    refine lv_i2l hx hb dL_most_8 rfl ?_
    refine zlast E hKo hZ1 dL_most_9 (fun H locs hZ2 => ?_)
    refine lv_goto (tgt := 17) hx hb dL_most_10 (by decide) ?_
    refine lv_iconst (v := 0) hx hb dL_most_17 (by decide) ?_
    exact zwret B.returns hlocks E hZ2 (by rw [hr]; rfl) (by decide) (by decide) dL_most_18
set_option maxRecDepth 100000 in
set_option maxHeartbeats 4000000 in
theorem cw_L_came (l : Launch) (hst : l.stackTraces = false) (g : zG) (cO : ClassId) (qo : Nat) (M : zM) (v : Int64) (x1 : Int32) {r : zT1} (h : f_X10_came M x1 = some r) (he : ∀ (M1 : zM) (k : Nat), r = (M1, .inl k) → k = 1) : zMw l g cO qo yL_came (zWsH yL_came cL_came 4 (some .int) [(0, 9, 12, 13)]) 12 46 [.ref (g.2.2 0), .int x1, .ref qo] M v (zwr r (fun _ => 1) (fun x => x.toInt64) v) := by
  intro sz
  refine zofWH (cc := cL_came) (maxL := 4) (ret := some .int) (hh := [(0, 9, 12, 13)]) (by decide +kernel) rfl ?_
  intro p e s m args below meth c s₁ B hml hv
  obtain ⟨⟨hv, hT⟩, hO, hKo, hap, hNc⟩ := hv
  obtain ⟨rfl, rfl, E, hZ, htab⟩ := z_entryH B hml hv
  have hlocks := B.notSynchronized
  have hx := E.1.1
  have hb := E.1.2.1
  have hl := lv_entry [.ref (g.2.2 0), .int x1, .ref qo] (n := 4) (Nat.le_of_ble_eq_true rfl)
  rw [lg_entry_eq]
  show W p l e (zrm 12 46 (6 * 46)) s m _ below meth c s.heap [] 0 0 _ _
  generalize (lg_sl [.ref (g.2.2 0), .int x1, .ref qo] ++ List.replicate (4 - (lg_sl [.ref (g.2.2 0), .int x1, .ref qo]).length) Slot.unset).toArray = ls at hl ⊢
  have hl : lv_has ls 4 [(0, .ref (g.2.2 0)), (1, .int x1), (2, .ref qo)] := hl
  have hZ0 := hZ
  refine lv_aload_n hx hb dL_came_0 rfl (lv_at hl 2 rfl) ?_
  refine lv_iconst (v := 0) hx hb dL_came_1 (by decide) ?_
  refine lv_aload_n hx hb dL_came_2 rfl (lv_at hl 0 rfl) ?_
  refine lv_iload_n hx hb dL_came_3 rfl (lv_at hl 1 rfl) ?_
  refine vx_calli (zrunVu (As := [.int x1]) (rest := [.int 0, .ref qo]) E hT hZ (xb_X10 xs_0) (xe_X10 xs_0 _) rfl rfl v_X10_came kw_1225 (c_X10_came l hst g M x1 h _) rfl hl.1 rfl (Nat.le_of_ble_eq_true rfl) ⟨by decide, by decide⟩ ⟨by decide, by decide⟩ dL_came_4) hZ.2.2 (fun q _ h => zAin hZ q h) (zAin hZ) (fun q _ h => zAin hZ q h) ?_ ?_
  · intro E1 ce q9 w t H1 locs1 ht _ hw hB _ _ hS hce hcv hcl
    obtain ⟨hE, hB⟩ := hB
    have hr : r = (w.1, .inl w.2) := hw
    have hZ1 := zSw_of (cO := cO) (qo := qo) (v := v) hZ0 hO hap (zS_call hZ ht hB hS)
    have hk := he _ _ hr
    have hE1 : E1 = "java/lang/IllegalArgumentException" := by rw [hE, hk]; rfl
    subst hE1
    refine zcatch E.1.2.2.2.1 [] (⟨0, 9, 12, 13⟩ : ExceptionTableEntry) [] htab (fun z hz => by simp at hz) rfl (by decide) (E.w kw_575) (va_Nw.use rfl (E.2.2.1 _ kz_708)) hce hcv hcl ?_
    refine lv_astore_n (lv' := [(3, .ref q9), (0, .ref (g.2.2 0)), (1, .int x1), (2, .ref qo)]) hx hb dL_came_12 rfl hl (by decide) rfl (fun ls hl => ?_)
    refine lv_iconst (v := 1) hx hb dL_came_13 (by decide) ?_
    exact zwret B.returns hlocks E hZ1 (by rw [hr]; simp [zwr, hk]) (by decide) (by decide) dL_came_14
  · intro x M1 t H1 locs1 ht _ hp hB _ _ hS
    have hr : r = (M1, .inr x) := hp
    have hZ1 := zSw_of (cO := cO) (qo := qo) (v := v) hZ0 hO hap (zS_call hZ ht hB hS)
    refine lv_i2l hx hb dL_came_7 rfl ?_
    refine zlast E hKo hZ1 dL_came_8 (fun H locs hZ2 => ?_)
    refine lv_goto (tgt := 15) hx hb dL_came_9 (by decide) ?_
    refine lv_iconst (v := 0) hx hb dL_came_15 (by decide) ?_
    exact zwret B.returns hlocks E hZ2 (by rw [hr]; rfl) (by decide) (by decide) dL_came_16
set_option maxRecDepth 100000 in
set_option maxHeartbeats 4000000 in
theorem cw_L_amends (l : Launch) (hst : l.stackTraces = false) (g : zG) (cO : ClassId) (qo : Nat) (M : zM) (v : Int64) (x1 : Int32) {r : zT1} (h : f_X10_amends M x1 = some r) (he : ∀ (M1 : zM) (k : Nat), r = (M1, .inl k) → k = 1) : zMw l g cO qo yL_amends (zWsH yL_amends cL_amends 4 (some .int) [(0, 9, 12, 13)]) 12 46 [.ref (g.2.2 0), .int x1, .ref qo] M v (zwr r (fun _ => 1) (fun x => x.toInt64) v) := by
  intro sz
  refine zofWH (cc := cL_amends) (maxL := 4) (ret := some .int) (hh := [(0, 9, 12, 13)]) (by decide +kernel) rfl ?_
  intro p e s m args below meth c s₁ B hml hv
  obtain ⟨⟨hv, hT⟩, hO, hKo, hap, hNc⟩ := hv
  obtain ⟨rfl, rfl, E, hZ, htab⟩ := z_entryH B hml hv
  have hlocks := B.notSynchronized
  have hx := E.1.1
  have hb := E.1.2.1
  have hl := lv_entry [.ref (g.2.2 0), .int x1, .ref qo] (n := 4) (Nat.le_of_ble_eq_true rfl)
  rw [lg_entry_eq]
  show W p l e (zrm 12 46 (6 * 46)) s m _ below meth c s.heap [] 0 0 _ _
  generalize (lg_sl [.ref (g.2.2 0), .int x1, .ref qo] ++ List.replicate (4 - (lg_sl [.ref (g.2.2 0), .int x1, .ref qo]).length) Slot.unset).toArray = ls at hl ⊢
  have hl : lv_has ls 4 [(0, .ref (g.2.2 0)), (1, .int x1), (2, .ref qo)] := hl
  have hZ0 := hZ
  refine lv_aload_n hx hb dL_amends_0 rfl (lv_at hl 2 rfl) ?_
  refine lv_iconst (v := 0) hx hb dL_amends_1 (by decide) ?_
  refine lv_aload_n hx hb dL_amends_2 rfl (lv_at hl 0 rfl) ?_
  refine lv_iload_n hx hb dL_amends_3 rfl (lv_at hl 1 rfl) ?_
  refine vx_calli (zrunVu (As := [.int x1]) (rest := [.int 0, .ref qo]) E hT hZ (xb_X10 xs_0) (xe_X10 xs_0 _) rfl rfl v_X10_amends kw_1240 (c_X10_amends l hst g M x1 h _) rfl hl.1 rfl (Nat.le_of_ble_eq_true rfl) ⟨by decide, by decide⟩ ⟨by decide, by decide⟩ dL_amends_4) hZ.2.2 (fun q _ h => zAin hZ q h) (zAin hZ) (fun q _ h => zAin hZ q h) ?_ ?_
  · intro E1 ce q9 w t H1 locs1 ht _ hw hB _ _ hS hce hcv hcl
    obtain ⟨hE, hB⟩ := hB
    have hr : r = (w.1, .inl w.2) := hw
    have hZ1 := zSw_of (cO := cO) (qo := qo) (v := v) hZ0 hO hap (zS_call hZ ht hB hS)
    have hk := he _ _ hr
    have hE1 : E1 = "java/lang/IllegalArgumentException" := by rw [hE, hk]; rfl
    subst hE1
    refine zcatch E.1.2.2.2.1 [] (⟨0, 9, 12, 13⟩ : ExceptionTableEntry) [] htab (fun z hz => by simp at hz) rfl (by decide) (E.w kw_575) (va_Nw.use rfl (E.2.2.1 _ kz_708)) hce hcv hcl ?_
    refine lv_astore_n (lv' := [(3, .ref q9), (0, .ref (g.2.2 0)), (1, .int x1), (2, .ref qo)]) hx hb dL_amends_12 rfl hl (by decide) rfl (fun ls hl => ?_)
    refine lv_iconst (v := 1) hx hb dL_amends_13 (by decide) ?_
    exact zwret B.returns hlocks E hZ1 (by rw [hr]; simp [zwr, hk]) (by decide) (by decide) dL_amends_14
  · intro x M1 t H1 locs1 ht _ hp hB _ _ hS
    have hr : r = (M1, .inr x) := hp
    have hZ1 := zSw_of (cO := cO) (qo := qo) (v := v) hZ0 hO hap (zS_call hZ ht hB hS)
    refine lv_i2l hx hb dL_amends_7 rfl ?_
    refine zlast E hKo hZ1 dL_amends_8 (fun H locs hZ2 => ?_)
    refine lv_goto (tgt := 15) hx hb dL_amends_9 (by decide) ?_
    refine lv_iconst (v := 0) hx hb dL_amends_15 (by decide) ?_
    exact zwret B.returns hlocks E hZ2 (by rw [hr]; rfl) (by decide) (by decide) dL_amends_16
set_option maxRecDepth 100000 in
set_option maxHeartbeats 4000000 in
theorem cw_L_witness (l : Launch) (hst : l.stackTraces = false) (g : zG) (cO : ClassId) (qo : Nat) (M : zM) (v : Int64)  {r : zT1} (h : f_X10_witness M  = some r) (he : ∀ (M1 : zM) (k : Nat), r = (M1, .inl k) → k = 1) : zMw l g cO qo yL_witness (zWsH yL_witness cL_witness 3 (some .int) [(0, 8, 11, 13)]) 12 46 [.ref (g.2.2 0), .ref qo] M v (zwr r (fun _ => 1) (fun x => x.toInt64) v) := by
  intro sz
  refine zofWH (cc := cL_witness) (maxL := 3) (ret := some .int) (hh := [(0, 8, 11, 13)]) (by decide +kernel) rfl ?_
  intro p e s m args below meth c s₁ B hml hv
  obtain ⟨⟨hv, hT⟩, hO, hKo, hap, hNc⟩ := hv
  obtain ⟨rfl, rfl, E, hZ, htab⟩ := z_entryH B hml hv
  have hlocks := B.notSynchronized
  have hx := E.1.1
  have hb := E.1.2.1
  have hl := lv_entry [.ref (g.2.2 0), .ref qo] (n := 3) (Nat.le_of_ble_eq_true rfl)
  rw [lg_entry_eq]
  show W p l e (zrm 12 46 (6 * 46)) s m _ below meth c s.heap [] 0 0 _ _
  generalize (lg_sl [.ref (g.2.2 0), .ref qo] ++ List.replicate (3 - (lg_sl [.ref (g.2.2 0), .ref qo]).length) Slot.unset).toArray = ls at hl ⊢
  have hl : lv_has ls 3 [(0, .ref (g.2.2 0)), (1, .ref qo)] := hl
  have hZ0 := hZ
  refine lv_aload_n hx hb dL_witness_0 rfl (lv_at hl 1 rfl) ?_
  refine lv_iconst (v := 0) hx hb dL_witness_1 (by decide) ?_
  refine lv_aload_n hx hb dL_witness_2 rfl (lv_at hl 0 rfl) ?_
  refine vx_calli (zrunVu (As := []) (rest := [.int 0, .ref qo]) E hT hZ (xb_X10 xs_0) (xe_X10 xs_0 _) rfl rfl v_X10_witness kw_1247 (c_X10_witness l hst g M  h _) rfl hl.1 rfl (Nat.le_of_ble_eq_true rfl) ⟨by decide, by decide⟩ ⟨by decide, by decide⟩ dL_witness_3) hZ.2.2 (fun q _ h => zAin hZ q h) (zAin hZ) (fun q _ h => zAin hZ q h) ?_ ?_
  · intro E1 ce q9 w t H1 locs1 ht _ hw hB _ _ hS hce hcv hcl
    obtain ⟨hE, hB⟩ := hB
    have hr : r = (w.1, .inl w.2) := hw
    have hZ1 := zSw_of (cO := cO) (qo := qo) (v := v) hZ0 hO hap (zS_call hZ ht hB hS)
    have hk := he _ _ hr
    have hE1 : E1 = "java/lang/IllegalArgumentException" := by rw [hE, hk]; rfl
    subst hE1
    refine zcatch E.1.2.2.2.1 [] (⟨0, 8, 11, 13⟩ : ExceptionTableEntry) [] htab (fun z hz => by simp at hz) rfl (by decide) (E.w kw_575) (va_Nw.use rfl (E.2.2.1 _ kz_708)) hce hcv hcl ?_
    refine lv_astore_n (lv' := [(2, .ref q9), (0, .ref (g.2.2 0)), (1, .ref qo)]) hx hb dL_witness_11 rfl hl (by decide) rfl (fun ls hl => ?_)
    refine lv_iconst (v := 1) hx hb dL_witness_12 (by decide) ?_
    exact zwret B.returns hlocks E hZ1 (by rw [hr]; simp [zwr, hk]) (by decide) (by decide) dL_witness_13
  · intro x M1 t H1 locs1 ht _ hp hB _ _ hS
    have hr : r = (M1, .inr x) := hp
    have hZ1 := zSw_of (cO := cO) (qo := qo) (v := v) hZ0 hO hap (zS_call hZ ht hB hS)
    refine lv_i2l hx hb dL_witness_6 rfl ?_
    refine zlast E hKo hZ1 dL_witness_7 (fun H locs hZ2 => ?_)
    refine lv_goto (tgt := 14) hx hb dL_witness_8 (by decide) ?_
    refine lv_iconst (v := 0) hx hb dL_witness_14 (by decide) ?_
    exact zwret B.returns hlocks E hZ2 (by rw [hr]; rfl) (by decide) (by decide) dL_witness_15
set_option maxRecDepth 100000 in
set_option maxHeartbeats 4000000 in
theorem cw_L_clash (l : Launch) (hst : l.stackTraces = false) (g : zG) (cO : ClassId) (qo : Nat) (M : zM) (v : Int64) (x1 : Int32) (x2 : Int32) {r : zT1} (h : f_X10_clash M x1 x2 = some r) (he : ∀ (M1 : zM) (k : Nat), r = (M1, .inl k) → k = 1) : zMw l g cO qo yL_clash (zWsH yL_clash cL_clash 5 (some .int) [(0, 10, 13, 13)]) 12 2 [.ref (g.2.2 0), .int x1, .int x2, .ref qo] M v (zwr r (fun _ => 1) (fun x => x.toInt64) v) := by
  intro sz
  refine zofWH (cc := cL_clash) (maxL := 5) (ret := some .int) (hh := [(0, 10, 13, 13)]) (by decide +kernel) rfl ?_
  intro p e s m args below meth c s₁ B hml hv
  obtain ⟨⟨hv, hT⟩, hO, hKo, hap, hNc⟩ := hv
  obtain ⟨rfl, rfl, E, hZ, htab⟩ := z_entryH B hml hv
  have hlocks := B.notSynchronized
  have hx := E.1.1
  have hb := E.1.2.1
  have hl := lv_entry [.ref (g.2.2 0), .int x1, .int x2, .ref qo] (n := 5) (Nat.le_of_ble_eq_true rfl)
  rw [lg_entry_eq]
  show W p l e (zrm 12 2 (6 * 2)) s m _ below meth c s.heap [] 0 0 _ _
  generalize (lg_sl [.ref (g.2.2 0), .int x1, .int x2, .ref qo] ++ List.replicate (5 - (lg_sl [.ref (g.2.2 0), .int x1, .int x2, .ref qo]).length) Slot.unset).toArray = ls at hl ⊢
  have hl : lv_has ls 5 [(0, .ref (g.2.2 0)), (1, .int x1), (2, .int x2), (3, .ref qo)] := hl
  have hZ0 := hZ
  refine lv_aload_n hx hb dL_clash_0 rfl (lv_at hl 3 rfl) ?_
  refine lv_iconst (v := 0) hx hb dL_clash_1 (by decide) ?_
  refine lv_aload_n hx hb dL_clash_2 rfl (lv_at hl 0 rfl) ?_
  refine lv_iload_n hx hb dL_clash_3 rfl (lv_at hl 1 rfl) ?_
  refine lv_iload_n hx hb dL_clash_4 rfl (lv_at hl 2 rfl) ?_
  refine vx_calli (zrunVu (As := [.int x1, .int x2]) (rest := [.int 0, .ref qo]) E hT hZ (xb_X10 xs_0) (xe_X10 xs_0 _) rfl rfl v_X10_clash kw_1256 (c_X10_clash l hst g M x1 x2 h _) rfl hl.1 rfl (Nat.le_of_ble_eq_true rfl) ⟨by decide, by decide⟩ ⟨by decide, by decide⟩ dL_clash_5) hZ.2.2 (fun q _ h => zAin hZ q h) (zAin hZ) (fun q _ h => zAin hZ q h) ?_ ?_
  · intro E1 ce q9 w t H1 locs1 ht _ hw hB _ _ hS hce hcv hcl
    obtain ⟨hE, hB⟩ := hB
    have hr : r = (w.1, .inl w.2) := hw
    have hZ1 := zSw_of (cO := cO) (qo := qo) (v := v) hZ0 hO hap (zS_call hZ ht hB hS)
    have hk := he _ _ hr
    have hE1 : E1 = "java/lang/IllegalArgumentException" := by rw [hE, hk]; rfl
    subst hE1
    refine zcatch E.1.2.2.2.1 [] (⟨0, 10, 13, 13⟩ : ExceptionTableEntry) [] htab (fun z hz => by simp at hz) rfl (by decide) (E.w kw_575) (va_Nw.use rfl (E.2.2.1 _ kz_708)) hce hcv hcl ?_
    refine lv_astore (lv' := [(4, .ref q9), (0, .ref (g.2.2 0)), (1, .int x1), (2, .int x2), (3, .ref qo)]) hx hb dL_clash_13 hl (by decide) rfl (fun ls hl => ?_)
    refine lv_iconst (v := 1) hx hb dL_clash_15 (by decide) ?_
    exact zwret B.returns hlocks E hZ1 (by rw [hr]; simp [zwr, hk]) (by decide) (by decide) dL_clash_16
  · intro x M1 t H1 locs1 ht _ hp hB _ _ hS
    have hr : r = (M1, .inr x) := hp
    have hZ1 := zSw_of (cO := cO) (qo := qo) (v := v) hZ0 hO hap (zS_call hZ ht hB hS)
    refine lv_i2l hx hb dL_clash_8 rfl ?_
    refine zlast E hKo hZ1 dL_clash_9 (fun H locs hZ2 => ?_)
    refine lv_goto (tgt := 17) hx hb dL_clash_10 (by decide) ?_
    refine lv_iconst (v := 0) hx hb dL_clash_17 (by decide) ?_
    exact zwret B.returns hlocks E hZ2 (by rw [hr]; rfl) (by decide) (by decide) dL_clash_18
set_option maxRecDepth 100000 in
set_option maxHeartbeats 4000000 in
theorem cw_L_ahead (l : Launch) (hst : l.stackTraces = false) (g : zG) (cO : ClassId) (qo : Nat) (M : zM) (v : Int64) (x1 : Int32) (x2 : Int32) {r : zT1} (h : f_X10_ahead M x1 x2 = some r) (he : ∀ (M1 : zM) (k : Nat), r = (M1, .inl k) → k = 0 ∨ k = 1) : zMw l g cO qo yL_ahead (zWsH yL_ahead cL_ahead 5 (some .int) [(0, 10, 13, 24), (0, 10, 17, 13)]) 11 2 [.ref (g.2.2 0), .int x1, .int x2, .ref qo] M v (zwr r (fun k => if k = 0 then 1 else 2) (fun x => x.toInt64) v) := by
  intro sz
  refine zofWH (cc := cL_ahead) (maxL := 5) (ret := some .int) (hh := [(0, 10, 13, 24), (0, 10, 17, 13)]) (by decide +kernel) rfl ?_
  intro p e s m args below meth c s₁ B hml hv
  obtain ⟨⟨hv, hT⟩, hO, hKo, hap, hNc⟩ := hv
  obtain ⟨rfl, rfl, E, hZ, htab⟩ := z_entryH B hml hv
  have hlocks := B.notSynchronized
  have hx := E.1.1
  have hb := E.1.2.1
  have hl := lv_entry [.ref (g.2.2 0), .int x1, .int x2, .ref qo] (n := 5) (Nat.le_of_ble_eq_true rfl)
  rw [lg_entry_eq]
  show W p l e (zrm 11 2 (6 * 2)) s m _ below meth c s.heap [] 0 0 _ _
  generalize (lg_sl [.ref (g.2.2 0), .int x1, .int x2, .ref qo] ++ List.replicate (5 - (lg_sl [.ref (g.2.2 0), .int x1, .int x2, .ref qo]).length) Slot.unset).toArray = ls at hl ⊢
  have hl : lv_has ls 5 [(0, .ref (g.2.2 0)), (1, .int x1), (2, .int x2), (3, .ref qo)] := hl
  have hZ0 := hZ
  refine lv_aload_n hx hb dL_ahead_0 rfl (lv_at hl 3 rfl) ?_
  refine lv_iconst (v := 0) hx hb dL_ahead_1 (by decide) ?_
  refine lv_aload_n hx hb dL_ahead_2 rfl (lv_at hl 0 rfl) ?_
  refine lv_iload_n hx hb dL_ahead_3 rfl (lv_at hl 1 rfl) ?_
  refine lv_iload_n hx hb dL_ahead_4 rfl (lv_at hl 2 rfl) ?_
  refine vx_calli (zrunVu (As := [.int x1, .int x2]) (rest := [.int 0, .ref qo]) E hT hZ (xb_X10 xs_0) (xe_X10 xs_0 _) rfl rfl v_X10_ahead kw_1266 (c_X10_ahead l hst g M x1 x2 h _) rfl hl.1 rfl (Nat.le_of_ble_eq_true rfl) ⟨by decide, by decide⟩ ⟨by decide, by decide⟩ dL_ahead_5) hZ.2.2 (fun q _ h => zAin hZ q h) (zAin hZ) (fun q _ h => zAin hZ q h) ?_ ?_
  · intro E1 ce q9 w t H1 locs1 ht _ hw hB _ _ hS hce hcv hcl
    obtain ⟨hE, hB⟩ := hB
    have hr : r = (w.1, .inl w.2) := hw
    have hZ1 := zSw_of (cO := cO) (qo := qo) (v := v) hZ0 hO hap (zS_call hZ ht hB hS)
    rcases he _ _ hr with hk | hk
    · have hE1 : E1 = "java/lang/IndexOutOfBoundsException" := by rw [hE, hk]; rfl
      subst hE1
      refine zcatch E.1.2.2.2.1 [] (⟨0, 10, 13, 24⟩ : ExceptionTableEntry) [(⟨0, 10, 17, 13⟩ : ExceptionTableEntry)] htab (fun z hz => by simp at hz) rfl (by decide) (E.w kw_839) (va_Nw.use rfl (E.2.2.1 _ kz_850)) hce hcv hcl ?_
      refine lv_astore (lv' := [(4, .ref q9), (0, .ref (g.2.2 0)), (1, .int x1), (2, .int x2), (3, .ref qo)]) hx hb dL_ahead_13 hl (by decide) rfl (fun ls hl => ?_)
      refine lv_iconst (v := 1) hx hb dL_ahead_15 (by decide) ?_
      exact zwret B.returns hlocks E hZ1 (by rw [hr]; simp [zwr, hk]) (by decide) (by decide) dL_ahead_16
    · have hE1 : E1 = "java/lang/IllegalArgumentException" := by rw [hE, hk]; rfl
      subst hE1
      refine zcatch E.1.2.2.2.1 [(⟨0, 10, 13, 24⟩ : ExceptionTableEntry)] (⟨0, 10, 17, 13⟩ : ExceptionTableEntry) [] htab (fun z hz => by rw [List.mem_singleton.mp hz]; exact Or.inr ⟨by decide, "java/lang/IndexOutOfBoundsException", E.w kw_839, hNc _ (List.mem_of_getElem? (i := 2) rfl)⟩) rfl (by decide) (E.w kw_575) (va_Nw.use rfl (E.2.2.1 _ kz_708)) hce hcv hcl ?_
      refine lv_astore (lv' := [(4, .ref q9), (0, .ref (g.2.2 0)), (1, .int x1), (2, .int x2), (3, .ref qo)]) hx hb dL_ahead_17 hl (by decide) rfl (fun ls hl => ?_)
      refine lv_iconst (v := 2) hx hb dL_ahead_19 (by decide) ?_
      exact zwret B.returns hlocks E hZ1 (by rw [hr]; simp [zwr, hk]) (by decide) (by decide) dL_ahead_20
  · intro x M1 t H1 locs1 ht _ hp hB _ _ hS
    have hr : r = (M1, .inr x) := hp
    have hZ1 := zSw_of (cO := cO) (qo := qo) (v := v) hZ0 hO hap (zS_call hZ ht hB hS)
    refine lv_i2l hx hb dL_ahead_8 rfl ?_
    refine zlast E hKo hZ1 dL_ahead_9 (fun H locs hZ2 => ?_)
    refine lv_goto (tgt := 21) hx hb dL_ahead_10 (by decide) ?_
    refine lv_iconst (v := 0) hx hb dL_ahead_21 (by decide) ?_
    exact zwret B.returns hlocks E hZ2 (by rw [hr]; rfl) (by decide) (by decide) dL_ahead_22
set_option maxRecDepth 100000 in
set_option maxHeartbeats 4000000 in
theorem cw_L_doomed (l : Launch) (hst : l.stackTraces = false) (g : zG) (cO : ClassId) (qo : Nat) (M : zM) (v : Int64) (x1 : Int32) {r : zT1} (h : f_X10_doomed M x1 = some r) (he : ∀ (M1 : zM) (k : Nat), r = (M1, .inl k) → k = 1) : zMw l g cO qo yL_doomed (zWsH yL_doomed cL_doomed 4 (some .int) [(0, 9, 12, 13)]) 11 1 [.ref (g.2.2 0), .int x1, .ref qo] M v (zwr r (fun _ => 1) (fun x => x.toInt64) v) := by
  intro sz
  refine zofWH (cc := cL_doomed) (maxL := 4) (ret := some .int) (hh := [(0, 9, 12, 13)]) (by decide +kernel) rfl ?_
  intro p e s m args below meth c s₁ B hml hv
  obtain ⟨⟨hv, hT⟩, hO, hKo, hap, hNc⟩ := hv
  obtain ⟨rfl, rfl, E, hZ, htab⟩ := z_entryH B hml hv
  have hlocks := B.notSynchronized
  have hx := E.1.1
  have hb := E.1.2.1
  have hl := lv_entry [.ref (g.2.2 0), .int x1, .ref qo] (n := 4) (Nat.le_of_ble_eq_true rfl)
  rw [lg_entry_eq]
  show W p l e (zrm 11 1 (6 * 1)) s m _ below meth c s.heap [] 0 0 _ _
  generalize (lg_sl [.ref (g.2.2 0), .int x1, .ref qo] ++ List.replicate (4 - (lg_sl [.ref (g.2.2 0), .int x1, .ref qo]).length) Slot.unset).toArray = ls at hl ⊢
  have hl : lv_has ls 4 [(0, .ref (g.2.2 0)), (1, .int x1), (2, .ref qo)] := hl
  have hZ0 := hZ
  refine lv_aload_n hx hb dL_doomed_0 rfl (lv_at hl 2 rfl) ?_
  refine lv_iconst (v := 0) hx hb dL_doomed_1 (by decide) ?_
  refine lv_aload_n hx hb dL_doomed_2 rfl (lv_at hl 0 rfl) ?_
  refine lv_iload_n hx hb dL_doomed_3 rfl (lv_at hl 1 rfl) ?_
  refine vx_calli (zrunVu (As := [.int x1]) (rest := [.int 0, .ref qo]) E hT hZ (xb_X10 xs_0) (xe_X10 xs_0 _) rfl rfl v_X10_doomed kw_1273 (c_X10_doomed l hst g M x1 h _) rfl hl.1 rfl (Nat.le_of_ble_eq_true rfl) ⟨by decide, by decide⟩ ⟨by decide, by decide⟩ dL_doomed_4) hZ.2.2 (fun q _ h => zAin hZ q h) (zAin hZ) (fun q _ h => zAin hZ q h) ?_ ?_
  · intro E1 ce q9 w t H1 locs1 ht _ hw hB _ _ hS hce hcv hcl
    obtain ⟨hE, hB⟩ := hB
    have hr : r = (w.1, .inl w.2) := hw
    have hZ1 := zSw_of (cO := cO) (qo := qo) (v := v) hZ0 hO hap (zS_call hZ ht hB hS)
    have hk := he _ _ hr
    have hE1 : E1 = "java/lang/IllegalArgumentException" := by rw [hE, hk]; rfl
    subst hE1
    refine zcatch E.1.2.2.2.1 [] (⟨0, 9, 12, 13⟩ : ExceptionTableEntry) [] htab (fun z hz => by simp at hz) rfl (by decide) (E.w kw_575) (va_Nw.use rfl (E.2.2.1 _ kz_708)) hce hcv hcl ?_
    refine lv_astore_n (lv' := [(3, .ref q9), (0, .ref (g.2.2 0)), (1, .int x1), (2, .ref qo)]) hx hb dL_doomed_12 rfl hl (by decide) rfl (fun ls hl => ?_)
    refine lv_iconst (v := 1) hx hb dL_doomed_13 (by decide) ?_
    exact zwret B.returns hlocks E hZ1 (by rw [hr]; simp [zwr, hk]) (by decide) (by decide) dL_doomed_14
  · intro x M1 t H1 locs1 ht _ hp hB _ _ hS
    have hr : r = (M1, .inr x) := hp
    have hZ1 := zSw_of (cO := cO) (qo := qo) (v := v) hZ0 hO hap (zS_call hZ ht hB hS)
    refine lv_i2l hx hb dL_doomed_7 rfl ?_
    refine zlast E hKo hZ1 dL_doomed_8 (fun H locs hZ2 => ?_)
    refine lv_goto (tgt := 15) hx hb dL_doomed_9 (by decide) ?_
    refine lv_iconst (v := 0) hx hb dL_doomed_15 (by decide) ?_
    exact zwret B.returns hlocks E hZ2 (by rw [hr]; rfl) (by decide) (by decide) dL_doomed_16
set_option maxRecDepth 100000 in
set_option maxHeartbeats 4000000 in
theorem cw_L_done (l : Launch) (hst : l.stackTraces = false) (g : zG) (cO : ClassId) (qo : Nat) (M : zM) (v : Int64) (x1 : Int32) {r : zT1} (h : f_X10_done M x1 = some r) (he : ∀ (M1 : zM) (k : Nat), r = (M1, .inl k) → k = 1) : zMw l g cO qo yL_done (zWsH yL_done cL_done 4 (some .int) [(0, 9, 12, 13)]) 11 1 [.ref (g.2.2 0), .int x1, .ref qo] M v (zwr r (fun _ => 1) (fun x => x.toInt64) v) := by
  intro sz
  refine zofWH (cc := cL_done) (maxL := 4) (ret := some .int) (hh := [(0, 9, 12, 13)]) (by decide +kernel) rfl ?_
  intro p e s m args below meth c s₁ B hml hv
  obtain ⟨⟨hv, hT⟩, hO, hKo, hap, hNc⟩ := hv
  obtain ⟨rfl, rfl, E, hZ, htab⟩ := z_entryH B hml hv
  have hlocks := B.notSynchronized
  have hx := E.1.1
  have hb := E.1.2.1
  have hl := lv_entry [.ref (g.2.2 0), .int x1, .ref qo] (n := 4) (Nat.le_of_ble_eq_true rfl)
  rw [lg_entry_eq]
  show W p l e (zrm 11 1 (6 * 1)) s m _ below meth c s.heap [] 0 0 _ _
  generalize (lg_sl [.ref (g.2.2 0), .int x1, .ref qo] ++ List.replicate (4 - (lg_sl [.ref (g.2.2 0), .int x1, .ref qo]).length) Slot.unset).toArray = ls at hl ⊢
  have hl : lv_has ls 4 [(0, .ref (g.2.2 0)), (1, .int x1), (2, .ref qo)] := hl
  have hZ0 := hZ
  refine lv_aload_n hx hb dL_done_0 rfl (lv_at hl 2 rfl) ?_
  refine lv_iconst (v := 0) hx hb dL_done_1 (by decide) ?_
  refine lv_aload_n hx hb dL_done_2 rfl (lv_at hl 0 rfl) ?_
  refine lv_iload_n hx hb dL_done_3 rfl (lv_at hl 1 rfl) ?_
  refine vx_calli (zrunVu (As := [.int x1]) (rest := [.int 0, .ref qo]) E hT hZ (xb_X10 xs_0) (xe_X10 xs_0 _) rfl rfl v_X10_done kw_1280 (c_X10_done l hst g M x1 h _) rfl hl.1 rfl (Nat.le_of_ble_eq_true rfl) ⟨by decide, by decide⟩ ⟨by decide, by decide⟩ dL_done_4) hZ.2.2 (fun q _ h => zAin hZ q h) (zAin hZ) (fun q _ h => zAin hZ q h) ?_ ?_
  · intro E1 ce q9 w t H1 locs1 ht _ hw hB _ _ hS hce hcv hcl
    obtain ⟨hE, hB⟩ := hB
    have hr : r = (w.1, .inl w.2) := hw
    have hZ1 := zSw_of (cO := cO) (qo := qo) (v := v) hZ0 hO hap (zS_call hZ ht hB hS)
    have hk := he _ _ hr
    have hE1 : E1 = "java/lang/IllegalArgumentException" := by rw [hE, hk]; rfl
    subst hE1
    refine zcatch E.1.2.2.2.1 [] (⟨0, 9, 12, 13⟩ : ExceptionTableEntry) [] htab (fun z hz => by simp at hz) rfl (by decide) (E.w kw_575) (va_Nw.use rfl (E.2.2.1 _ kz_708)) hce hcv hcl ?_
    refine lv_astore_n (lv' := [(3, .ref q9), (0, .ref (g.2.2 0)), (1, .int x1), (2, .ref qo)]) hx hb dL_done_12 rfl hl (by decide) rfl (fun ls hl => ?_)
    refine lv_iconst (v := 1) hx hb dL_done_13 (by decide) ?_
    exact zwret B.returns hlocks E hZ1 (by rw [hr]; simp [zwr, hk]) (by decide) (by decide) dL_done_14
  · intro x M1 t H1 locs1 ht _ hp hB _ _ hS
    have hr : r = (M1, .inr x) := hp
    have hZ1 := zSw_of (cO := cO) (qo := qo) (v := v) hZ0 hO hap (zS_call hZ ht hB hS)
    refine lv_i2l hx hb dL_done_7 rfl ?_
    refine zlast E hKo hZ1 dL_done_8 (fun H locs hZ2 => ?_)
    refine lv_goto (tgt := 15) hx hb dL_done_9 (by decide) ?_
    refine lv_iconst (v := 0) hx hb dL_done_15 (by decide) ?_
    exact zwret B.returns hlocks E hZ2 (by rw [hr]; rfl) (by decide) (by decide) dL_done_16
set_option maxRecDepth 100000 in
set_option maxHeartbeats 4000000 in
theorem cw_L_odds (l : Launch) (hst : l.stackTraces = false) (g : zG) (cO : ClassId) (qo : Nat) (M : zM) (v : Int64) (x1 : Int32) (x2 : Int32) {r : zT1} (h : f_X10_odds M x1 x2 = some r) (he : ∀ (M1 : zM) (k : Nat), r = (M1, .inl k) → k = 1) : zMw l g cO qo yL_odds (zWsH yL_odds cL_odds 5 (some .int) [(0, 10, 13, 13)]) 11 2 [.ref (g.2.2 0), .int x1, .int x2, .ref qo] M v (zwr r (fun _ => 1) (fun x => x.toInt64) v) := by
  intro sz
  refine zofWH (cc := cL_odds) (maxL := 5) (ret := some .int) (hh := [(0, 10, 13, 13)]) (by decide +kernel) rfl ?_
  intro p e s m args below meth c s₁ B hml hv
  obtain ⟨⟨hv, hT⟩, hO, hKo, hap, hNc⟩ := hv
  obtain ⟨rfl, rfl, E, hZ, htab⟩ := z_entryH B hml hv
  have hlocks := B.notSynchronized
  have hx := E.1.1
  have hb := E.1.2.1
  have hl := lv_entry [.ref (g.2.2 0), .int x1, .int x2, .ref qo] (n := 5) (Nat.le_of_ble_eq_true rfl)
  rw [lg_entry_eq]
  show W p l e (zrm 11 2 (6 * 2)) s m _ below meth c s.heap [] 0 0 _ _
  generalize (lg_sl [.ref (g.2.2 0), .int x1, .int x2, .ref qo] ++ List.replicate (5 - (lg_sl [.ref (g.2.2 0), .int x1, .int x2, .ref qo]).length) Slot.unset).toArray = ls at hl ⊢
  have hl : lv_has ls 5 [(0, .ref (g.2.2 0)), (1, .int x1), (2, .int x2), (3, .ref qo)] := hl
  have hZ0 := hZ
  refine lv_aload_n hx hb dL_odds_0 rfl (lv_at hl 3 rfl) ?_
  refine lv_iconst (v := 0) hx hb dL_odds_1 (by decide) ?_
  refine lv_aload_n hx hb dL_odds_2 rfl (lv_at hl 0 rfl) ?_
  refine lv_iload_n hx hb dL_odds_3 rfl (lv_at hl 1 rfl) ?_
  refine lv_iload_n hx hb dL_odds_4 rfl (lv_at hl 2 rfl) ?_
  refine vx_calli (zrunVu (As := [.int x1, .int x2]) (rest := [.int 0, .ref qo]) E hT hZ (xb_X10 xs_0) (xe_X10 xs_0 _) rfl rfl v_X10_odds kw_1287 (c_X10_odds l hst g M x1 x2 h _) rfl hl.1 rfl (Nat.le_of_ble_eq_true rfl) ⟨by decide, by decide⟩ ⟨by decide, by decide⟩ dL_odds_5) hZ.2.2 (fun q _ h => zAin hZ q h) (zAin hZ) (fun q _ h => zAin hZ q h) ?_ ?_
  · intro E1 ce q9 w t H1 locs1 ht _ hw hB _ _ hS hce hcv hcl
    obtain ⟨hE, hB⟩ := hB
    have hr : r = (w.1, .inl w.2) := hw
    have hZ1 := zSw_of (cO := cO) (qo := qo) (v := v) hZ0 hO hap (zS_call hZ ht hB hS)
    have hk := he _ _ hr
    have hE1 : E1 = "java/lang/IllegalArgumentException" := by rw [hE, hk]; rfl
    subst hE1
    refine zcatch E.1.2.2.2.1 [] (⟨0, 10, 13, 13⟩ : ExceptionTableEntry) [] htab (fun z hz => by simp at hz) rfl (by decide) (E.w kw_575) (va_Nw.use rfl (E.2.2.1 _ kz_708)) hce hcv hcl ?_
    refine lv_astore (lv' := [(4, .ref q9), (0, .ref (g.2.2 0)), (1, .int x1), (2, .int x2), (3, .ref qo)]) hx hb dL_odds_13 hl (by decide) rfl (fun ls hl => ?_)
    refine lv_iconst (v := 1) hx hb dL_odds_15 (by decide) ?_
    exact zwret B.returns hlocks E hZ1 (by rw [hr]; simp [zwr, hk]) (by decide) (by decide) dL_odds_16
  · intro x M1 t H1 locs1 ht _ hp hB _ _ hS
    have hr : r = (M1, .inr x) := hp
    have hZ1 := zSw_of (cO := cO) (qo := qo) (v := v) hZ0 hO hap (zS_call hZ ht hB hS)
    refine lv_i2l hx hb dL_odds_8 rfl ?_
    refine zlast E hKo hZ1 dL_odds_9 (fun H locs hZ2 => ?_)
    refine lv_goto (tgt := 17) hx hb dL_odds_10 (by decide) ?_
    refine lv_iconst (v := 0) hx hb dL_odds_17 (by decide) ?_
    exact zwret B.returns hlocks E hZ2 (by rw [hr]; rfl) (by decide) (by decide) dL_odds_18
set_option maxRecDepth 100000 in
set_option maxHeartbeats 4000000 in
theorem cw_L_risk (l : Launch) (hst : l.stackTraces = false) (g : zG) (cO : ClassId) (qo : Nat) (M : zM) (v : Int64) (x1 : Int32) (x2 : Int32) (x3 : Int32) {r : zT1} (h : f_X10_risk M x1 x2 x3 = some r) (he : ∀ (M1 : zM) (k : Nat), r = (M1, .inl k) → k = 0 ∨ k = 1) : zMw l g cO qo yL_risk (zWsH yL_risk cL_risk 6 (some .int) [(0, 12, 15, 24), (0, 12, 19, 13)]) 11 3 [.ref (g.2.2 0), .int x1, .int x2, .int x3, .ref qo] M v (zwr r (fun k => if k = 0 then 1 else 2) (fun x => x.toInt64) v) := by
  intro sz
  refine zofWH (cc := cL_risk) (maxL := 6) (ret := some .int) (hh := [(0, 12, 15, 24), (0, 12, 19, 13)]) (by decide +kernel) rfl ?_
  intro p e s m args below meth c s₁ B hml hv
  obtain ⟨⟨hv, hT⟩, hO, hKo, hap, hNc⟩ := hv
  obtain ⟨rfl, rfl, E, hZ, htab⟩ := z_entryH B hml hv
  have hlocks := B.notSynchronized
  have hx := E.1.1
  have hb := E.1.2.1
  have hl := lv_entry [.ref (g.2.2 0), .int x1, .int x2, .int x3, .ref qo] (n := 6) (Nat.le_of_ble_eq_true rfl)
  rw [lg_entry_eq]
  show W p l e (zrm 11 3 (6 * 3)) s m _ below meth c s.heap [] 0 0 _ _
  generalize (lg_sl [.ref (g.2.2 0), .int x1, .int x2, .int x3, .ref qo] ++ List.replicate (6 - (lg_sl [.ref (g.2.2 0), .int x1, .int x2, .int x3, .ref qo]).length) Slot.unset).toArray = ls at hl ⊢
  have hl : lv_has ls 6 [(0, .ref (g.2.2 0)), (1, .int x1), (2, .int x2), (3, .int x3), (4, .ref qo)] := hl
  have hZ0 := hZ
  refine lv_aload hx hb dL_risk_0 (lv_at hl 4 rfl) ?_
  refine lv_iconst (v := 0) hx hb dL_risk_2 (by decide) ?_
  refine lv_aload_n hx hb dL_risk_3 rfl (lv_at hl 0 rfl) ?_
  refine lv_iload_n hx hb dL_risk_4 rfl (lv_at hl 1 rfl) ?_
  refine lv_iload_n hx hb dL_risk_5 rfl (lv_at hl 2 rfl) ?_
  refine lv_iload_n hx hb dL_risk_6 rfl (lv_at hl 3 rfl) ?_
  refine vx_calli (zrunVu (As := [.int x1, .int x2, .int x3]) (rest := [.int 0, .ref qo]) E hT hZ (xb_X10 xs_0) (xe_X10 xs_0 _) rfl rfl v_X10_risk kw_1304 (c_X10_risk l hst g M x1 x2 x3 h _) rfl hl.1 rfl (Nat.le_of_ble_eq_true rfl) ⟨by decide, by decide⟩ ⟨by decide, by decide⟩ dL_risk_7) hZ.2.2 (fun q _ h => zAin hZ q h) (zAin hZ) (fun q _ h => zAin hZ q h) ?_ ?_
  · intro E1 ce q9 w t H1 locs1 ht _ hw hB _ _ hS hce hcv hcl
    obtain ⟨hE, hB⟩ := hB
    have hr : r = (w.1, .inl w.2) := hw
    have hZ1 := zSw_of (cO := cO) (qo := qo) (v := v) hZ0 hO hap (zS_call hZ ht hB hS)
    rcases he _ _ hr with hk | hk
    · have hE1 : E1 = "java/lang/IndexOutOfBoundsException" := by rw [hE, hk]; rfl
      subst hE1
      refine zcatch E.1.2.2.2.1 [] (⟨0, 12, 15, 24⟩ : ExceptionTableEntry) [(⟨0, 12, 19, 13⟩ : ExceptionTableEntry)] htab (fun z hz => by simp at hz) rfl (by decide) (E.w kw_839) (va_Nw.use rfl (E.2.2.1 _ kz_850)) hce hcv hcl ?_
      refine lv_astore (lv' := [(5, .ref q9), (0, .ref (g.2.2 0)), (1, .int x1), (2, .int x2), (3, .int x3), (4, .ref qo)]) hx hb dL_risk_15 hl (by decide) rfl (fun ls hl => ?_)
      refine lv_iconst (v := 1) hx hb dL_risk_17 (by decide) ?_
      exact zwret B.returns hlocks E hZ1 (by rw [hr]; simp [zwr, hk]) (by decide) (by decide) dL_risk_18
    · have hE1 : E1 = "java/lang/IllegalArgumentException" := by rw [hE, hk]; rfl
      subst hE1
      refine zcatch E.1.2.2.2.1 [(⟨0, 12, 15, 24⟩ : ExceptionTableEntry)] (⟨0, 12, 19, 13⟩ : ExceptionTableEntry) [] htab (fun z hz => by rw [List.mem_singleton.mp hz]; exact Or.inr ⟨by decide, "java/lang/IndexOutOfBoundsException", E.w kw_839, hNc _ (List.mem_of_getElem? (i := 2) rfl)⟩) rfl (by decide) (E.w kw_575) (va_Nw.use rfl (E.2.2.1 _ kz_708)) hce hcv hcl ?_
      refine lv_astore (lv' := [(5, .ref q9), (0, .ref (g.2.2 0)), (1, .int x1), (2, .int x2), (3, .int x3), (4, .ref qo)]) hx hb dL_risk_19 hl (by decide) rfl (fun ls hl => ?_)
      refine lv_iconst (v := 2) hx hb dL_risk_21 (by decide) ?_
      exact zwret B.returns hlocks E hZ1 (by rw [hr]; simp [zwr, hk]) (by decide) (by decide) dL_risk_22
  · intro x M1 t H1 locs1 ht _ hp hB _ _ hS
    have hr : r = (M1, .inr x) := hp
    have hZ1 := zSw_of (cO := cO) (qo := qo) (v := v) hZ0 hO hap (zS_call hZ ht hB hS)
    refine lv_i2l hx hb dL_risk_10 rfl ?_
    refine zlast E hKo hZ1 dL_risk_11 (fun H locs hZ2 => ?_)
    refine lv_goto (tgt := 23) hx hb dL_risk_12 (by decide) ?_
    refine lv_iconst (v := 0) hx hb dL_risk_23 (by decide) ?_
    exact zwret B.returns hlocks E hZ2 (by rw [hr]; rfl) (by decide) (by decide) dL_risk_24
set_option maxRecDepth 100000 in
set_option maxHeartbeats 4000000 in
theorem cw_L_trial (l : Launch) (hst : l.stackTraces = false) (g : zG) (cO : ClassId) (qo : Nat) (M : zM) (v : Int64) (x1 : Int32) (x2 : Int32) {r : zT1} (h : f_X10_trial M x1 x2 = some r) (he : ∀ (M1 : zM) (k : Nat), r = (M1, .inl k) → k = 1) : zMw l g cO qo yL_trial (zWsH yL_trial cL_trial 5 (some .int) [(0, 10, 13, 13)]) 11 1 [.ref (g.2.2 0), .int x1, .int x2, .ref qo] M v (zwr r (fun _ => 1) (fun x => x.toInt64) v) := by
  intro sz
  refine zofWH (cc := cL_trial) (maxL := 5) (ret := some .int) (hh := [(0, 10, 13, 13)]) (by decide +kernel) rfl ?_
  intro p e s m args below meth c s₁ B hml hv
  obtain ⟨⟨hv, hT⟩, hO, hKo, hap, hNc⟩ := hv
  obtain ⟨rfl, rfl, E, hZ, htab⟩ := z_entryH B hml hv
  have hlocks := B.notSynchronized
  have hx := E.1.1
  have hb := E.1.2.1
  have hl := lv_entry [.ref (g.2.2 0), .int x1, .int x2, .ref qo] (n := 5) (Nat.le_of_ble_eq_true rfl)
  rw [lg_entry_eq]
  show W p l e (zrm 11 1 (6 * 1)) s m _ below meth c s.heap [] 0 0 _ _
  generalize (lg_sl [.ref (g.2.2 0), .int x1, .int x2, .ref qo] ++ List.replicate (5 - (lg_sl [.ref (g.2.2 0), .int x1, .int x2, .ref qo]).length) Slot.unset).toArray = ls at hl ⊢
  have hl : lv_has ls 5 [(0, .ref (g.2.2 0)), (1, .int x1), (2, .int x2), (3, .ref qo)] := hl
  have hZ0 := hZ
  refine lv_aload_n hx hb dL_trial_0 rfl (lv_at hl 3 rfl) ?_
  refine lv_iconst (v := 0) hx hb dL_trial_1 (by decide) ?_
  refine lv_aload_n hx hb dL_trial_2 rfl (lv_at hl 0 rfl) ?_
  refine lv_iload_n hx hb dL_trial_3 rfl (lv_at hl 1 rfl) ?_
  refine lv_iload_n hx hb dL_trial_4 rfl (lv_at hl 2 rfl) ?_
  refine vx_calli (zrunVu (As := [.int x1, .int x2]) (rest := [.int 0, .ref qo]) E hT hZ (xb_X10 xs_0) (xe_X10 xs_0 _) rfl rfl v_X10_trial kw_1312 (c_X10_trial l hst g M x1 x2 h _) rfl hl.1 rfl (Nat.le_of_ble_eq_true rfl) ⟨by decide, by decide⟩ ⟨by decide, by decide⟩ dL_trial_5) hZ.2.2 (fun q _ h => zAin hZ q h) (zAin hZ) (fun q _ h => zAin hZ q h) ?_ ?_
  · intro E1 ce q9 w t H1 locs1 ht _ hw hB _ _ hS hce hcv hcl
    obtain ⟨hE, hB⟩ := hB
    have hr : r = (w.1, .inl w.2) := hw
    have hZ1 := zSw_of (cO := cO) (qo := qo) (v := v) hZ0 hO hap (zS_call hZ ht hB hS)
    have hk := he _ _ hr
    have hE1 : E1 = "java/lang/IllegalArgumentException" := by rw [hE, hk]; rfl
    subst hE1
    refine zcatch E.1.2.2.2.1 [] (⟨0, 10, 13, 13⟩ : ExceptionTableEntry) [] htab (fun z hz => by simp at hz) rfl (by decide) (E.w kw_575) (va_Nw.use rfl (E.2.2.1 _ kz_708)) hce hcv hcl ?_
    refine lv_astore (lv' := [(4, .ref q9), (0, .ref (g.2.2 0)), (1, .int x1), (2, .int x2), (3, .ref qo)]) hx hb dL_trial_13 hl (by decide) rfl (fun ls hl => ?_)
    refine lv_iconst (v := 1) hx hb dL_trial_15 (by decide) ?_
    exact zwret B.returns hlocks E hZ1 (by rw [hr]; simp [zwr, hk]) (by decide) (by decide) dL_trial_16
  · intro x M1 t H1 locs1 ht _ hp hB _ _ hS
    have hr : r = (M1, .inr x) := hp
    have hZ1 := zSw_of (cO := cO) (qo := qo) (v := v) hZ0 hO hap (zS_call hZ ht hB hS)
    refine lv_i2l hx hb dL_trial_8 rfl ?_
    refine zlast E hKo hZ1 dL_trial_9 (fun H locs hZ2 => ?_)
    refine lv_goto (tgt := 17) hx hb dL_trial_10 (by decide) ?_
    refine lv_iconst (v := 0) hx hb dL_trial_17 (by decide) ?_
    exact zwret B.returns hlocks E hZ2 (by rw [hr]; rfl) (by decide) (by decide) dL_trial_18
set_option maxRecDepth 100000 in
set_option maxHeartbeats 4000000 in
theorem cw_L_span (l : Launch) (hst : l.stackTraces = false) (g : zG) (cO : ClassId) (qo : Nat) (M : zM) (v : Int64) (x1 : Int32) (x2 : Int32) {r : zT1} (h : f_X10_span M x1 x2 = some r) (he : ∀ (M1 : zM) (k : Nat), r = (M1, .inl k) → k = 1) : zMw l g cO qo yL_span (zWsH yL_span cL_span 5 (some .int) [(0, 10, 13, 13)]) 11 1 [.ref (g.2.2 0), .int x1, .int x2, .ref qo] M v (zwr r (fun _ => 1) (fun x => x.toInt64) v) := by
  intro sz
  refine zofWH (cc := cL_span) (maxL := 5) (ret := some .int) (hh := [(0, 10, 13, 13)]) (by decide +kernel) rfl ?_
  intro p e s m args below meth c s₁ B hml hv
  obtain ⟨⟨hv, hT⟩, hO, hKo, hap, hNc⟩ := hv
  obtain ⟨rfl, rfl, E, hZ, htab⟩ := z_entryH B hml hv
  have hlocks := B.notSynchronized
  have hx := E.1.1
  have hb := E.1.2.1
  have hl := lv_entry [.ref (g.2.2 0), .int x1, .int x2, .ref qo] (n := 5) (Nat.le_of_ble_eq_true rfl)
  rw [lg_entry_eq]
  show W p l e (zrm 11 1 (6 * 1)) s m _ below meth c s.heap [] 0 0 _ _
  generalize (lg_sl [.ref (g.2.2 0), .int x1, .int x2, .ref qo] ++ List.replicate (5 - (lg_sl [.ref (g.2.2 0), .int x1, .int x2, .ref qo]).length) Slot.unset).toArray = ls at hl ⊢
  have hl : lv_has ls 5 [(0, .ref (g.2.2 0)), (1, .int x1), (2, .int x2), (3, .ref qo)] := hl
  have hZ0 := hZ
  refine lv_aload_n hx hb dL_span_0 rfl (lv_at hl 3 rfl) ?_
  refine lv_iconst (v := 0) hx hb dL_span_1 (by decide) ?_
  refine lv_aload_n hx hb dL_span_2 rfl (lv_at hl 0 rfl) ?_
  refine lv_iload_n hx hb dL_span_3 rfl (lv_at hl 1 rfl) ?_
  refine lv_iload_n hx hb dL_span_4 rfl (lv_at hl 2 rfl) ?_
  refine vx_calli (zrunVu (As := [.int x1, .int x2]) (rest := [.int 0, .ref qo]) E hT hZ (xb_X10 xs_0) (xe_X10 xs_0 _) rfl rfl v_X10_span kw_1319 (c_X10_span l hst g M x1 x2 h _) rfl hl.1 rfl (Nat.le_of_ble_eq_true rfl) ⟨by decide, by decide⟩ ⟨by decide, by decide⟩ dL_span_5) hZ.2.2 (fun q _ h => zAin hZ q h) (zAin hZ) (fun q _ h => zAin hZ q h) ?_ ?_
  · intro E1 ce q9 w t H1 locs1 ht _ hw hB _ _ hS hce hcv hcl
    obtain ⟨hE, hB⟩ := hB
    have hr : r = (w.1, .inl w.2) := hw
    have hZ1 := zSw_of (cO := cO) (qo := qo) (v := v) hZ0 hO hap (zS_call hZ ht hB hS)
    have hk := he _ _ hr
    have hE1 : E1 = "java/lang/IllegalArgumentException" := by rw [hE, hk]; rfl
    subst hE1
    refine zcatch E.1.2.2.2.1 [] (⟨0, 10, 13, 13⟩ : ExceptionTableEntry) [] htab (fun z hz => by simp at hz) rfl (by decide) (E.w kw_575) (va_Nw.use rfl (E.2.2.1 _ kz_708)) hce hcv hcl ?_
    refine lv_astore (lv' := [(4, .ref q9), (0, .ref (g.2.2 0)), (1, .int x1), (2, .int x2), (3, .ref qo)]) hx hb dL_span_13 hl (by decide) rfl (fun ls hl => ?_)
    refine lv_iconst (v := 1) hx hb dL_span_15 (by decide) ?_
    exact zwret B.returns hlocks E hZ1 (by rw [hr]; simp [zwr, hk]) (by decide) (by decide) dL_span_16
  · intro x M1 t H1 locs1 ht _ hp hB _ _ hS
    have hr : r = (M1, .inr x) := hp
    have hZ1 := zSw_of (cO := cO) (qo := qo) (v := v) hZ0 hO hap (zS_call hZ ht hB hS)
    refine lv_i2l hx hb dL_span_8 rfl ?_
    refine zlast E hKo hZ1 dL_span_9 (fun H locs hZ2 => ?_)
    refine lv_goto (tgt := 17) hx hb dL_span_10 (by decide) ?_
    refine lv_iconst (v := 0) hx hb dL_span_17 (by decide) ?_
    exact zwret B.returns hlocks E hZ2 (by rw [hr]; rfl) (by decide) (by decide) dL_span_18
set_option maxRecDepth 100000 in
set_option maxHeartbeats 4000000 in
theorem cw_L_led (l : Launch) (hst : l.stackTraces = false) (g : zG) (cO : ClassId) (qo : Nat) (M : zM) (v : Int64) (x1 : Int32) (x2 : Int32) {r : zT1} (h : f_X10_led M x1 x2 = some r) (he : ∀ (M1 : zM) (k : Nat), r = (M1, .inl k) → k = 0) : zMw l g cO qo yL_led (zWsH yL_led cL_led 5 (some .int) [(0, 10, 13, 24)]) 11 1 [.ref (g.2.2 0), .int x1, .int x2, .ref qo] M v (zwr r (fun _ => 1) (fun x => x.toInt64) v) := by
  intro sz
  refine zofWH (cc := cL_led) (maxL := 5) (ret := some .int) (hh := [(0, 10, 13, 24)]) (by decide +kernel) rfl ?_
  intro p e s m args below meth c s₁ B hml hv
  obtain ⟨⟨hv, hT⟩, hO, hKo, hap, hNc⟩ := hv
  obtain ⟨rfl, rfl, E, hZ, htab⟩ := z_entryH B hml hv
  have hlocks := B.notSynchronized
  have hx := E.1.1
  have hb := E.1.2.1
  have hl := lv_entry [.ref (g.2.2 0), .int x1, .int x2, .ref qo] (n := 5) (Nat.le_of_ble_eq_true rfl)
  rw [lg_entry_eq]
  show W p l e (zrm 11 1 (6 * 1)) s m _ below meth c s.heap [] 0 0 _ _
  generalize (lg_sl [.ref (g.2.2 0), .int x1, .int x2, .ref qo] ++ List.replicate (5 - (lg_sl [.ref (g.2.2 0), .int x1, .int x2, .ref qo]).length) Slot.unset).toArray = ls at hl ⊢
  have hl : lv_has ls 5 [(0, .ref (g.2.2 0)), (1, .int x1), (2, .int x2), (3, .ref qo)] := hl
  have hZ0 := hZ
  refine lv_aload_n hx hb dL_led_0 rfl (lv_at hl 3 rfl) ?_
  refine lv_iconst (v := 0) hx hb dL_led_1 (by decide) ?_
  refine lv_aload_n hx hb dL_led_2 rfl (lv_at hl 0 rfl) ?_
  refine lv_iload_n hx hb dL_led_3 rfl (lv_at hl 1 rfl) ?_
  refine lv_iload_n hx hb dL_led_4 rfl (lv_at hl 2 rfl) ?_
  refine vx_calli (zrunVu (As := [.int x1, .int x2]) (rest := [.int 0, .ref qo]) E hT hZ (xb_X10 xs_0) (xe_X10 xs_0 _) rfl rfl v_X10_led kw_1327 (c_X10_led l hst g M x1 x2 h _) rfl hl.1 rfl (Nat.le_of_ble_eq_true rfl) ⟨by decide, by decide⟩ ⟨by decide, by decide⟩ dL_led_5) hZ.2.2 (fun q _ h => zAin hZ q h) (zAin hZ) (fun q _ h => zAin hZ q h) ?_ ?_
  · intro E1 ce q9 w t H1 locs1 ht _ hw hB _ _ hS hce hcv hcl
    obtain ⟨hE, hB⟩ := hB
    have hr : r = (w.1, .inl w.2) := hw
    have hZ1 := zSw_of (cO := cO) (qo := qo) (v := v) hZ0 hO hap (zS_call hZ ht hB hS)
    have hk := he _ _ hr
    have hE1 : E1 = "java/lang/IndexOutOfBoundsException" := by rw [hE, hk]; rfl
    subst hE1
    refine zcatch E.1.2.2.2.1 [] (⟨0, 10, 13, 24⟩ : ExceptionTableEntry) [] htab (fun z hz => by simp at hz) rfl (by decide) (E.w kw_839) (va_Nw.use rfl (E.2.2.1 _ kz_850)) hce hcv hcl ?_
    refine lv_astore (lv' := [(4, .ref q9), (0, .ref (g.2.2 0)), (1, .int x1), (2, .int x2), (3, .ref qo)]) hx hb dL_led_13 hl (by decide) rfl (fun ls hl => ?_)
    refine lv_iconst (v := 1) hx hb dL_led_15 (by decide) ?_
    exact zwret B.returns hlocks E hZ1 (by rw [hr]; simp [zwr, hk]) (by decide) (by decide) dL_led_16
  · intro x M1 t H1 locs1 ht _ hp hB _ _ hS
    have hr : r = (M1, .inr x) := hp
    have hZ1 := zSw_of (cO := cO) (qo := qo) (v := v) hZ0 hO hap (zS_call hZ ht hB hS)
    refine lv_i2l hx hb dL_led_8 rfl ?_
    refine zlast E hKo hZ1 dL_led_9 (fun H locs hZ2 => ?_)
    refine lv_goto (tgt := 17) hx hb dL_led_10 (by decide) ?_
    refine lv_iconst (v := 0) hx hb dL_led_17 (by decide) ?_
    exact zwret B.returns hlocks E hZ2 (by rw [hr]; rfl) (by decide) (by decide) dL_led_18
set_option maxRecDepth 100000 in
set_option maxHeartbeats 4000000 in
theorem cw_L_log (l : Launch) (hst : l.stackTraces = false) (g : zG) (cO : ClassId) (qo : Nat) (M : zM) (v : Int64) (x1 : Int32) (x2 : Int32) {r : zT1} (h : f_X10_log M x1 x2 = some r) (he : ∀ (M1 : zM) (k : Nat), r = (M1, .inl k) → k = 3) : zMw l g cO qo yL_log (zWsH yL_log cL_log 5 (some .int) [(0, 10, 13, 30)]) 10 1 [.ref (g.2.2 0), .int x1, .int x2, .ref qo] M v (zwr r (fun _ => 1) (fun x => x.toInt64) v) := by
  intro sz
  refine zofWH (cc := cL_log) (maxL := 5) (ret := some .int) (hh := [(0, 10, 13, 30)]) (by decide +kernel) rfl ?_
  intro p e s m args below meth c s₁ B hml hv
  obtain ⟨⟨hv, hT⟩, hO, hKo, hap, hNc⟩ := hv
  obtain ⟨rfl, rfl, E, hZ, htab⟩ := z_entryH B hml hv
  have hlocks := B.notSynchronized
  have hx := E.1.1
  have hb := E.1.2.1
  have hl := lv_entry [.ref (g.2.2 0), .int x1, .int x2, .ref qo] (n := 5) (Nat.le_of_ble_eq_true rfl)
  rw [lg_entry_eq]
  show W p l e (zrm 10 1 (6 * 1)) s m _ below meth c s.heap [] 0 0 _ _
  generalize (lg_sl [.ref (g.2.2 0), .int x1, .int x2, .ref qo] ++ List.replicate (5 - (lg_sl [.ref (g.2.2 0), .int x1, .int x2, .ref qo]).length) Slot.unset).toArray = ls at hl ⊢
  have hl : lv_has ls 5 [(0, .ref (g.2.2 0)), (1, .int x1), (2, .int x2), (3, .ref qo)] := hl
  have hZ0 := hZ
  refine lv_aload_n hx hb dL_log_0 rfl (lv_at hl 3 rfl) ?_
  refine lv_iconst (v := 0) hx hb dL_log_1 (by decide) ?_
  refine lv_aload_n hx hb dL_log_2 rfl (lv_at hl 0 rfl) ?_
  refine lv_iload_n hx hb dL_log_3 rfl (lv_at hl 1 rfl) ?_
  refine lv_iload_n hx hb dL_log_4 rfl (lv_at hl 2 rfl) ?_
  refine vx_calli (zrunVu (As := [.int x1, .int x2]) (rest := [.int 0, .ref qo]) E hT hZ (xb_X10 xs_0) (xe_X10 xs_0 _) rfl rfl v_X10_log kw_1346 (c_X10_log l hst g M x1 x2 h _) rfl hl.1 rfl (Nat.le_of_ble_eq_true rfl) ⟨by decide, by decide⟩ ⟨by decide, by decide⟩ dL_log_5) hZ.2.2 (fun q _ h => zAin hZ q h) (zAin hZ) (fun q _ h => zAin hZ q h) ?_ ?_
  · intro E1 ce q9 w t H1 locs1 ht _ hw hB _ _ hS hce hcv hcl
    obtain ⟨hE, hB⟩ := hB
    have hr : r = (w.1, .inl w.2) := hw
    have hZ1 := zSw_of (cO := cO) (qo := qo) (v := v) hZ0 hO hap (zS_call hZ ht hB hS)
    have hk := he _ _ hr
    have hE1 : E1 = "java/util/NoSuchElementException" := by rw [hE, hk]; rfl
    subst hE1
    refine zcatch E.1.2.2.2.1 [] (⟨0, 10, 13, 30⟩ : ExceptionTableEntry) [] htab (fun z hz => by simp at hz) rfl (by decide) (E.w kw_867) (va_Nw.use rfl (E.2.2.1 _ kz_886)) hce hcv hcl ?_
    refine lv_astore (lv' := [(4, .ref q9), (0, .ref (g.2.2 0)), (1, .int x1), (2, .int x2), (3, .ref qo)]) hx hb dL_log_13 hl (by decide) rfl (fun ls hl => ?_)
    refine lv_iconst (v := 1) hx hb dL_log_15 (by decide) ?_
    exact zwret B.returns hlocks E hZ1 (by rw [hr]; simp [zwr, hk]) (by decide) (by decide) dL_log_16
  · intro x M1 t H1 locs1 ht _ hp hB _ _ hS
    have hr : r = (M1, .inr x) := hp
    have hZ1 := zSw_of (cO := cO) (qo := qo) (v := v) hZ0 hO hap (zS_call hZ ht hB hS)
    refine lv_i2l hx hb dL_log_8 rfl ?_
    refine zlast E hKo hZ1 dL_log_9 (fun H locs hZ2 => ?_)
    refine lv_goto (tgt := 17) hx hb dL_log_10 (by decide) ?_
    refine lv_iconst (v := 0) hx hb dL_log_17 (by decide) ?_
    exact zwret B.returns hlocks E hZ2 (by rw [hr]; rfl) (by decide) (by decide) dL_log_18
