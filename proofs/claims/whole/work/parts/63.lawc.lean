/-! THE LAW'S CASES: each over an abstract relation of the two memories -/
def zsS (Rel : zM → zM → Prop) (fx fr : Option (Int32 × zM)) : Prop := ∃ (a : Int32) (M1 N1 : zM), fx = some (a, M1) ∧ fr = some (a, N1) ∧ Rel M1 N1
def zsR (Rel : zM → zM → Prop) (M : zM) (fx : Option Int32) (fr : Option (Int32 × zM)) : Prop := ∃ (a : Int32) (N1 : zM), fx = some a ∧ fr = some (a, N1) ∧ Rel M N1
def zsV (Rel : zM → zM → Prop) (fx fr : Option zM) : Prop := ∃ (M1 N1 : zM), fx = some M1 ∧ fr = some N1 ∧ Rel M1 N1
def zsT (Rel : zM → zM → Prop) (fx : Option zT1) (fr : Option (Int32 × zM)) (al : Nat → Prop) (codes : Nat → Int32) : Prop := ∃ (M1 : zM) (b : Int32) (N1 : zM), fr = some (b, N1) ∧ Rel M1 N1 ∧ ((∃ k, fx = some (M1, .inl k) ∧ al k ∧ N1 0 0 = codes k) ∨ (fx = some (M1, .inr b) ∧ N1 0 0 = 0))
theorem zcmp_self (x : Int64) : lg_cmp x x = 0 := by simp [lg_cmp]
/-- what holds while the law runs -/
def zLC (p : Program) (l : Launch) (s : State) (m : MethodId) (args : Array Value) (c : Code) (gx gr : zG) (cO : ClassId) (qo b L : Nat) (xs : Nat → Int32) (Ts : List Cond) : Prop :=
  l.stackTraces = false ∧ zX gx p m c cL_law_ 7 s args Ts "TideBookLaw" ∧ zX gr p m c cL_law_ 7 s args Ts "TideBookLaw" ∧ zXs gx 125 s.heap.size s ∧ zSg gr 15 s.heap.size s s.heap ∧ va_K gx.1 vwCl [(cO, .long)] s ∧ zNc s ∧ zLA gx gr qo s ∧ va_X b L xs s s.heap ∧ b < s.heap.size
def zLl (b : Nat) (gx gr : zG) (qo : Nat) (i : Int32) : List (Nat × Value) := [(0, .ref b), (1, .ref (gx.2.2 0)), (2, .ref (gr.2.2 0)), (3, .ref qo), (4, .int i)]
/-- the loop's next turn -/
def zLK (p : Program) (l : Launch) (e : Env) (s : State) (m : MethodId) (args : Array Value) (below : List Frame) (meth : Method) (c : Code) (Q : State → Prop) (Rel : zM → zM → Prop) (gx gr : zG) (cO : ClassId) (qo b : Nat) (i : Int32) (cells slots : Nat) : Prop :=
  ∀ (H : Heap) (locs : List Loc) (ls : Array Slot) (M N : zM) (v : Int64), Rel M N → zLS gx gr cO qo s H locs M N v → lv_has ls 7 (zLl b gx gr qo i) → W p l e room_1 s m args below meth c H locs (cells + 60) (slots + 360) Q (F0 m 3069 ls [])
section LAWC
variable {p : Program} {l : Launch} {e : Env} {s : State} {m : MethodId} {args : Array Value} {below : List Frame} {meth : Method} {c : Code} {H : Heap} {locs : List Loc} {cells slots : Nat} {Q : State → Prop}
variable {ls : Array Slot} {gx gr : zG} {cO : ClassId} {qo b L : Nat} {xs : Nat → Int32} {M N : zM} {v : Int64} {Ts : List Cond} {i : Int32} {Rel Rel' : zM → zM → Prop}
def zs_feed (Rel Rel' : zM → zM → Prop) : Prop := ∀ (M N : zM), Rel M N → ∀ x1 x2 x3 x4 x5 : Int32, zsS Rel' (f_X10_feed M x1 x2 x3 x4 x5) (f_X11_feed N x1 x2 x3 x4 x5)
set_option maxRecDepth 100000 in
set_option maxHeartbeats 4000000 in
theorem lc_feed (C : zLC p l s m args c gx gr cO qo b L xs Ts) (hz : zs_feed Rel Rel') (hR : Rel M N) (hZ : zLS gx gr cO qo s H locs M N v) (hl : lv_has ls 7 (zLl b gx gr qo i)) (hi1 : vp_in (i + 1) L) (hi2 : vp_in (i + 2) L) (hi3 : vp_in (i + 3) L) (hi4 : vp_in (i + 4) L) (hi5 : vp_in (i + 5) L) (hc : cells + 60 ≤ 601024) (hsl : slots + 360 ≤ 7293033) (kk : zLK p l e s m args below meth c Q Rel' gx gr cO qo b i cells slots) : W p l e room_1 s m args below meth c H locs cells slots Q (F0 m 260 ls []) := by
  obtain ⟨hst, E, Er, hT, S, hKo, hNc, A, hX, hbl⟩ := C
  have hx := E.1.1
  have hb := E.1.2.1
  have hl : lv_has ls 7 [(0, .ref b), (1, .ref (gx.2.2 0)), (2, .ref (gr.2.2 0)), (3, .ref qo), (4, .int i)] := hl
  obtain ⟨b9, M1, N1, hfx, hfr, hR1⟩ := hz M N hR (xs (i + 1).toNatClampNeg) (xs (i + 2).toNatClampNeg) (xs (i + 3).toNatClampNeg) (xs (i + 4).toNatClampNeg) (xs (i + 5).toNatClampNeg) 
  refine lv_aload_n hx hb dL_law__260 rfl (lv_at hl 1 rfl) ?_
  refine lv_aload_n hx hb dL_law__261 rfl (lv_at hl 0 rfl) ?_
  refine lv_iload hx hb dL_law__262 (lv_at hl 4 rfl) ?_
  refine lv_iconst (v := 1) hx hb dL_law__264 (by decide) ?_
  refine lv_iadd hx hb dL_law__265 ?_
  refine va_sld hx hb hX hbl (Nat.not_le.mpr hbl) hZ.2.2.2 hi1 dL_law__266 ?_
  refine lv_aload_n hx hb dL_law__267 rfl (lv_at hl 0 rfl) ?_
  refine lv_iload hx hb dL_law__268 (lv_at hl 4 rfl) ?_
  refine lv_iconst (v := 2) hx hb dL_law__270 (by decide) ?_
  refine lv_iadd hx hb dL_law__271 ?_
  refine va_sld hx hb hX hbl (Nat.not_le.mpr hbl) hZ.2.2.2 hi2 dL_law__272 ?_
  refine lv_aload_n hx hb dL_law__273 rfl (lv_at hl 0 rfl) ?_
  refine lv_iload hx hb dL_law__274 (lv_at hl 4 rfl) ?_
  refine lv_iconst (v := 3) hx hb dL_law__276 (by decide) ?_
  refine lv_iadd hx hb dL_law__277 ?_
  refine va_sld hx hb hX hbl (Nat.not_le.mpr hbl) hZ.2.2.2 hi3 dL_law__278 ?_
  refine lv_aload_n hx hb dL_law__279 rfl (lv_at hl 0 rfl) ?_
  refine lv_iload hx hb dL_law__280 (lv_at hl 4 rfl) ?_
  refine lv_iconst (v := 4) hx hb dL_law__282 (by decide) ?_
  refine lv_iadd hx hb dL_law__283 ?_
  refine va_sld hx hb hX hbl (Nat.not_le.mpr hbl) hZ.2.2.2 hi4 dL_law__284 ?_
  refine lv_aload_n hx hb dL_law__285 rfl (lv_at hl 0 rfl) ?_
  refine lv_iload hx hb dL_law__286 (lv_at hl 4 rfl) ?_
  refine lv_iconst (v := 5) hx hb dL_law__288 (by decide) ?_
  refine lv_iadd hx hb dL_law__289 ?_
  refine va_sld hx hb hX hbl (Nat.not_le.mpr hbl) hZ.2.2.2 hi5 dL_law__290 ?_
  refine lx_i (zrunV (As := [.int (xs (i + 1).toNatClampNeg), .int (xs (i + 2).toNatClampNeg), .int (xs (i + 3).toNatClampNeg), .int (xs (i + 4).toNatClampNeg), .int (xs (i + 5).toNatClampNeg)]) (rest := []) E (hZ.x A) (xb_X10 xs_0) (xe_X10 xs_0 _) rfl rfl v_X10_feed kw_398 (c_X10_feed l gx M (xs (i + 1).toNatClampNeg) (xs (i + 2).toNatClampNeg) (xs (i + 3).toNatClampNeg) (xs (i + 4).toNatClampNeg) (xs (i + 5).toNatClampNeg) hfx _) rfl hl.1 rfl (Nat.le_of_ble_eq_true rfl) ⟨by decide, by decide⟩ ⟨by show _ ≤ 601024; omega, by show _ ≤ 7293033; omega⟩ dL_law__291) A hZ (fun x9 M9 H locs hp hZ => ?_)
  obtain ⟨rfl, rfl⟩ := Prod.mk.inj hp
  refine lv_aload_n hx hb dL_law__294 rfl (lv_at hl 2 rfl) ?_
  refine lv_aload_n hx hb dL_law__295 rfl (lv_at hl 0 rfl) ?_
  refine lv_iload hx hb dL_law__296 (lv_at hl 4 rfl) ?_
  refine lv_iconst (v := 1) hx hb dL_law__298 (by decide) ?_
  refine lv_iadd hx hb dL_law__299 ?_
  refine va_sld hx hb hX hbl (Nat.not_le.mpr hbl) hZ.2.2.2 hi1 dL_law__300 ?_
  refine lv_aload_n hx hb dL_law__301 rfl (lv_at hl 0 rfl) ?_
  refine lv_iload hx hb dL_law__302 (lv_at hl 4 rfl) ?_
  refine lv_iconst (v := 2) hx hb dL_law__304 (by decide) ?_
  refine lv_iadd hx hb dL_law__305 ?_
  refine va_sld hx hb hX hbl (Nat.not_le.mpr hbl) hZ.2.2.2 hi2 dL_law__306 ?_
  refine lv_aload_n hx hb dL_law__307 rfl (lv_at hl 0 rfl) ?_
  refine lv_iload hx hb dL_law__308 (lv_at hl 4 rfl) ?_
  refine lv_iconst (v := 3) hx hb dL_law__310 (by decide) ?_
  refine lv_iadd hx hb dL_law__311 ?_
  refine va_sld hx hb hX hbl (Nat.not_le.mpr hbl) hZ.2.2.2 hi3 dL_law__312 ?_
  refine lv_aload_n hx hb dL_law__313 rfl (lv_at hl 0 rfl) ?_
  refine lv_iload hx hb dL_law__314 (lv_at hl 4 rfl) ?_
  refine lv_iconst (v := 4) hx hb dL_law__316 (by decide) ?_
  refine lv_iadd hx hb dL_law__317 ?_
  refine va_sld hx hb hX hbl (Nat.not_le.mpr hbl) hZ.2.2.2 hi4 dL_law__318 ?_
  refine lv_aload_n hx hb dL_law__319 rfl (lv_at hl 0 rfl) ?_
  refine lv_iload hx hb dL_law__320 (lv_at hl 4 rfl) ?_
  refine lv_iconst (v := 5) hx hb dL_law__322 (by decide) ?_
  refine lv_iadd hx hb dL_law__323 ?_
  refine va_sld hx hb hX hbl (Nat.not_le.mpr hbl) hZ.2.2.2 hi5 dL_law__324 ?_
  refine lr_i (zrunV (As := [.int (xs (i + 1).toNatClampNeg), .int (xs (i + 2).toNatClampNeg), .int (xs (i + 3).toNatClampNeg), .int (xs (i + 4).toNatClampNeg), .int (xs (i + 5).toNatClampNeg)]) (rest := [.int b9]) Er (hZ.r A) (by decide) (re_0 _) rfl rfl v_X11_feed kw_1456 (c_X11_feed l gr N (xs (i + 1).toNatClampNeg) (xs (i + 2).toNatClampNeg) (xs (i + 3).toNatClampNeg) (xs (i + 4).toNatClampNeg) (xs (i + 5).toNatClampNeg) hfr _) rfl hl.1 rfl (Nat.le_of_ble_eq_true rfl) ⟨by decide, by decide⟩ ⟨by show _ ≤ 601024; omega, by show _ ≤ 7293033; omega⟩ dL_law__325) A hZ (fun x9 N9 H locs hp hZ => ?_)
  obtain ⟨rfl, rfl⟩ := Prod.mk.inj hp
  refine lv_icmp_eq (tgt := 3069) hx hb dL_law__328 (by decide) (fun _ => ?_) (fun hne => absurd rfl hne)
  refine W.widen (k := cells + 60) (n := slots + 360) (by omega) (by omega) ?_
  exact kk _ _ _ _ _ _ hR1 hZ (lv_sub hl [0, 1, 2, 3, 4] rfl)
def zs_end (Rel Rel' : zM → zM → Prop) : Prop := ∀ (M N : zM), Rel M N → ∀ x1 : Int32, zsS Rel' (f_X10_end M x1) (f_X11_end N x1)
set_option maxRecDepth 100000 in
set_option maxHeartbeats 4000000 in
theorem lc_end (C : zLC p l s m args c gx gr cO qo b L xs Ts) (hz : zs_end Rel Rel') (hR : Rel M N) (hZ : zLS gx gr cO qo s H locs M N v) (hl : lv_has ls 7 (zLl b gx gr qo i)) (hi1 : vp_in (i + 1) L) (hi2 : vp_in (i + 2) L) (hi3 : vp_in (i + 3) L) (hi4 : vp_in (i + 4) L) (hi5 : vp_in (i + 5) L) (hc : cells + 60 ≤ 601024) (hsl : slots + 360 ≤ 7293033) (kk : zLK p l e s m args below meth c Q Rel' gx gr cO qo b i cells slots) : W p l e room_1 s m args below meth c H locs cells slots Q (F0 m 333 ls []) := by
  obtain ⟨hst, E, Er, hT, S, hKo, hNc, A, hX, hbl⟩ := C
  have hx := E.1.1
  have hb := E.1.2.1
  have hl : lv_has ls 7 [(0, .ref b), (1, .ref (gx.2.2 0)), (2, .ref (gr.2.2 0)), (3, .ref qo), (4, .int i)] := hl
  obtain ⟨b9, M1, N1, hfx, hfr, hR1⟩ := hz M N hR (xs (i + 1).toNatClampNeg) 
  refine lv_aload_n hx hb dL_law__333 rfl (lv_at hl 1 rfl) ?_
  refine lv_aload_n hx hb dL_law__334 rfl (lv_at hl 0 rfl) ?_
  refine lv_iload hx hb dL_law__335 (lv_at hl 4 rfl) ?_
  refine lv_iconst (v := 1) hx hb dL_law__337 (by decide) ?_
  refine lv_iadd hx hb dL_law__338 ?_
  refine va_sld hx hb hX hbl (Nat.not_le.mpr hbl) hZ.2.2.2 hi1 dL_law__339 ?_
  refine lx_i (zrunV (As := [.int (xs (i + 1).toNatClampNeg)]) (rest := []) E (hZ.x A) (xb_X10 xs_0) (xe_X10 xs_0 _) rfl rfl v_X10_end kw_409 (c_X10_end l gx M (xs (i + 1).toNatClampNeg) hfx _) rfl hl.1 rfl (Nat.le_of_ble_eq_true rfl) ⟨by decide, by decide⟩ ⟨by show _ ≤ 601024; omega, by show _ ≤ 7293033; omega⟩ dL_law__340) A hZ (fun x9 M9 H locs hp hZ => ?_)
  obtain ⟨rfl, rfl⟩ := Prod.mk.inj hp
  refine lv_aload_n hx hb dL_law__343 rfl (lv_at hl 2 rfl) ?_
  refine lv_aload_n hx hb dL_law__344 rfl (lv_at hl 0 rfl) ?_
  refine lv_iload hx hb dL_law__345 (lv_at hl 4 rfl) ?_
  refine lv_iconst (v := 1) hx hb dL_law__347 (by decide) ?_
  refine lv_iadd hx hb dL_law__348 ?_
  refine va_sld hx hb hX hbl (Nat.not_le.mpr hbl) hZ.2.2.2 hi1 dL_law__349 ?_
  refine lr_i (zrunV (As := [.int (xs (i + 1).toNatClampNeg)]) (rest := [.int b9]) Er (hZ.r A) (by decide) (re_0 _) rfl rfl v_X11_end kw_1460 (c_X11_end l gr N (xs (i + 1).toNatClampNeg) hfr _) rfl hl.1 rfl (Nat.le_of_ble_eq_true rfl) ⟨by decide, by decide⟩ ⟨by show _ ≤ 601024; omega, by show _ ≤ 7293033; omega⟩ dL_law__350) A hZ (fun x9 N9 H locs hp hZ => ?_)
  obtain ⟨rfl, rfl⟩ := Prod.mk.inj hp
  refine lv_icmp_eq (tgt := 3069) hx hb dL_law__353 (by decide) (fun _ => ?_) (fun hne => absurd rfl hne)
  refine W.widen (k := cells + 60) (n := slots + 360) (by omega) (by omega) ?_
  exact kk _ _ _ _ _ _ hR1 hZ (lv_sub hl [0, 1, 2, 3, 4] rfl)
def zs_coast (Rel Rel' : zM → zM → Prop) : Prop := ∀ (M N : zM), Rel M N → zsT Rel' (f_X10_coast M ) (f_X11_coast N ) (fun k => k = 1 ∨ k = 4) (fun k => if k = 1 then 1 else 2)
set_option maxRecDepth 100000 in
set_option maxHeartbeats 4000000 in
theorem lc_coast (C : zLC p l s m args c gx gr cO qo b L xs Ts) (hz : zs_coast Rel Rel') (hR : Rel M N) (hZ : zLS gx gr cO qo s H locs M N v) (hl : lv_has ls 7 (zLl b gx gr qo i)) (hi1 : vp_in (i + 1) L) (hi2 : vp_in (i + 2) L) (hi3 : vp_in (i + 3) L) (hi4 : vp_in (i + 4) L) (hi5 : vp_in (i + 5) L) (hc : cells + 60 ≤ 601024) (hsl : slots + 360 ≤ 7293033) (kk : zLK p l e s m args below meth c Q Rel' gx gr cO qo b i cells slots) : W p l e room_1 s m args below meth c H locs cells slots Q (F0 m 358 ls []) := by
  obtain ⟨hst, E, Er, hT, S, hKo, hNc, A, hX, hbl⟩ := C
  have hx := E.1.1
  have hb := E.1.2.1
  have hl : lv_has ls 7 [(0, .ref b), (1, .ref (gx.2.2 0)), (2, .ref (gr.2.2 0)), (3, .ref qo), (4, .int i)] := hl
  obtain ⟨M1, b9, N1, hfr, hR1, hcc⟩ := hz M N hR  
  rcases hcc with ⟨k0, hfx, hk0, ht⟩ | ⟨hfx, ht⟩
  · refine lv_aload_n hx hb dL_law__358 rfl (lv_at hl 1 rfl) ?_
    refine lv_aload_n hx hb dL_law__359 rfl (lv_at hl 3 rfl) ?_
    refine lw_i (lrunW (n := 2) (As := [.ref (gx.2.2 0), .ref qo]) (rest := []) E hT hKo hNc A hZ kw_574 kw_0 kw_573 ⟨by decide, by decide, by decide +kernel⟩ kw_572 (cw_L_coast l hst gx cO qo M v  hfx (fun _ _ h => by cases h; exact hk0)) rfl hl.1 rfl (Nat.le_of_ble_eq_true rfl) ⟨by decide, by decide⟩ ⟨by show cells + 1 ≤ 601024; omega, by show slots + 6 ≤ 7293033; omega⟩ dL_law__360) A hZ (fun H locs hZ => ?_)
    have hZ : zLS gx gr cO qo s H locs M1 N v := hZ
    refine W.widen (k := cells + 48) (n := slots + 288) (by omega) (by omega) ?_
    refine lv_istore (lv' := [(5, .int ((fun k => if k = 1 then 1 else 2) k0)), (0, .ref b), (1, .ref (gx.2.2 0)), (2, .ref (gr.2.2 0)), (3, .ref qo), (4, .int i)]) hx hb dL_law__363 hl (by decide) rfl (fun ls hl => ?_)
    refine lv_aload_n hx hb dL_law__365 rfl (lv_at hl 3 rfl) ?_
    refine lr_i (zrunVs (As := []) (rest := []) Er S (hZ.r A) (by decide) (re_0 _) rfl rfl v_X11_coast kw_1468 (c_X11_coast l gr N  hfr _) rfl hl.1 rfl (Nat.le_of_ble_eq_true rfl) ⟨by decide, by decide⟩ ⟨by show _ ≤ 601024; omega, by show _ ≤ 7293033; omega⟩ dL_law__366) A hZ (fun x9 N9 H locs hp hZ => ?_)
    obtain ⟨rfl, rfl⟩ := Prod.mk.inj hp
    refine lv_istore (lv' := [(6, .int b9), (5, .int ((fun k => if k = 1 then 1 else 2) k0)), (0, .ref b), (1, .ref (gx.2.2 0)), (2, .ref (gr.2.2 0)), (3, .ref qo), (4, .int i)]) hx hb dL_law__369 hl (by decide) rfl (fun ls hl => ?_)
    refine lv_aload_n hx hb dL_law__371 rfl (lv_at hl 4 rfl) ?_
    refine lr_i (zrunV (As := []) (rest := []) Er (hZ.r A) (by decide) (re_0 _) rfl rfl v_X11_thrown kw_1358 (c_X11_thrown l gr N1 (r := N1 0 0) rfl _) rfl hl.1 rfl (Nat.le_of_ble_eq_true rfl) ⟨by decide, by decide⟩ ⟨by show _ ≤ 601024; omega, by show _ ≤ 7293033; omega⟩ dL_law__372) A hZ (fun x9 N9 H locs hp hZ => ?_)
    obtain ⟨e1, e2⟩ := hp
    rw [e2] at hZ
    rw [e1]
    refine lv_iload hx hb dL_law__375 (lv_at hl 1 rfl) ?_
    refine lv_icmp_eq (tgt := 382) hx hb dL_law__377 (by decide) (fun _ => ?_) (fun hne => absurd ht hne)
    refine lv_iload hx hb dL_law__382 (lv_at hl 1 rfl) ?_
    refine lv_if_ne (tgt := 399) hx hb dL_law__384 (by decide) (fun _ => ?_) (fun h0 => absurd h0 (by show ¬ (if k0 = 1 then (1 : Int32) else 2) = 0; split <;> decide))
    refine lv_goto (tgt := 3069) hx hb dL_law__399 (by decide) ?_
    refine W.widen (k := cells + 60) (n := slots + 360) (by omega) (by omega) ?_
    exact kk _ _ _ _ _ _ hR1 hZ (lv_sub hl [2, 3, 4, 5, 6] rfl)
  · refine lv_aload_n hx hb dL_law__358 rfl (lv_at hl 1 rfl) ?_
    refine lv_aload_n hx hb dL_law__359 rfl (lv_at hl 3 rfl) ?_
    refine lw_i (lrunW (n := 2) (As := [.ref (gx.2.2 0), .ref qo]) (rest := []) E hT hKo hNc A hZ kw_574 kw_0 kw_573 ⟨by decide, by decide, by decide +kernel⟩ kw_572 (cw_L_coast l hst gx cO qo M v  hfx (fun _ _ h => by cases h)) rfl hl.1 rfl (Nat.le_of_ble_eq_true rfl) ⟨by decide, by decide⟩ ⟨by show cells + 1 ≤ 601024; omega, by show slots + 6 ≤ 7293033; omega⟩ dL_law__360) A hZ (fun H locs hZ => ?_)
    have hZ : zLS gx gr cO qo s H locs M1 N (b9.toInt64) := hZ
    refine W.widen (k := cells + 48) (n := slots + 288) (by omega) (by omega) ?_
    refine lv_istore (lv' := [(5, .int 0), (0, .ref b), (1, .ref (gx.2.2 0)), (2, .ref (gr.2.2 0)), (3, .ref qo), (4, .int i)]) hx hb dL_law__363 hl (by decide) rfl (fun ls hl => ?_)
    refine lv_aload_n hx hb dL_law__365 rfl (lv_at hl 3 rfl) ?_
    refine lr_i (zrunVs (As := []) (rest := []) Er S (hZ.r A) (by decide) (re_0 _) rfl rfl v_X11_coast kw_1468 (c_X11_coast l gr N  hfr _) rfl hl.1 rfl (Nat.le_of_ble_eq_true rfl) ⟨by decide, by decide⟩ ⟨by show _ ≤ 601024; omega, by show _ ≤ 7293033; omega⟩ dL_law__366) A hZ (fun x9 N9 H locs hp hZ => ?_)
    obtain ⟨rfl, rfl⟩ := Prod.mk.inj hp
    refine lv_istore (lv' := [(6, .int b9), (5, .int 0), (0, .ref b), (1, .ref (gx.2.2 0)), (2, .ref (gr.2.2 0)), (3, .ref qo), (4, .int i)]) hx hb dL_law__369 hl (by decide) rfl (fun ls hl => ?_)
    refine lv_aload_n hx hb dL_law__371 rfl (lv_at hl 4 rfl) ?_
    refine lr_i (zrunV (As := []) (rest := []) Er (hZ.r A) (by decide) (re_0 _) rfl rfl v_X11_thrown kw_1358 (c_X11_thrown l gr N1 (r := N1 0 0) rfl _) rfl hl.1 rfl (Nat.le_of_ble_eq_true rfl) ⟨by decide, by decide⟩ ⟨by show _ ≤ 601024; omega, by show _ ≤ 7293033; omega⟩ dL_law__372) A hZ (fun x9 N9 H locs hp hZ => ?_)
    obtain ⟨e1, e2⟩ := hp
    rw [e2] at hZ
    rw [e1]
    refine lv_iload hx hb dL_law__375 (lv_at hl 1 rfl) ?_
    refine lv_icmp_eq (tgt := 382) hx hb dL_law__377 (by decide) (fun _ => ?_) (fun hne => absurd ht hne)
    refine lv_iload hx hb dL_law__382 (lv_at hl 1 rfl) ?_
    refine lv_if_ne (tgt := 399) hx hb dL_law__384 (by decide) (fun hne => absurd rfl hne) (fun _ => ?_)
    refine lv_aload_n hx hb dL_law__387 rfl (lv_at hl 5 rfl) ?_
    refine lv_iconst (v := 0) hx hb dL_law__388 (by decide) ?_
    refine va_lald hx hb hKo hZ.2.2.1 0 0 rfl rfl (zin_of (by decide)) dL_law__389 ?_
    refine lv_iload hx hb dL_law__390 (lv_at hl 0 rfl) ?_
    refine lv_i2l hx hb dL_law__392 rfl ?_
    refine W.lcmp hx hb dL_law__393 ?_
    refine lv_if_eq (tgt := 399) hx hb dL_law__394 (by decide) (fun _ => ?_) (fun hne => absurd (zcmp_self _) hne)
    refine lv_goto (tgt := 3069) hx hb dL_law__399 (by decide) ?_
    refine W.widen (k := cells + 60) (n := slots + 360) (by omega) (by omega) ?_
    exact kk _ _ _ _ _ _ hR1 hZ (lv_sub hl [2, 3, 4, 5, 6] rfl)
def zs_law (Rel Rel' : zM → zM → Prop) : Prop := ∀ (M N : zM), Rel M N → zsT Rel' (f_X10_law M ) (f_X11_law N ) (fun k => k = 1) (fun _ => 1)
set_option maxRecDepth 100000 in
set_option maxHeartbeats 4000000 in
theorem lc_law (C : zLC p l s m args c gx gr cO qo b L xs Ts) (hz : zs_law Rel Rel') (hR : Rel M N) (hZ : zLS gx gr cO qo s H locs M N v) (hl : lv_has ls 7 (zLl b gx gr qo i)) (hi1 : vp_in (i + 1) L) (hi2 : vp_in (i + 2) L) (hi3 : vp_in (i + 3) L) (hi4 : vp_in (i + 4) L) (hi5 : vp_in (i + 5) L) (hc : cells + 60 ≤ 601024) (hsl : slots + 360 ≤ 7293033) (kk : zLK p l e s m args below meth c Q Rel' gx gr cO qo b i cells slots) : W p l e room_1 s m args below meth c H locs cells slots Q (F0 m 402 ls []) := by
  obtain ⟨hst, E, Er, hT, S, hKo, hNc, A, hX, hbl⟩ := C
  have hx := E.1.1
  have hb := E.1.2.1
  have hl : lv_has ls 7 [(0, .ref b), (1, .ref (gx.2.2 0)), (2, .ref (gr.2.2 0)), (3, .ref qo), (4, .int i)] := hl
  obtain ⟨M1, b9, N1, hfr, hR1, hcc⟩ := hz M N hR  
  rcases hcc with ⟨k0, hfx, hk0, ht⟩ | ⟨hfx, ht⟩
  · refine lv_aload_n hx hb dL_law__402 rfl (lv_at hl 1 rfl) ?_
    refine lv_aload_n hx hb dL_law__403 rfl (lv_at hl 3 rfl) ?_
    refine lw_i (lrunW (n := 2) (As := [.ref (gx.2.2 0), .ref qo]) (rest := []) E hT hKo hNc A hZ kw_788 kw_0 kw_787 ⟨by decide, by decide, by decide +kernel⟩ kw_786 (cw_L_law l hst gx cO qo M v  hfx (fun _ _ h => by cases h; exact hk0)) rfl hl.1 rfl (Nat.le_of_ble_eq_true rfl) ⟨by decide, by decide⟩ ⟨by show cells + 1 ≤ 601024; omega, by show slots + 6 ≤ 7293033; omega⟩ dL_law__404) A hZ (fun H locs hZ => ?_)
    have hZ : zLS gx gr cO qo s H locs M1 N v := hZ
    refine W.widen (k := cells + 48) (n := slots + 288) (by omega) (by omega) ?_
    refine lv_istore (lv' := [(5, .int ((fun _ => 1) k0)), (0, .ref b), (1, .ref (gx.2.2 0)), (2, .ref (gr.2.2 0)), (3, .ref qo), (4, .int i)]) hx hb dL_law__407 hl (by decide) rfl (fun ls hl => ?_)
    refine lv_aload_n hx hb dL_law__409 rfl (lv_at hl 3 rfl) ?_
    refine lr_i (zrunVs (As := []) (rest := []) Er S (hZ.r A) (by decide) (re_0 _) rfl rfl v_X11_law kw_1655 (c_X11_law l gr N  hfr _) rfl hl.1 rfl (Nat.le_of_ble_eq_true rfl) ⟨by decide, by decide⟩ ⟨by show _ ≤ 601024; omega, by show _ ≤ 7293033; omega⟩ dL_law__410) A hZ (fun x9 N9 H locs hp hZ => ?_)
    obtain ⟨rfl, rfl⟩ := Prod.mk.inj hp
    refine lv_istore (lv' := [(6, .int b9), (5, .int ((fun _ => 1) k0)), (0, .ref b), (1, .ref (gx.2.2 0)), (2, .ref (gr.2.2 0)), (3, .ref qo), (4, .int i)]) hx hb dL_law__413 hl (by decide) rfl (fun ls hl => ?_)
    refine lv_aload_n hx hb dL_law__415 rfl (lv_at hl 4 rfl) ?_
    refine lr_i (zrunV (As := []) (rest := []) Er (hZ.r A) (by decide) (re_0 _) rfl rfl v_X11_thrown kw_1358 (c_X11_thrown l gr N1 (r := N1 0 0) rfl _) rfl hl.1 rfl (Nat.le_of_ble_eq_true rfl) ⟨by decide, by decide⟩ ⟨by show _ ≤ 601024; omega, by show _ ≤ 7293033; omega⟩ dL_law__416) A hZ (fun x9 N9 H locs hp hZ => ?_)
    obtain ⟨e1, e2⟩ := hp
    rw [e2] at hZ
    rw [e1]
    refine lv_iload hx hb dL_law__419 (lv_at hl 1 rfl) ?_
    refine lv_icmp_eq (tgt := 426) hx hb dL_law__421 (by decide) (fun _ => ?_) (fun hne => absurd ht hne)
    refine lv_iload hx hb dL_law__426 (lv_at hl 1 rfl) ?_
    refine lv_if_ne (tgt := 443) hx hb dL_law__428 (by decide) (fun _ => ?_) (fun h0 => absurd h0 (by show ¬ (1 : Int32) = 0; decide))
    refine lv_goto (tgt := 3069) hx hb dL_law__443 (by decide) ?_
    refine W.widen (k := cells + 60) (n := slots + 360) (by omega) (by omega) ?_
    exact kk _ _ _ _ _ _ hR1 hZ (lv_sub hl [2, 3, 4, 5, 6] rfl)
  · refine lv_aload_n hx hb dL_law__402 rfl (lv_at hl 1 rfl) ?_
    refine lv_aload_n hx hb dL_law__403 rfl (lv_at hl 3 rfl) ?_
    refine lw_i (lrunW (n := 2) (As := [.ref (gx.2.2 0), .ref qo]) (rest := []) E hT hKo hNc A hZ kw_788 kw_0 kw_787 ⟨by decide, by decide, by decide +kernel⟩ kw_786 (cw_L_law l hst gx cO qo M v  hfx (fun _ _ h => by cases h)) rfl hl.1 rfl (Nat.le_of_ble_eq_true rfl) ⟨by decide, by decide⟩ ⟨by show cells + 1 ≤ 601024; omega, by show slots + 6 ≤ 7293033; omega⟩ dL_law__404) A hZ (fun H locs hZ => ?_)
    have hZ : zLS gx gr cO qo s H locs M1 N (b9.toInt64) := hZ
    refine W.widen (k := cells + 48) (n := slots + 288) (by omega) (by omega) ?_
    refine lv_istore (lv' := [(5, .int 0), (0, .ref b), (1, .ref (gx.2.2 0)), (2, .ref (gr.2.2 0)), (3, .ref qo), (4, .int i)]) hx hb dL_law__407 hl (by decide) rfl (fun ls hl => ?_)
    refine lv_aload_n hx hb dL_law__409 rfl (lv_at hl 3 rfl) ?_
    refine lr_i (zrunVs (As := []) (rest := []) Er S (hZ.r A) (by decide) (re_0 _) rfl rfl v_X11_law kw_1655 (c_X11_law l gr N  hfr _) rfl hl.1 rfl (Nat.le_of_ble_eq_true rfl) ⟨by decide, by decide⟩ ⟨by show _ ≤ 601024; omega, by show _ ≤ 7293033; omega⟩ dL_law__410) A hZ (fun x9 N9 H locs hp hZ => ?_)
    obtain ⟨rfl, rfl⟩ := Prod.mk.inj hp
    refine lv_istore (lv' := [(6, .int b9), (5, .int 0), (0, .ref b), (1, .ref (gx.2.2 0)), (2, .ref (gr.2.2 0)), (3, .ref qo), (4, .int i)]) hx hb dL_law__413 hl (by decide) rfl (fun ls hl => ?_)
    refine lv_aload_n hx hb dL_law__415 rfl (lv_at hl 4 rfl) ?_
    refine lr_i (zrunV (As := []) (rest := []) Er (hZ.r A) (by decide) (re_0 _) rfl rfl v_X11_thrown kw_1358 (c_X11_thrown l gr N1 (r := N1 0 0) rfl _) rfl hl.1 rfl (Nat.le_of_ble_eq_true rfl) ⟨by decide, by decide⟩ ⟨by show _ ≤ 601024; omega, by show _ ≤ 7293033; omega⟩ dL_law__416) A hZ (fun x9 N9 H locs hp hZ => ?_)
    obtain ⟨e1, e2⟩ := hp
    rw [e2] at hZ
    rw [e1]
    refine lv_iload hx hb dL_law__419 (lv_at hl 1 rfl) ?_
    refine lv_icmp_eq (tgt := 426) hx hb dL_law__421 (by decide) (fun _ => ?_) (fun hne => absurd ht hne)
    refine lv_iload hx hb dL_law__426 (lv_at hl 1 rfl) ?_
    refine lv_if_ne (tgt := 443) hx hb dL_law__428 (by decide) (fun hne => absurd rfl hne) (fun _ => ?_)
    refine lv_aload_n hx hb dL_law__431 rfl (lv_at hl 5 rfl) ?_
    refine lv_iconst (v := 0) hx hb dL_law__432 (by decide) ?_
    refine va_lald hx hb hKo hZ.2.2.1 0 0 rfl rfl (zin_of (by decide)) dL_law__433 ?_
    refine lv_iload hx hb dL_law__434 (lv_at hl 0 rfl) ?_
    refine lv_i2l hx hb dL_law__436 rfl ?_
    refine W.lcmp hx hb dL_law__437 ?_
    refine lv_if_eq (tgt := 443) hx hb dL_law__438 (by decide) (fun _ => ?_) (fun hne => absurd (zcmp_self _) hne)
    refine lv_goto (tgt := 3069) hx hb dL_law__443 (by decide) ?_
    refine W.widen (k := cells + 60) (n := slots + 360) (by omega) (by omega) ?_
    exact kk _ _ _ _ _ _ hR1 hZ (lv_sub hl [2, 3, 4, 5, 6] rfl)
def zs_fault (Rel Rel' : zM → zM → Prop) : Prop := ∀ (M N : zM), Rel M N → zsR Rel' M (f_X10_fault M ) (f_X11_fault N )
set_option maxRecDepth 100000 in
set_option maxHeartbeats 4000000 in
theorem lc_fault (C : zLC p l s m args c gx gr cO qo b L xs Ts) (hz : zs_fault Rel Rel') (hR : Rel M N) (hZ : zLS gx gr cO qo s H locs M N v) (hl : lv_has ls 7 (zLl b gx gr qo i)) (hi1 : vp_in (i + 1) L) (hi2 : vp_in (i + 2) L) (hi3 : vp_in (i + 3) L) (hi4 : vp_in (i + 4) L) (hi5 : vp_in (i + 5) L) (hc : cells + 60 ≤ 601024) (hsl : slots + 360 ≤ 7293033) (kk : zLK p l e s m args below meth c Q Rel' gx gr cO qo b i cells slots) : W p l e room_1 s m args below meth c H locs cells slots Q (F0 m 446 ls []) := by
  obtain ⟨hst, E, Er, hT, S, hKo, hNc, A, hX, hbl⟩ := C
  have hx := E.1.1
  have hb := E.1.2.1
  have hl : lv_has ls 7 [(0, .ref b), (1, .ref (gx.2.2 0)), (2, .ref (gr.2.2 0)), (3, .ref qo), (4, .int i)] := hl
  obtain ⟨b9, N1, hfx, hfr, hR1⟩ := hz M N hR  
  refine lv_aload_n hx hb dL_law__446 rfl (lv_at hl 1 rfl) ?_
  refine lx_i (zrunV (As := []) (rest := []) E (hZ.x A) (xb_X10 xs_0) (xe_X10 xs_0 _) rfl rfl v_X10_fault kw_413 (c_X10_fault l gx M  hfx _) rfl hl.1 rfl (Nat.le_of_ble_eq_true rfl) ⟨by decide, by decide⟩ ⟨by show _ ≤ 601024; omega, by show _ ≤ 7293033; omega⟩ dL_law__447) A hZ (fun x9 M9 H locs hp hZ => ?_)
  obtain ⟨e1, e2⟩ := hp
  rw [e2] at hZ
  rw [e1]
  refine lv_aload_n hx hb dL_law__450 rfl (lv_at hl 2 rfl) ?_
  refine lr_i (zrunV (As := []) (rest := [.int b9]) Er (hZ.r A) (by decide) (re_0 _) rfl rfl v_X11_fault kw_1464 (c_X11_fault l gr N  hfr _) rfl hl.1 rfl (Nat.le_of_ble_eq_true rfl) ⟨by decide, by decide⟩ ⟨by show _ ≤ 601024; omega, by show _ ≤ 7293033; omega⟩ dL_law__451) A hZ (fun x9 N9 H locs hp hZ => ?_)
  obtain ⟨rfl, rfl⟩ := Prod.mk.inj hp
  refine lv_icmp_eq (tgt := 3069) hx hb dL_law__454 (by decide) (fun _ => ?_) (fun hne => absurd rfl hne)
  refine W.widen (k := cells + 60) (n := slots + 360) (by omega) (by omega) ?_
  exact kk _ _ _ _ _ _ hR1 hZ (lv_sub hl [0, 1, 2, 3, 4] rfl)
def zs_ground (Rel Rel' : zM → zM → Prop) : Prop := ∀ (M N : zM), Rel M N → ∀ x1 : Int32, zsT Rel' (f_X10_ground M x1) (f_X11_ground N x1) (fun k => k = 0) (fun _ => 1)
set_option maxRecDepth 100000 in
set_option maxHeartbeats 4000000 in
theorem lc_ground (C : zLC p l s m args c gx gr cO qo b L xs Ts) (hz : zs_ground Rel Rel') (hR : Rel M N) (hZ : zLS gx gr cO qo s H locs M N v) (hl : lv_has ls 7 (zLl b gx gr qo i)) (hi1 : vp_in (i + 1) L) (hi2 : vp_in (i + 2) L) (hi3 : vp_in (i + 3) L) (hi4 : vp_in (i + 4) L) (hi5 : vp_in (i + 5) L) (hc : cells + 60 ≤ 601024) (hsl : slots + 360 ≤ 7293033) (kk : zLK p l e s m args below meth c Q Rel' gx gr cO qo b i cells slots) : W p l e room_1 s m args below meth c H locs cells slots Q (F0 m 459 ls []) := by
  obtain ⟨hst, E, Er, hT, S, hKo, hNc, A, hX, hbl⟩ := C
  have hx := E.1.1
  have hb := E.1.2.1
  have hl : lv_has ls 7 [(0, .ref b), (1, .ref (gx.2.2 0)), (2, .ref (gr.2.2 0)), (3, .ref qo), (4, .int i)] := hl
  obtain ⟨M1, b9, N1, hfr, hR1, hcc⟩ := hz M N hR (xs (i + 1).toNatClampNeg) 
  rcases hcc with ⟨k0, hfx, hk0, ht⟩ | ⟨hfx, ht⟩
  · refine lv_aload_n hx hb dL_law__459 rfl (lv_at hl 1 rfl) ?_
    refine lv_aload_n hx hb dL_law__460 rfl (lv_at hl 0 rfl) ?_
    refine lv_iload hx hb dL_law__461 (lv_at hl 4 rfl) ?_
    refine lv_iconst (v := 1) hx hb dL_law__463 (by decide) ?_
    refine lv_iadd hx hb dL_law__464 ?_
    refine va_sld hx hb hX hbl (Nat.not_le.mpr hbl) hZ.2.2.2 hi1 dL_law__465 ?_
    refine lv_aload_n hx hb dL_law__466 rfl (lv_at hl 3 rfl) ?_
    refine lw_i (lrunW (n := 3) (As := [.ref (gx.2.2 0), .int (xs (i + 1).toNatClampNeg), .ref qo]) (rest := []) E hT hKo hNc A hZ kw_838 kw_0 kw_837 ⟨by decide, by decide, by decide +kernel⟩ kw_836 (cw_L_ground l hst gx cO qo M v (xs (i + 1).toNatClampNeg) hfx (fun _ _ h => by cases h; exact hk0)) rfl hl.1 rfl (Nat.le_of_ble_eq_true rfl) ⟨by decide, by decide⟩ ⟨by show cells + 1 ≤ 601024; omega, by show slots + 6 ≤ 7293033; omega⟩ dL_law__467) A hZ (fun H locs hZ => ?_)
    have hZ : zLS gx gr cO qo s H locs M1 N v := hZ
    refine W.widen (k := cells + 48) (n := slots + 288) (by omega) (by omega) ?_
    refine lv_istore (lv' := [(5, .int ((fun _ => 1) k0)), (0, .ref b), (1, .ref (gx.2.2 0)), (2, .ref (gr.2.2 0)), (3, .ref qo), (4, .int i)]) hx hb dL_law__470 hl (by decide) rfl (fun ls hl => ?_)
    refine lv_aload_n hx hb dL_law__472 rfl (lv_at hl 3 rfl) ?_
    refine lv_aload_n hx hb dL_law__473 rfl (lv_at hl 1 rfl) ?_
    refine lv_iload hx hb dL_law__474 (lv_at hl 5 rfl) ?_
    refine lv_iconst (v := 1) hx hb dL_law__476 (by decide) ?_
    refine lv_iadd hx hb dL_law__477 ?_
    refine va_sld hx hb hX hbl (Nat.not_le.mpr hbl) hZ.2.2.2 hi1 dL_law__478 ?_
    refine lr_i (zrunV (As := [.int (xs (i + 1).toNatClampNeg)]) (rest := []) Er (hZ.r A) (by decide) (re_0 _) rfl rfl v_X11_ground kw_1659 (c_X11_ground l gr N (xs (i + 1).toNatClampNeg) hfr _) rfl hl.1 rfl (Nat.le_of_ble_eq_true rfl) ⟨by decide, by decide⟩ ⟨by show _ ≤ 601024; omega, by show _ ≤ 7293033; omega⟩ dL_law__479) A hZ (fun x9 N9 H locs hp hZ => ?_)
    obtain ⟨rfl, rfl⟩ := Prod.mk.inj hp
    refine lv_istore (lv' := [(6, .int b9), (5, .int ((fun _ => 1) k0)), (0, .ref b), (1, .ref (gx.2.2 0)), (2, .ref (gr.2.2 0)), (3, .ref qo), (4, .int i)]) hx hb dL_law__482 hl (by decide) rfl (fun ls hl => ?_)
    refine lv_aload_n hx hb dL_law__484 rfl (lv_at hl 4 rfl) ?_
    refine lr_i (zrunV (As := []) (rest := []) Er (hZ.r A) (by decide) (re_0 _) rfl rfl v_X11_thrown kw_1358 (c_X11_thrown l gr N1 (r := N1 0 0) rfl _) rfl hl.1 rfl (Nat.le_of_ble_eq_true rfl) ⟨by decide, by decide⟩ ⟨by show _ ≤ 601024; omega, by show _ ≤ 7293033; omega⟩ dL_law__485) A hZ (fun x9 N9 H locs hp hZ => ?_)
    obtain ⟨e1, e2⟩ := hp
    rw [e2] at hZ
    rw [e1]
    refine lv_iload hx hb dL_law__488 (lv_at hl 1 rfl) ?_
    refine lv_icmp_eq (tgt := 495) hx hb dL_law__490 (by decide) (fun _ => ?_) (fun hne => absurd ht hne)
    refine lv_iload hx hb dL_law__495 (lv_at hl 1 rfl) ?_
    refine lv_if_ne (tgt := 512) hx hb dL_law__497 (by decide) (fun _ => ?_) (fun h0 => absurd h0 (by show ¬ (1 : Int32) = 0; decide))
    refine lv_goto (tgt := 3069) hx hb dL_law__512 (by decide) ?_
    refine W.widen (k := cells + 60) (n := slots + 360) (by omega) (by omega) ?_
    exact kk _ _ _ _ _ _ hR1 hZ (lv_sub hl [2, 3, 4, 5, 6] rfl)
  · refine lv_aload_n hx hb dL_law__459 rfl (lv_at hl 1 rfl) ?_
    refine lv_aload_n hx hb dL_law__460 rfl (lv_at hl 0 rfl) ?_
    refine lv_iload hx hb dL_law__461 (lv_at hl 4 rfl) ?_
    refine lv_iconst (v := 1) hx hb dL_law__463 (by decide) ?_
    refine lv_iadd hx hb dL_law__464 ?_
    refine va_sld hx hb hX hbl (Nat.not_le.mpr hbl) hZ.2.2.2 hi1 dL_law__465 ?_
    refine lv_aload_n hx hb dL_law__466 rfl (lv_at hl 3 rfl) ?_
    refine lw_i (lrunW (n := 3) (As := [.ref (gx.2.2 0), .int (xs (i + 1).toNatClampNeg), .ref qo]) (rest := []) E hT hKo hNc A hZ kw_838 kw_0 kw_837 ⟨by decide, by decide, by decide +kernel⟩ kw_836 (cw_L_ground l hst gx cO qo M v (xs (i + 1).toNatClampNeg) hfx (fun _ _ h => by cases h)) rfl hl.1 rfl (Nat.le_of_ble_eq_true rfl) ⟨by decide, by decide⟩ ⟨by show cells + 1 ≤ 601024; omega, by show slots + 6 ≤ 7293033; omega⟩ dL_law__467) A hZ (fun H locs hZ => ?_)
    have hZ : zLS gx gr cO qo s H locs M1 N (b9.toInt64) := hZ
    refine W.widen (k := cells + 48) (n := slots + 288) (by omega) (by omega) ?_
    refine lv_istore (lv' := [(5, .int 0), (0, .ref b), (1, .ref (gx.2.2 0)), (2, .ref (gr.2.2 0)), (3, .ref qo), (4, .int i)]) hx hb dL_law__470 hl (by decide) rfl (fun ls hl => ?_)
    refine lv_aload_n hx hb dL_law__472 rfl (lv_at hl 3 rfl) ?_
    refine lv_aload_n hx hb dL_law__473 rfl (lv_at hl 1 rfl) ?_
    refine lv_iload hx hb dL_law__474 (lv_at hl 5 rfl) ?_
    refine lv_iconst (v := 1) hx hb dL_law__476 (by decide) ?_
    refine lv_iadd hx hb dL_law__477 ?_
    refine va_sld hx hb hX hbl (Nat.not_le.mpr hbl) hZ.2.2.2 hi1 dL_law__478 ?_
    refine lr_i (zrunV (As := [.int (xs (i + 1).toNatClampNeg)]) (rest := []) Er (hZ.r A) (by decide) (re_0 _) rfl rfl v_X11_ground kw_1659 (c_X11_ground l gr N (xs (i + 1).toNatClampNeg) hfr _) rfl hl.1 rfl (Nat.le_of_ble_eq_true rfl) ⟨by decide, by decide⟩ ⟨by show _ ≤ 601024; omega, by show _ ≤ 7293033; omega⟩ dL_law__479) A hZ (fun x9 N9 H locs hp hZ => ?_)
    obtain ⟨rfl, rfl⟩ := Prod.mk.inj hp
    refine lv_istore (lv' := [(6, .int b9), (5, .int 0), (0, .ref b), (1, .ref (gx.2.2 0)), (2, .ref (gr.2.2 0)), (3, .ref qo), (4, .int i)]) hx hb dL_law__482 hl (by decide) rfl (fun ls hl => ?_)
    refine lv_aload_n hx hb dL_law__484 rfl (lv_at hl 4 rfl) ?_
    refine lr_i (zrunV (As := []) (rest := []) Er (hZ.r A) (by decide) (re_0 _) rfl rfl v_X11_thrown kw_1358 (c_X11_thrown l gr N1 (r := N1 0 0) rfl _) rfl hl.1 rfl (Nat.le_of_ble_eq_true rfl) ⟨by decide, by decide⟩ ⟨by show _ ≤ 601024; omega, by show _ ≤ 7293033; omega⟩ dL_law__485) A hZ (fun x9 N9 H locs hp hZ => ?_)
    obtain ⟨e1, e2⟩ := hp
    rw [e2] at hZ
    rw [e1]
    refine lv_iload hx hb dL_law__488 (lv_at hl 1 rfl) ?_
    refine lv_icmp_eq (tgt := 495) hx hb dL_law__490 (by decide) (fun _ => ?_) (fun hne => absurd ht hne)
    refine lv_iload hx hb dL_law__495 (lv_at hl 1 rfl) ?_
    refine lv_if_ne (tgt := 512) hx hb dL_law__497 (by decide) (fun hne => absurd rfl hne) (fun _ => ?_)
    refine lv_aload_n hx hb dL_law__500 rfl (lv_at hl 5 rfl) ?_
    refine lv_iconst (v := 0) hx hb dL_law__501 (by decide) ?_
    refine va_lald hx hb hKo hZ.2.2.1 0 0 rfl rfl (zin_of (by decide)) dL_law__502 ?_
    refine lv_iload hx hb dL_law__503 (lv_at hl 0 rfl) ?_
    refine lv_i2l hx hb dL_law__505 rfl ?_
    refine W.lcmp hx hb dL_law__506 ?_
    refine lv_if_eq (tgt := 512) hx hb dL_law__507 (by decide) (fun _ => ?_) (fun hne => absurd (zcmp_self _) hne)
    refine lv_goto (tgt := 3069) hx hb dL_law__512 (by decide) ?_
    refine W.widen (k := cells + 60) (n := slots + 360) (by omega) (by omega) ?_
    exact kk _ _ _ _ _ _ hR1 hZ (lv_sub hl [2, 3, 4, 5, 6] rfl)
def zs_monk (Rel Rel' : zM → zM → Prop) : Prop := ∀ (M N : zM), Rel M N → ∀ x1 x2 : Int32, zsT Rel' (f_X10_monk M x1 x2) (f_X11_monk N x1 x2) (fun k => k = 0 ∨ k = 3) (fun k => if k = 0 then 1 else 2)
set_option maxRecDepth 100000 in
set_option maxHeartbeats 4000000 in
theorem lc_monk (C : zLC p l s m args c gx gr cO qo b L xs Ts) (hz : zs_monk Rel Rel') (hR : Rel M N) (hZ : zLS gx gr cO qo s H locs M N v) (hl : lv_has ls 7 (zLl b gx gr qo i)) (hi1 : vp_in (i + 1) L) (hi2 : vp_in (i + 2) L) (hi3 : vp_in (i + 3) L) (hi4 : vp_in (i + 4) L) (hi5 : vp_in (i + 5) L) (hc : cells + 60 ≤ 601024) (hsl : slots + 360 ≤ 7293033) (kk : zLK p l e s m args below meth c Q Rel' gx gr cO qo b i cells slots) : W p l e room_1 s m args below meth c H locs cells slots Q (F0 m 515 ls []) := by
  obtain ⟨hst, E, Er, hT, S, hKo, hNc, A, hX, hbl⟩ := C
  have hx := E.1.1
  have hb := E.1.2.1
  have hl : lv_has ls 7 [(0, .ref b), (1, .ref (gx.2.2 0)), (2, .ref (gr.2.2 0)), (3, .ref qo), (4, .int i)] := hl
  obtain ⟨M1, b9, N1, hfr, hR1, hcc⟩ := hz M N hR (xs (i + 1).toNatClampNeg) (xs (i + 2).toNatClampNeg) 
  rcases hcc with ⟨k0, hfx, hk0, ht⟩ | ⟨hfx, ht⟩
  · refine lv_aload_n hx hb dL_law__515 rfl (lv_at hl 1 rfl) ?_
    refine lv_aload_n hx hb dL_law__516 rfl (lv_at hl 0 rfl) ?_
    refine lv_iload hx hb dL_law__517 (lv_at hl 4 rfl) ?_
    refine lv_iconst (v := 1) hx hb dL_law__519 (by decide) ?_
    refine lv_iadd hx hb dL_law__520 ?_
    refine va_sld hx hb hX hbl (Nat.not_le.mpr hbl) hZ.2.2.2 hi1 dL_law__521 ?_
    refine lv_aload_n hx hb dL_law__522 rfl (lv_at hl 0 rfl) ?_
    refine lv_iload hx hb dL_law__523 (lv_at hl 4 rfl) ?_
    refine lv_iconst (v := 2) hx hb dL_law__525 (by decide) ?_
    refine lv_iadd hx hb dL_law__526 ?_
    refine va_sld hx hb hX hbl (Nat.not_le.mpr hbl) hZ.2.2.2 hi2 dL_law__527 ?_
    refine lv_aload_n hx hb dL_law__528 rfl (lv_at hl 3 rfl) ?_
    refine lw_i (lrunW (n := 4) (As := [.ref (gx.2.2 0), .int (xs (i + 1).toNatClampNeg), .int (xs (i + 2).toNatClampNeg), .ref qo]) (rest := []) E hT hKo hNc A hZ kw_866 kw_0 kw_865 ⟨by decide, by decide, by decide +kernel⟩ kw_864 (cw_L_monk l hst gx cO qo M v (xs (i + 1).toNatClampNeg) (xs (i + 2).toNatClampNeg) hfx (fun _ _ h => by cases h; exact hk0)) rfl hl.1 rfl (Nat.le_of_ble_eq_true rfl) ⟨by decide, by decide⟩ ⟨by show cells + 2 ≤ 601024; omega, by show slots + 12 ≤ 7293033; omega⟩ dL_law__529) A hZ (fun H locs hZ => ?_)
    have hZ : zLS gx gr cO qo s H locs M1 N v := hZ
    refine W.widen (k := cells + 48) (n := slots + 288) (by omega) (by omega) ?_
    refine lv_istore (lv' := [(5, .int ((fun k => if k = 0 then 1 else 2) k0)), (0, .ref b), (1, .ref (gx.2.2 0)), (2, .ref (gr.2.2 0)), (3, .ref qo), (4, .int i)]) hx hb dL_law__532 hl (by decide) rfl (fun ls hl => ?_)
    refine lv_aload_n hx hb dL_law__534 rfl (lv_at hl 3 rfl) ?_
    refine lv_aload_n hx hb dL_law__535 rfl (lv_at hl 1 rfl) ?_
    refine lv_iload hx hb dL_law__536 (lv_at hl 5 rfl) ?_
    refine lv_iconst (v := 1) hx hb dL_law__538 (by decide) ?_
    refine lv_iadd hx hb dL_law__539 ?_
    refine va_sld hx hb hX hbl (Nat.not_le.mpr hbl) hZ.2.2.2 hi1 dL_law__540 ?_
    refine lv_aload_n hx hb dL_law__541 rfl (lv_at hl 1 rfl) ?_
    refine lv_iload hx hb dL_law__542 (lv_at hl 5 rfl) ?_
    refine lv_iconst (v := 2) hx hb dL_law__544 (by decide) ?_
    refine lv_iadd hx hb dL_law__545 ?_
    refine va_sld hx hb hX hbl (Nat.not_le.mpr hbl) hZ.2.2.2 hi2 dL_law__546 ?_
    refine lr_i (zrunV (As := [.int (xs (i + 1).toNatClampNeg), .int (xs (i + 2).toNatClampNeg)]) (rest := []) Er (hZ.r A) (by decide) (re_0 _) rfl rfl v_X11_monk kw_1741 (c_X11_monk l gr N (xs (i + 1).toNatClampNeg) (xs (i + 2).toNatClampNeg) hfr _) rfl hl.1 rfl (Nat.le_of_ble_eq_true rfl) ⟨by decide, by decide⟩ ⟨by show _ ≤ 601024; omega, by show _ ≤ 7293033; omega⟩ dL_law__547) A hZ (fun x9 N9 H locs hp hZ => ?_)
    obtain ⟨rfl, rfl⟩ := Prod.mk.inj hp
    refine lv_istore (lv' := [(6, .int b9), (5, .int ((fun k => if k = 0 then 1 else 2) k0)), (0, .ref b), (1, .ref (gx.2.2 0)), (2, .ref (gr.2.2 0)), (3, .ref qo), (4, .int i)]) hx hb dL_law__550 hl (by decide) rfl (fun ls hl => ?_)
    refine lv_aload_n hx hb dL_law__552 rfl (lv_at hl 4 rfl) ?_
    refine lr_i (zrunV (As := []) (rest := []) Er (hZ.r A) (by decide) (re_0 _) rfl rfl v_X11_thrown kw_1358 (c_X11_thrown l gr N1 (r := N1 0 0) rfl _) rfl hl.1 rfl (Nat.le_of_ble_eq_true rfl) ⟨by decide, by decide⟩ ⟨by show _ ≤ 601024; omega, by show _ ≤ 7293033; omega⟩ dL_law__553) A hZ (fun x9 N9 H locs hp hZ => ?_)
    obtain ⟨e1, e2⟩ := hp
    rw [e2] at hZ
    rw [e1]
    refine lv_iload hx hb dL_law__556 (lv_at hl 1 rfl) ?_
    refine lv_icmp_eq (tgt := 563) hx hb dL_law__558 (by decide) (fun _ => ?_) (fun hne => absurd ht hne)
    refine lv_iload hx hb dL_law__563 (lv_at hl 1 rfl) ?_
    refine lv_if_ne (tgt := 580) hx hb dL_law__565 (by decide) (fun _ => ?_) (fun h0 => absurd h0 (by show ¬ (if k0 = 0 then (1 : Int32) else 2) = 0; split <;> decide))
    refine lv_goto (tgt := 3069) hx hb dL_law__580 (by decide) ?_
    refine W.widen (k := cells + 60) (n := slots + 360) (by omega) (by omega) ?_
    exact kk _ _ _ _ _ _ hR1 hZ (lv_sub hl [2, 3, 4, 5, 6] rfl)
  · refine lv_aload_n hx hb dL_law__515 rfl (lv_at hl 1 rfl) ?_
    refine lv_aload_n hx hb dL_law__516 rfl (lv_at hl 0 rfl) ?_
    refine lv_iload hx hb dL_law__517 (lv_at hl 4 rfl) ?_
    refine lv_iconst (v := 1) hx hb dL_law__519 (by decide) ?_
    refine lv_iadd hx hb dL_law__520 ?_
    refine va_sld hx hb hX hbl (Nat.not_le.mpr hbl) hZ.2.2.2 hi1 dL_law__521 ?_
    refine lv_aload_n hx hb dL_law__522 rfl (lv_at hl 0 rfl) ?_
    refine lv_iload hx hb dL_law__523 (lv_at hl 4 rfl) ?_
    refine lv_iconst (v := 2) hx hb dL_law__525 (by decide) ?_
    refine lv_iadd hx hb dL_law__526 ?_
    refine va_sld hx hb hX hbl (Nat.not_le.mpr hbl) hZ.2.2.2 hi2 dL_law__527 ?_
    refine lv_aload_n hx hb dL_law__528 rfl (lv_at hl 3 rfl) ?_
    refine lw_i (lrunW (n := 4) (As := [.ref (gx.2.2 0), .int (xs (i + 1).toNatClampNeg), .int (xs (i + 2).toNatClampNeg), .ref qo]) (rest := []) E hT hKo hNc A hZ kw_866 kw_0 kw_865 ⟨by decide, by decide, by decide +kernel⟩ kw_864 (cw_L_monk l hst gx cO qo M v (xs (i + 1).toNatClampNeg) (xs (i + 2).toNatClampNeg) hfx (fun _ _ h => by cases h)) rfl hl.1 rfl (Nat.le_of_ble_eq_true rfl) ⟨by decide, by decide⟩ ⟨by show cells + 2 ≤ 601024; omega, by show slots + 12 ≤ 7293033; omega⟩ dL_law__529) A hZ (fun H locs hZ => ?_)
    have hZ : zLS gx gr cO qo s H locs M1 N (b9.toInt64) := hZ
    refine W.widen (k := cells + 48) (n := slots + 288) (by omega) (by omega) ?_
    refine lv_istore (lv' := [(5, .int 0), (0, .ref b), (1, .ref (gx.2.2 0)), (2, .ref (gr.2.2 0)), (3, .ref qo), (4, .int i)]) hx hb dL_law__532 hl (by decide) rfl (fun ls hl => ?_)
    refine lv_aload_n hx hb dL_law__534 rfl (lv_at hl 3 rfl) ?_
    refine lv_aload_n hx hb dL_law__535 rfl (lv_at hl 1 rfl) ?_
    refine lv_iload hx hb dL_law__536 (lv_at hl 5 rfl) ?_
    refine lv_iconst (v := 1) hx hb dL_law__538 (by decide) ?_
    refine lv_iadd hx hb dL_law__539 ?_
    refine va_sld hx hb hX hbl (Nat.not_le.mpr hbl) hZ.2.2.2 hi1 dL_law__540 ?_
    refine lv_aload_n hx hb dL_law__541 rfl (lv_at hl 1 rfl) ?_
    refine lv_iload hx hb dL_law__542 (lv_at hl 5 rfl) ?_
    refine lv_iconst (v := 2) hx hb dL_law__544 (by decide) ?_
    refine lv_iadd hx hb dL_law__545 ?_
    refine va_sld hx hb hX hbl (Nat.not_le.mpr hbl) hZ.2.2.2 hi2 dL_law__546 ?_
    refine lr_i (zrunV (As := [.int (xs (i + 1).toNatClampNeg), .int (xs (i + 2).toNatClampNeg)]) (rest := []) Er (hZ.r A) (by decide) (re_0 _) rfl rfl v_X11_monk kw_1741 (c_X11_monk l gr N (xs (i + 1).toNatClampNeg) (xs (i + 2).toNatClampNeg) hfr _) rfl hl.1 rfl (Nat.le_of_ble_eq_true rfl) ⟨by decide, by decide⟩ ⟨by show _ ≤ 601024; omega, by show _ ≤ 7293033; omega⟩ dL_law__547) A hZ (fun x9 N9 H locs hp hZ => ?_)
    obtain ⟨rfl, rfl⟩ := Prod.mk.inj hp
    refine lv_istore (lv' := [(6, .int b9), (5, .int 0), (0, .ref b), (1, .ref (gx.2.2 0)), (2, .ref (gr.2.2 0)), (3, .ref qo), (4, .int i)]) hx hb dL_law__550 hl (by decide) rfl (fun ls hl => ?_)
    refine lv_aload_n hx hb dL_law__552 rfl (lv_at hl 4 rfl) ?_
    refine lr_i (zrunV (As := []) (rest := []) Er (hZ.r A) (by decide) (re_0 _) rfl rfl v_X11_thrown kw_1358 (c_X11_thrown l gr N1 (r := N1 0 0) rfl _) rfl hl.1 rfl (Nat.le_of_ble_eq_true rfl) ⟨by decide, by decide⟩ ⟨by show _ ≤ 601024; omega, by show _ ≤ 7293033; omega⟩ dL_law__553) A hZ (fun x9 N9 H locs hp hZ => ?_)
    obtain ⟨e1, e2⟩ := hp
    rw [e2] at hZ
    rw [e1]
    refine lv_iload hx hb dL_law__556 (lv_at hl 1 rfl) ?_
    refine lv_icmp_eq (tgt := 563) hx hb dL_law__558 (by decide) (fun _ => ?_) (fun hne => absurd ht hne)
    refine lv_iload hx hb dL_law__563 (lv_at hl 1 rfl) ?_
    refine lv_if_ne (tgt := 580) hx hb dL_law__565 (by decide) (fun hne => absurd rfl hne) (fun _ => ?_)
    refine lv_aload_n hx hb dL_law__568 rfl (lv_at hl 5 rfl) ?_
    refine lv_iconst (v := 0) hx hb dL_law__569 (by decide) ?_
    refine va_lald hx hb hKo hZ.2.2.1 0 0 rfl rfl (zin_of (by decide)) dL_law__570 ?_
    refine lv_iload hx hb dL_law__571 (lv_at hl 0 rfl) ?_
    refine lv_i2l hx hb dL_law__573 rfl ?_
    refine W.lcmp hx hb dL_law__574 ?_
    refine lv_if_eq (tgt := 580) hx hb dL_law__575 (by decide) (fun _ => ?_) (fun hne => absurd (zcmp_self _) hne)
    refine lv_goto (tgt := 3069) hx hb dL_law__580 (by decide) ?_
    refine W.widen (k := cells + 60) (n := slots + 360) (by omega) (by omega) ?_
    exact kk _ _ _ _ _ _ hR1 hZ (lv_sub hl [2, 3, 4, 5, 6] rfl)
def zs_duty (Rel Rel' : zM → zM → Prop) : Prop := ∀ (M N : zM), Rel M N → ∀ x1 x2 : Int32, zsT Rel' (f_X10_duty M x1 x2) (f_X11_duty N x1 x2) (fun k => k = 0 ∨ k = 3) (fun k => if k = 0 then 1 else 2)
set_option maxRecDepth 100000 in
set_option maxHeartbeats 4000000 in
theorem lc_duty (C : zLC p l s m args c gx gr cO qo b L xs Ts) (hz : zs_duty Rel Rel') (hR : Rel M N) (hZ : zLS gx gr cO qo s H locs M N v) (hl : lv_has ls 7 (zLl b gx gr qo i)) (hi1 : vp_in (i + 1) L) (hi2 : vp_in (i + 2) L) (hi3 : vp_in (i + 3) L) (hi4 : vp_in (i + 4) L) (hi5 : vp_in (i + 5) L) (hc : cells + 60 ≤ 601024) (hsl : slots + 360 ≤ 7293033) (kk : zLK p l e s m args below meth c Q Rel' gx gr cO qo b i cells slots) : W p l e room_1 s m args below meth c H locs cells slots Q (F0 m 583 ls []) := by
  obtain ⟨hst, E, Er, hT, S, hKo, hNc, A, hX, hbl⟩ := C
  have hx := E.1.1
  have hb := E.1.2.1
  have hl : lv_has ls 7 [(0, .ref b), (1, .ref (gx.2.2 0)), (2, .ref (gr.2.2 0)), (3, .ref qo), (4, .int i)] := hl
  obtain ⟨M1, b9, N1, hfr, hR1, hcc⟩ := hz M N hR (xs (i + 1).toNatClampNeg) (xs (i + 2).toNatClampNeg) 
  rcases hcc with ⟨k0, hfx, hk0, ht⟩ | ⟨hfx, ht⟩
  · refine lv_aload_n hx hb dL_law__583 rfl (lv_at hl 1 rfl) ?_
    refine lv_aload_n hx hb dL_law__584 rfl (lv_at hl 0 rfl) ?_
    refine lv_iload hx hb dL_law__585 (lv_at hl 4 rfl) ?_
    refine lv_iconst (v := 1) hx hb dL_law__587 (by decide) ?_
    refine lv_iadd hx hb dL_law__588 ?_
    refine va_sld hx hb hX hbl (Nat.not_le.mpr hbl) hZ.2.2.2 hi1 dL_law__589 ?_
    refine lv_aload_n hx hb dL_law__590 rfl (lv_at hl 0 rfl) ?_
    refine lv_iload hx hb dL_law__591 (lv_at hl 4 rfl) ?_
    refine lv_iconst (v := 2) hx hb dL_law__593 (by decide) ?_
    refine lv_iadd hx hb dL_law__594 ?_
    refine va_sld hx hb hX hbl (Nat.not_le.mpr hbl) hZ.2.2.2 hi2 dL_law__595 ?_
    refine lv_aload_n hx hb dL_law__596 rfl (lv_at hl 3 rfl) ?_
    refine lw_i (lrunW (n := 4) (As := [.ref (gx.2.2 0), .int (xs (i + 1).toNatClampNeg), .int (xs (i + 2).toNatClampNeg), .ref qo]) (rest := []) E hT hKo hNc A hZ kw_901 kw_0 kw_900 ⟨by decide, by decide, by decide +kernel⟩ kw_899 (cw_L_duty l hst gx cO qo M v (xs (i + 1).toNatClampNeg) (xs (i + 2).toNatClampNeg) hfx (fun _ _ h => by cases h; exact hk0)) rfl hl.1 rfl (Nat.le_of_ble_eq_true rfl) ⟨by decide, by decide⟩ ⟨by show cells + 2 ≤ 601024; omega, by show slots + 12 ≤ 7293033; omega⟩ dL_law__597) A hZ (fun H locs hZ => ?_)
    have hZ : zLS gx gr cO qo s H locs M1 N v := hZ
    refine W.widen (k := cells + 48) (n := slots + 288) (by omega) (by omega) ?_
    refine lv_istore (lv' := [(5, .int ((fun k => if k = 0 then 1 else 2) k0)), (0, .ref b), (1, .ref (gx.2.2 0)), (2, .ref (gr.2.2 0)), (3, .ref qo), (4, .int i)]) hx hb dL_law__600 hl (by decide) rfl (fun ls hl => ?_)
    refine lv_aload_n hx hb dL_law__602 rfl (lv_at hl 3 rfl) ?_
    refine lv_aload_n hx hb dL_law__603 rfl (lv_at hl 1 rfl) ?_
    refine lv_iload hx hb dL_law__604 (lv_at hl 5 rfl) ?_
    refine lv_iconst (v := 1) hx hb dL_law__606 (by decide) ?_
    refine lv_iadd hx hb dL_law__607 ?_
    refine va_sld hx hb hX hbl (Nat.not_le.mpr hbl) hZ.2.2.2 hi1 dL_law__608 ?_
    refine lv_aload_n hx hb dL_law__609 rfl (lv_at hl 1 rfl) ?_
    refine lv_iload hx hb dL_law__610 (lv_at hl 5 rfl) ?_
    refine lv_iconst (v := 2) hx hb dL_law__612 (by decide) ?_
    refine lv_iadd hx hb dL_law__613 ?_
    refine va_sld hx hb hX hbl (Nat.not_le.mpr hbl) hZ.2.2.2 hi2 dL_law__614 ?_
    refine lr_i (zrunV (As := [.int (xs (i + 1).toNatClampNeg), .int (xs (i + 2).toNatClampNeg)]) (rest := []) Er (hZ.r A) (by decide) (re_0 _) rfl rfl v_X11_duty kw_1781 (c_X11_duty l gr N (xs (i + 1).toNatClampNeg) (xs (i + 2).toNatClampNeg) hfr _) rfl hl.1 rfl (Nat.le_of_ble_eq_true rfl) ⟨by decide, by decide⟩ ⟨by show _ ≤ 601024; omega, by show _ ≤ 7293033; omega⟩ dL_law__615) A hZ (fun x9 N9 H locs hp hZ => ?_)
    obtain ⟨rfl, rfl⟩ := Prod.mk.inj hp
    refine lv_istore (lv' := [(6, .int b9), (5, .int ((fun k => if k = 0 then 1 else 2) k0)), (0, .ref b), (1, .ref (gx.2.2 0)), (2, .ref (gr.2.2 0)), (3, .ref qo), (4, .int i)]) hx hb dL_law__618 hl (by decide) rfl (fun ls hl => ?_)
    refine lv_aload_n hx hb dL_law__620 rfl (lv_at hl 4 rfl) ?_
    refine lr_i (zrunV (As := []) (rest := []) Er (hZ.r A) (by decide) (re_0 _) rfl rfl v_X11_thrown kw_1358 (c_X11_thrown l gr N1 (r := N1 0 0) rfl _) rfl hl.1 rfl (Nat.le_of_ble_eq_true rfl) ⟨by decide, by decide⟩ ⟨by show _ ≤ 601024; omega, by show _ ≤ 7293033; omega⟩ dL_law__621) A hZ (fun x9 N9 H locs hp hZ => ?_)
    obtain ⟨e1, e2⟩ := hp
    rw [e2] at hZ
    rw [e1]
    refine lv_iload hx hb dL_law__624 (lv_at hl 1 rfl) ?_
    refine lv_icmp_eq (tgt := 631) hx hb dL_law__626 (by decide) (fun _ => ?_) (fun hne => absurd ht hne)
    refine lv_iload hx hb dL_law__631 (lv_at hl 1 rfl) ?_
    refine lv_if_ne (tgt := 648) hx hb dL_law__633 (by decide) (fun _ => ?_) (fun h0 => absurd h0 (by show ¬ (if k0 = 0 then (1 : Int32) else 2) = 0; split <;> decide))
    refine lv_goto (tgt := 3069) hx hb dL_law__648 (by decide) ?_
    refine W.widen (k := cells + 60) (n := slots + 360) (by omega) (by omega) ?_
    exact kk _ _ _ _ _ _ hR1 hZ (lv_sub hl [2, 3, 4, 5, 6] rfl)
  · refine lv_aload_n hx hb dL_law__583 rfl (lv_at hl 1 rfl) ?_
    refine lv_aload_n hx hb dL_law__584 rfl (lv_at hl 0 rfl) ?_
    refine lv_iload hx hb dL_law__585 (lv_at hl 4 rfl) ?_
    refine lv_iconst (v := 1) hx hb dL_law__587 (by decide) ?_
    refine lv_iadd hx hb dL_law__588 ?_
    refine va_sld hx hb hX hbl (Nat.not_le.mpr hbl) hZ.2.2.2 hi1 dL_law__589 ?_
    refine lv_aload_n hx hb dL_law__590 rfl (lv_at hl 0 rfl) ?_
    refine lv_iload hx hb dL_law__591 (lv_at hl 4 rfl) ?_
    refine lv_iconst (v := 2) hx hb dL_law__593 (by decide) ?_
    refine lv_iadd hx hb dL_law__594 ?_
    refine va_sld hx hb hX hbl (Nat.not_le.mpr hbl) hZ.2.2.2 hi2 dL_law__595 ?_
    refine lv_aload_n hx hb dL_law__596 rfl (lv_at hl 3 rfl) ?_
    refine lw_i (lrunW (n := 4) (As := [.ref (gx.2.2 0), .int (xs (i + 1).toNatClampNeg), .int (xs (i + 2).toNatClampNeg), .ref qo]) (rest := []) E hT hKo hNc A hZ kw_901 kw_0 kw_900 ⟨by decide, by decide, by decide +kernel⟩ kw_899 (cw_L_duty l hst gx cO qo M v (xs (i + 1).toNatClampNeg) (xs (i + 2).toNatClampNeg) hfx (fun _ _ h => by cases h)) rfl hl.1 rfl (Nat.le_of_ble_eq_true rfl) ⟨by decide, by decide⟩ ⟨by show cells + 2 ≤ 601024; omega, by show slots + 12 ≤ 7293033; omega⟩ dL_law__597) A hZ (fun H locs hZ => ?_)
    have hZ : zLS gx gr cO qo s H locs M1 N (b9.toInt64) := hZ
    refine W.widen (k := cells + 48) (n := slots + 288) (by omega) (by omega) ?_
    refine lv_istore (lv' := [(5, .int 0), (0, .ref b), (1, .ref (gx.2.2 0)), (2, .ref (gr.2.2 0)), (3, .ref qo), (4, .int i)]) hx hb dL_law__600 hl (by decide) rfl (fun ls hl => ?_)
    refine lv_aload_n hx hb dL_law__602 rfl (lv_at hl 3 rfl) ?_
    refine lv_aload_n hx hb dL_law__603 rfl (lv_at hl 1 rfl) ?_
    refine lv_iload hx hb dL_law__604 (lv_at hl 5 rfl) ?_
    refine lv_iconst (v := 1) hx hb dL_law__606 (by decide) ?_
    refine lv_iadd hx hb dL_law__607 ?_
    refine va_sld hx hb hX hbl (Nat.not_le.mpr hbl) hZ.2.2.2 hi1 dL_law__608 ?_
    refine lv_aload_n hx hb dL_law__609 rfl (lv_at hl 1 rfl) ?_
    refine lv_iload hx hb dL_law__610 (lv_at hl 5 rfl) ?_
    refine lv_iconst (v := 2) hx hb dL_law__612 (by decide) ?_
    refine lv_iadd hx hb dL_law__613 ?_
    refine va_sld hx hb hX hbl (Nat.not_le.mpr hbl) hZ.2.2.2 hi2 dL_law__614 ?_
    refine lr_i (zrunV (As := [.int (xs (i + 1).toNatClampNeg), .int (xs (i + 2).toNatClampNeg)]) (rest := []) Er (hZ.r A) (by decide) (re_0 _) rfl rfl v_X11_duty kw_1781 (c_X11_duty l gr N (xs (i + 1).toNatClampNeg) (xs (i + 2).toNatClampNeg) hfr _) rfl hl.1 rfl (Nat.le_of_ble_eq_true rfl) ⟨by decide, by decide⟩ ⟨by show _ ≤ 601024; omega, by show _ ≤ 7293033; omega⟩ dL_law__615) A hZ (fun x9 N9 H locs hp hZ => ?_)
    obtain ⟨rfl, rfl⟩ := Prod.mk.inj hp
    refine lv_istore (lv' := [(6, .int b9), (5, .int 0), (0, .ref b), (1, .ref (gx.2.2 0)), (2, .ref (gr.2.2 0)), (3, .ref qo), (4, .int i)]) hx hb dL_law__618 hl (by decide) rfl (fun ls hl => ?_)
    refine lv_aload_n hx hb dL_law__620 rfl (lv_at hl 4 rfl) ?_
    refine lr_i (zrunV (As := []) (rest := []) Er (hZ.r A) (by decide) (re_0 _) rfl rfl v_X11_thrown kw_1358 (c_X11_thrown l gr N1 (r := N1 0 0) rfl _) rfl hl.1 rfl (Nat.le_of_ble_eq_true rfl) ⟨by decide, by decide⟩ ⟨by show _ ≤ 601024; omega, by show _ ≤ 7293033; omega⟩ dL_law__621) A hZ (fun x9 N9 H locs hp hZ => ?_)
    obtain ⟨e1, e2⟩ := hp
    rw [e2] at hZ
    rw [e1]
    refine lv_iload hx hb dL_law__624 (lv_at hl 1 rfl) ?_
    refine lv_icmp_eq (tgt := 631) hx hb dL_law__626 (by decide) (fun _ => ?_) (fun hne => absurd ht hne)
    refine lv_iload hx hb dL_law__631 (lv_at hl 1 rfl) ?_
    refine lv_if_ne (tgt := 648) hx hb dL_law__633 (by decide) (fun hne => absurd rfl hne) (fun _ => ?_)
    refine lv_aload_n hx hb dL_law__636 rfl (lv_at hl 5 rfl) ?_
    refine lv_iconst (v := 0) hx hb dL_law__637 (by decide) ?_
    refine va_lald hx hb hKo hZ.2.2.1 0 0 rfl rfl (zin_of (by decide)) dL_law__638 ?_
    refine lv_iload hx hb dL_law__639 (lv_at hl 0 rfl) ?_
    refine lv_i2l hx hb dL_law__641 rfl ?_
    refine W.lcmp hx hb dL_law__642 ?_
    refine lv_if_eq (tgt := 648) hx hb dL_law__643 (by decide) (fun _ => ?_) (fun hne => absurd (zcmp_self _) hne)
    refine lv_goto (tgt := 3069) hx hb dL_law__648 (by decide) ?_
    refine W.widen (k := cells + 60) (n := slots + 360) (by omega) (by omega) ?_
    exact kk _ _ _ _ _ _ hR1 hZ (lv_sub hl [2, 3, 4, 5, 6] rfl)
def zs_range (Rel Rel' : zM → zM → Prop) : Prop := ∀ (M N : zM), Rel M N → ∀ x1 : Int32, zsT Rel' (f_X10_range M x1) (f_X11_range N x1) (fun k => k = 1) (fun _ => 1)
set_option maxRecDepth 100000 in
set_option maxHeartbeats 4000000 in
theorem lc_range (C : zLC p l s m args c gx gr cO qo b L xs Ts) (hz : zs_range Rel Rel') (hR : Rel M N) (hZ : zLS gx gr cO qo s H locs M N v) (hl : lv_has ls 7 (zLl b gx gr qo i)) (hi1 : vp_in (i + 1) L) (hi2 : vp_in (i + 2) L) (hi3 : vp_in (i + 3) L) (hi4 : vp_in (i + 4) L) (hi5 : vp_in (i + 5) L) (hc : cells + 60 ≤ 601024) (hsl : slots + 360 ≤ 7293033) (kk : zLK p l e s m args below meth c Q Rel' gx gr cO qo b i cells slots) : W p l e room_1 s m args below meth c H locs cells slots Q (F0 m 651 ls []) := by
  obtain ⟨hst, E, Er, hT, S, hKo, hNc, A, hX, hbl⟩ := C
  have hx := E.1.1
  have hb := E.1.2.1
  have hl : lv_has ls 7 [(0, .ref b), (1, .ref (gx.2.2 0)), (2, .ref (gr.2.2 0)), (3, .ref qo), (4, .int i)] := hl
  obtain ⟨M1, b9, N1, hfr, hR1, hcc⟩ := hz M N hR (xs (i + 1).toNatClampNeg) 
  rcases hcc with ⟨k0, hfx, hk0, ht⟩ | ⟨hfx, ht⟩
  · refine lv_aload_n hx hb dL_law__651 rfl (lv_at hl 1 rfl) ?_
    refine lv_aload_n hx hb dL_law__652 rfl (lv_at hl 0 rfl) ?_
    refine lv_iload hx hb dL_law__653 (lv_at hl 4 rfl) ?_
    refine lv_iconst (v := 1) hx hb dL_law__655 (by decide) ?_
    refine lv_iadd hx hb dL_law__656 ?_
    refine va_sld hx hb hX hbl (Nat.not_le.mpr hbl) hZ.2.2.2 hi1 dL_law__657 ?_
    refine lv_aload_n hx hb dL_law__658 rfl (lv_at hl 3 rfl) ?_
    refine lw_i (lrunW (n := 3) (As := [.ref (gx.2.2 0), .int (xs (i + 1).toNatClampNeg), .ref qo]) (rest := []) E hT hKo hNc A hZ kw_912 kw_0 kw_911 ⟨by decide, by decide, by decide +kernel⟩ kw_910 (cw_L_range l hst gx cO qo M v (xs (i + 1).toNatClampNeg) hfx (fun _ _ h => by cases h; exact hk0)) rfl hl.1 rfl (Nat.le_of_ble_eq_true rfl) ⟨by decide, by decide⟩ ⟨by show cells + 1 ≤ 601024; omega, by show slots + 6 ≤ 7293033; omega⟩ dL_law__659) A hZ (fun H locs hZ => ?_)
    have hZ : zLS gx gr cO qo s H locs M1 N v := hZ
    refine W.widen (k := cells + 48) (n := slots + 288) (by omega) (by omega) ?_
    refine lv_istore (lv' := [(5, .int ((fun _ => 1) k0)), (0, .ref b), (1, .ref (gx.2.2 0)), (2, .ref (gr.2.2 0)), (3, .ref qo), (4, .int i)]) hx hb dL_law__662 hl (by decide) rfl (fun ls hl => ?_)
    refine lv_aload_n hx hb dL_law__664 rfl (lv_at hl 3 rfl) ?_
    refine lv_aload_n hx hb dL_law__665 rfl (lv_at hl 1 rfl) ?_
    refine lv_iload hx hb dL_law__666 (lv_at hl 5 rfl) ?_
    refine lv_iconst (v := 1) hx hb dL_law__668 (by decide) ?_
    refine lv_iadd hx hb dL_law__669 ?_
    refine va_sld hx hb hX hbl (Nat.not_le.mpr hbl) hZ.2.2.2 hi1 dL_law__670 ?_
    refine lr_i (zrunV (As := [.int (xs (i + 1).toNatClampNeg)]) (rest := []) Er (hZ.r A) (by decide) (re_0 _) rfl rfl v_X11_range kw_1669 (c_X11_range l gr N (xs (i + 1).toNatClampNeg) hfr _) rfl hl.1 rfl (Nat.le_of_ble_eq_true rfl) ⟨by decide, by decide⟩ ⟨by show _ ≤ 601024; omega, by show _ ≤ 7293033; omega⟩ dL_law__671) A hZ (fun x9 N9 H locs hp hZ => ?_)
    obtain ⟨rfl, rfl⟩ := Prod.mk.inj hp
    refine lv_istore (lv' := [(6, .int b9), (5, .int ((fun _ => 1) k0)), (0, .ref b), (1, .ref (gx.2.2 0)), (2, .ref (gr.2.2 0)), (3, .ref qo), (4, .int i)]) hx hb dL_law__674 hl (by decide) rfl (fun ls hl => ?_)
    refine lv_aload_n hx hb dL_law__676 rfl (lv_at hl 4 rfl) ?_
    refine lr_i (zrunV (As := []) (rest := []) Er (hZ.r A) (by decide) (re_0 _) rfl rfl v_X11_thrown kw_1358 (c_X11_thrown l gr N1 (r := N1 0 0) rfl _) rfl hl.1 rfl (Nat.le_of_ble_eq_true rfl) ⟨by decide, by decide⟩ ⟨by show _ ≤ 601024; omega, by show _ ≤ 7293033; omega⟩ dL_law__677) A hZ (fun x9 N9 H locs hp hZ => ?_)
    obtain ⟨e1, e2⟩ := hp
    rw [e2] at hZ
    rw [e1]
    refine lv_iload hx hb dL_law__680 (lv_at hl 1 rfl) ?_
    refine lv_icmp_eq (tgt := 687) hx hb dL_law__682 (by decide) (fun _ => ?_) (fun hne => absurd ht hne)
    refine lv_iload hx hb dL_law__687 (lv_at hl 1 rfl) ?_
    refine lv_if_ne (tgt := 704) hx hb dL_law__689 (by decide) (fun _ => ?_) (fun h0 => absurd h0 (by show ¬ (1 : Int32) = 0; decide))
    refine lv_goto (tgt := 3069) hx hb dL_law__704 (by decide) ?_
    refine W.widen (k := cells + 60) (n := slots + 360) (by omega) (by omega) ?_
    exact kk _ _ _ _ _ _ hR1 hZ (lv_sub hl [2, 3, 4, 5, 6] rfl)
  · refine lv_aload_n hx hb dL_law__651 rfl (lv_at hl 1 rfl) ?_
    refine lv_aload_n hx hb dL_law__652 rfl (lv_at hl 0 rfl) ?_
    refine lv_iload hx hb dL_law__653 (lv_at hl 4 rfl) ?_
    refine lv_iconst (v := 1) hx hb dL_law__655 (by decide) ?_
    refine lv_iadd hx hb dL_law__656 ?_
    refine va_sld hx hb hX hbl (Nat.not_le.mpr hbl) hZ.2.2.2 hi1 dL_law__657 ?_
    refine lv_aload_n hx hb dL_law__658 rfl (lv_at hl 3 rfl) ?_
    refine lw_i (lrunW (n := 3) (As := [.ref (gx.2.2 0), .int (xs (i + 1).toNatClampNeg), .ref qo]) (rest := []) E hT hKo hNc A hZ kw_912 kw_0 kw_911 ⟨by decide, by decide, by decide +kernel⟩ kw_910 (cw_L_range l hst gx cO qo M v (xs (i + 1).toNatClampNeg) hfx (fun _ _ h => by cases h)) rfl hl.1 rfl (Nat.le_of_ble_eq_true rfl) ⟨by decide, by decide⟩ ⟨by show cells + 1 ≤ 601024; omega, by show slots + 6 ≤ 7293033; omega⟩ dL_law__659) A hZ (fun H locs hZ => ?_)
    have hZ : zLS gx gr cO qo s H locs M1 N (b9.toInt64) := hZ
    refine W.widen (k := cells + 48) (n := slots + 288) (by omega) (by omega) ?_
    refine lv_istore (lv' := [(5, .int 0), (0, .ref b), (1, .ref (gx.2.2 0)), (2, .ref (gr.2.2 0)), (3, .ref qo), (4, .int i)]) hx hb dL_law__662 hl (by decide) rfl (fun ls hl => ?_)
    refine lv_aload_n hx hb dL_law__664 rfl (lv_at hl 3 rfl) ?_
    refine lv_aload_n hx hb dL_law__665 rfl (lv_at hl 1 rfl) ?_
    refine lv_iload hx hb dL_law__666 (lv_at hl 5 rfl) ?_
    refine lv_iconst (v := 1) hx hb dL_law__668 (by decide) ?_
    refine lv_iadd hx hb dL_law__669 ?_
    refine va_sld hx hb hX hbl (Nat.not_le.mpr hbl) hZ.2.2.2 hi1 dL_law__670 ?_
    refine lr_i (zrunV (As := [.int (xs (i + 1).toNatClampNeg)]) (rest := []) Er (hZ.r A) (by decide) (re_0 _) rfl rfl v_X11_range kw_1669 (c_X11_range l gr N (xs (i + 1).toNatClampNeg) hfr _) rfl hl.1 rfl (Nat.le_of_ble_eq_true rfl) ⟨by decide, by decide⟩ ⟨by show _ ≤ 601024; omega, by show _ ≤ 7293033; omega⟩ dL_law__671) A hZ (fun x9 N9 H locs hp hZ => ?_)
    obtain ⟨rfl, rfl⟩ := Prod.mk.inj hp
    refine lv_istore (lv' := [(6, .int b9), (5, .int 0), (0, .ref b), (1, .ref (gx.2.2 0)), (2, .ref (gr.2.2 0)), (3, .ref qo), (4, .int i)]) hx hb dL_law__674 hl (by decide) rfl (fun ls hl => ?_)
    refine lv_aload_n hx hb dL_law__676 rfl (lv_at hl 4 rfl) ?_
    refine lr_i (zrunV (As := []) (rest := []) Er (hZ.r A) (by decide) (re_0 _) rfl rfl v_X11_thrown kw_1358 (c_X11_thrown l gr N1 (r := N1 0 0) rfl _) rfl hl.1 rfl (Nat.le_of_ble_eq_true rfl) ⟨by decide, by decide⟩ ⟨by show _ ≤ 601024; omega, by show _ ≤ 7293033; omega⟩ dL_law__677) A hZ (fun x9 N9 H locs hp hZ => ?_)
    obtain ⟨e1, e2⟩ := hp
    rw [e2] at hZ
    rw [e1]
    refine lv_iload hx hb dL_law__680 (lv_at hl 1 rfl) ?_
    refine lv_icmp_eq (tgt := 687) hx hb dL_law__682 (by decide) (fun _ => ?_) (fun hne => absurd ht hne)
    refine lv_iload hx hb dL_law__687 (lv_at hl 1 rfl) ?_
    refine lv_if_ne (tgt := 704) hx hb dL_law__689 (by decide) (fun hne => absurd rfl hne) (fun _ => ?_)
    refine lv_aload_n hx hb dL_law__692 rfl (lv_at hl 5 rfl) ?_
    refine lv_iconst (v := 0) hx hb dL_law__693 (by decide) ?_
    refine va_lald hx hb hKo hZ.2.2.1 0 0 rfl rfl (zin_of (by decide)) dL_law__694 ?_
    refine lv_iload hx hb dL_law__695 (lv_at hl 0 rfl) ?_
    refine lv_i2l hx hb dL_law__697 rfl ?_
    refine W.lcmp hx hb dL_law__698 ?_
    refine lv_if_eq (tgt := 704) hx hb dL_law__699 (by decide) (fun _ => ?_) (fun hne => absurd (zcmp_self _) hne)
    refine lv_goto (tgt := 3069) hx hb dL_law__704 (by decide) ?_
    refine W.widen (k := cells + 60) (n := slots + 360) (by omega) (by omega) ?_
    exact kk _ _ _ _ _ _ hR1 hZ (lv_sub hl [2, 3, 4, 5, 6] rfl)
def zs_water (Rel Rel' : zM → zM → Prop) : Prop := ∀ (M N : zM), Rel M N → ∀ x1 : Int32, zsT Rel' (f_X10_water M x1) (f_X11_water N x1) (fun k => k = 1) (fun _ => 1)
set_option maxRecDepth 100000 in
set_option maxHeartbeats 4000000 in
theorem lc_water (C : zLC p l s m args c gx gr cO qo b L xs Ts) (hz : zs_water Rel Rel') (hR : Rel M N) (hZ : zLS gx gr cO qo s H locs M N v) (hl : lv_has ls 7 (zLl b gx gr qo i)) (hi1 : vp_in (i + 1) L) (hi2 : vp_in (i + 2) L) (hi3 : vp_in (i + 3) L) (hi4 : vp_in (i + 4) L) (hi5 : vp_in (i + 5) L) (hc : cells + 60 ≤ 601024) (hsl : slots + 360 ≤ 7293033) (kk : zLK p l e s m args below meth c Q Rel' gx gr cO qo b i cells slots) : W p l e room_1 s m args below meth c H locs cells slots Q (F0 m 707 ls []) := by
  obtain ⟨hst, E, Er, hT, S, hKo, hNc, A, hX, hbl⟩ := C
  have hx := E.1.1
  have hb := E.1.2.1
  have hl : lv_has ls 7 [(0, .ref b), (1, .ref (gx.2.2 0)), (2, .ref (gr.2.2 0)), (3, .ref qo), (4, .int i)] := hl
  obtain ⟨M1, b9, N1, hfr, hR1, hcc⟩ := hz M N hR (xs (i + 1).toNatClampNeg) 
  rcases hcc with ⟨k0, hfx, hk0, ht⟩ | ⟨hfx, ht⟩
  · refine lv_aload_n hx hb dL_law__707 rfl (lv_at hl 1 rfl) ?_
    refine lv_aload_n hx hb dL_law__708 rfl (lv_at hl 0 rfl) ?_
    refine lv_iload hx hb dL_law__709 (lv_at hl 4 rfl) ?_
    refine lv_iconst (v := 1) hx hb dL_law__711 (by decide) ?_
    refine lv_iadd hx hb dL_law__712 ?_
    refine va_sld hx hb hX hbl (Nat.not_le.mpr hbl) hZ.2.2.2 hi1 dL_law__713 ?_
    refine lv_aload_n hx hb dL_law__714 rfl (lv_at hl 3 rfl) ?_
    refine lw_i (lrunW (n := 3) (As := [.ref (gx.2.2 0), .int (xs (i + 1).toNatClampNeg), .ref qo]) (rest := []) E hT hKo hNc A hZ kw_923 kw_0 kw_922 ⟨by decide, by decide, by decide +kernel⟩ kw_921 (cw_L_water l hst gx cO qo M v (xs (i + 1).toNatClampNeg) hfx (fun _ _ h => by cases h; exact hk0)) rfl hl.1 rfl (Nat.le_of_ble_eq_true rfl) ⟨by decide, by decide⟩ ⟨by show cells + 1 ≤ 601024; omega, by show slots + 6 ≤ 7293033; omega⟩ dL_law__715) A hZ (fun H locs hZ => ?_)
    have hZ : zLS gx gr cO qo s H locs M1 N v := hZ
    refine W.widen (k := cells + 48) (n := slots + 288) (by omega) (by omega) ?_
    refine lv_istore (lv' := [(5, .int ((fun _ => 1) k0)), (0, .ref b), (1, .ref (gx.2.2 0)), (2, .ref (gr.2.2 0)), (3, .ref qo), (4, .int i)]) hx hb dL_law__718 hl (by decide) rfl (fun ls hl => ?_)
    refine lv_aload_n hx hb dL_law__720 rfl (lv_at hl 3 rfl) ?_
    refine lv_aload_n hx hb dL_law__721 rfl (lv_at hl 1 rfl) ?_
    refine lv_iload hx hb dL_law__722 (lv_at hl 5 rfl) ?_
    refine lv_iconst (v := 1) hx hb dL_law__724 (by decide) ?_
    refine lv_iadd hx hb dL_law__725 ?_
    refine va_sld hx hb hX hbl (Nat.not_le.mpr hbl) hZ.2.2.2 hi1 dL_law__726 ?_
    refine lr_i (zrunV (As := [.int (xs (i + 1).toNatClampNeg)]) (rest := []) Er (hZ.r A) (by decide) (re_0 _) rfl rfl v_X11_water kw_1678 (c_X11_water l gr N (xs (i + 1).toNatClampNeg) hfr _) rfl hl.1 rfl (Nat.le_of_ble_eq_true rfl) ⟨by decide, by decide⟩ ⟨by show _ ≤ 601024; omega, by show _ ≤ 7293033; omega⟩ dL_law__727) A hZ (fun x9 N9 H locs hp hZ => ?_)
    obtain ⟨rfl, rfl⟩ := Prod.mk.inj hp
    refine lv_istore (lv' := [(6, .int b9), (5, .int ((fun _ => 1) k0)), (0, .ref b), (1, .ref (gx.2.2 0)), (2, .ref (gr.2.2 0)), (3, .ref qo), (4, .int i)]) hx hb dL_law__730 hl (by decide) rfl (fun ls hl => ?_)
    refine lv_aload_n hx hb dL_law__732 rfl (lv_at hl 4 rfl) ?_
    refine lr_i (zrunV (As := []) (rest := []) Er (hZ.r A) (by decide) (re_0 _) rfl rfl v_X11_thrown kw_1358 (c_X11_thrown l gr N1 (r := N1 0 0) rfl _) rfl hl.1 rfl (Nat.le_of_ble_eq_true rfl) ⟨by decide, by decide⟩ ⟨by show _ ≤ 601024; omega, by show _ ≤ 7293033; omega⟩ dL_law__733) A hZ (fun x9 N9 H locs hp hZ => ?_)
    obtain ⟨e1, e2⟩ := hp
    rw [e2] at hZ
    rw [e1]
    refine lv_iload hx hb dL_law__736 (lv_at hl 1 rfl) ?_
    refine lv_icmp_eq (tgt := 743) hx hb dL_law__738 (by decide) (fun _ => ?_) (fun hne => absurd ht hne)
    refine lv_iload hx hb dL_law__743 (lv_at hl 1 rfl) ?_
    refine lv_if_ne (tgt := 760) hx hb dL_law__745 (by decide) (fun _ => ?_) (fun h0 => absurd h0 (by show ¬ (1 : Int32) = 0; decide))
    refine lv_goto (tgt := 3069) hx hb dL_law__760 (by decide) ?_
    refine W.widen (k := cells + 60) (n := slots + 360) (by omega) (by omega) ?_
    exact kk _ _ _ _ _ _ hR1 hZ (lv_sub hl [2, 3, 4, 5, 6] rfl)
  · refine lv_aload_n hx hb dL_law__707 rfl (lv_at hl 1 rfl) ?_
    refine lv_aload_n hx hb dL_law__708 rfl (lv_at hl 0 rfl) ?_
    refine lv_iload hx hb dL_law__709 (lv_at hl 4 rfl) ?_
    refine lv_iconst (v := 1) hx hb dL_law__711 (by decide) ?_
    refine lv_iadd hx hb dL_law__712 ?_
    refine va_sld hx hb hX hbl (Nat.not_le.mpr hbl) hZ.2.2.2 hi1 dL_law__713 ?_
    refine lv_aload_n hx hb dL_law__714 rfl (lv_at hl 3 rfl) ?_
    refine lw_i (lrunW (n := 3) (As := [.ref (gx.2.2 0), .int (xs (i + 1).toNatClampNeg), .ref qo]) (rest := []) E hT hKo hNc A hZ kw_923 kw_0 kw_922 ⟨by decide, by decide, by decide +kernel⟩ kw_921 (cw_L_water l hst gx cO qo M v (xs (i + 1).toNatClampNeg) hfx (fun _ _ h => by cases h)) rfl hl.1 rfl (Nat.le_of_ble_eq_true rfl) ⟨by decide, by decide⟩ ⟨by show cells + 1 ≤ 601024; omega, by show slots + 6 ≤ 7293033; omega⟩ dL_law__715) A hZ (fun H locs hZ => ?_)
    have hZ : zLS gx gr cO qo s H locs M1 N (b9.toInt64) := hZ
    refine W.widen (k := cells + 48) (n := slots + 288) (by omega) (by omega) ?_
    refine lv_istore (lv' := [(5, .int 0), (0, .ref b), (1, .ref (gx.2.2 0)), (2, .ref (gr.2.2 0)), (3, .ref qo), (4, .int i)]) hx hb dL_law__718 hl (by decide) rfl (fun ls hl => ?_)
    refine lv_aload_n hx hb dL_law__720 rfl (lv_at hl 3 rfl) ?_
    refine lv_aload_n hx hb dL_law__721 rfl (lv_at hl 1 rfl) ?_
    refine lv_iload hx hb dL_law__722 (lv_at hl 5 rfl) ?_
    refine lv_iconst (v := 1) hx hb dL_law__724 (by decide) ?_
    refine lv_iadd hx hb dL_law__725 ?_
    refine va_sld hx hb hX hbl (Nat.not_le.mpr hbl) hZ.2.2.2 hi1 dL_law__726 ?_
    refine lr_i (zrunV (As := [.int (xs (i + 1).toNatClampNeg)]) (rest := []) Er (hZ.r A) (by decide) (re_0 _) rfl rfl v_X11_water kw_1678 (c_X11_water l gr N (xs (i + 1).toNatClampNeg) hfr _) rfl hl.1 rfl (Nat.le_of_ble_eq_true rfl) ⟨by decide, by decide⟩ ⟨by show _ ≤ 601024; omega, by show _ ≤ 7293033; omega⟩ dL_law__727) A hZ (fun x9 N9 H locs hp hZ => ?_)
    obtain ⟨rfl, rfl⟩ := Prod.mk.inj hp
    refine lv_istore (lv' := [(6, .int b9), (5, .int 0), (0, .ref b), (1, .ref (gx.2.2 0)), (2, .ref (gr.2.2 0)), (3, .ref qo), (4, .int i)]) hx hb dL_law__730 hl (by decide) rfl (fun ls hl => ?_)
    refine lv_aload_n hx hb dL_law__732 rfl (lv_at hl 4 rfl) ?_
    refine lr_i (zrunV (As := []) (rest := []) Er (hZ.r A) (by decide) (re_0 _) rfl rfl v_X11_thrown kw_1358 (c_X11_thrown l gr N1 (r := N1 0 0) rfl _) rfl hl.1 rfl (Nat.le_of_ble_eq_true rfl) ⟨by decide, by decide⟩ ⟨by show _ ≤ 601024; omega, by show _ ≤ 7293033; omega⟩ dL_law__733) A hZ (fun x9 N9 H locs hp hZ => ?_)
    obtain ⟨e1, e2⟩ := hp
    rw [e2] at hZ
    rw [e1]
    refine lv_iload hx hb dL_law__736 (lv_at hl 1 rfl) ?_
    refine lv_icmp_eq (tgt := 743) hx hb dL_law__738 (by decide) (fun _ => ?_) (fun hne => absurd ht hne)
    refine lv_iload hx hb dL_law__743 (lv_at hl 1 rfl) ?_
    refine lv_if_ne (tgt := 760) hx hb dL_law__745 (by decide) (fun hne => absurd rfl hne) (fun _ => ?_)
    refine lv_aload_n hx hb dL_law__748 rfl (lv_at hl 5 rfl) ?_
    refine lv_iconst (v := 0) hx hb dL_law__749 (by decide) ?_
    refine va_lald hx hb hKo hZ.2.2.1 0 0 rfl rfl (zin_of (by decide)) dL_law__750 ?_
    refine lv_iload hx hb dL_law__751 (lv_at hl 0 rfl) ?_
    refine lv_i2l hx hb dL_law__753 rfl ?_
    refine W.lcmp hx hb dL_law__754 ?_
    refine lv_if_eq (tgt := 760) hx hb dL_law__755 (by decide) (fun _ => ?_) (fun hne => absurd (zcmp_self _) hne)
    refine lv_goto (tgt := 3069) hx hb dL_law__760 (by decide) ?_
    refine W.widen (k := cells + 60) (n := slots + 360) (by omega) (by omega) ?_
    exact kk _ _ _ _ _ _ hR1 hZ (lv_sub hl [2, 3, 4, 5, 6] rfl)
def zs_depth (Rel Rel' : zM → zM → Prop) : Prop := ∀ (M N : zM), Rel M N → ∀ x1 x2 : Int32, zsT Rel' (f_X10_depth M x1 x2) (f_X11_depth N x1 x2) (fun k => k = 0 ∨ k = 1) (fun k => if k = 0 then 1 else 2)
set_option maxRecDepth 100000 in
set_option maxHeartbeats 4000000 in
theorem lc_depth (C : zLC p l s m args c gx gr cO qo b L xs Ts) (hz : zs_depth Rel Rel') (hR : Rel M N) (hZ : zLS gx gr cO qo s H locs M N v) (hl : lv_has ls 7 (zLl b gx gr qo i)) (hi1 : vp_in (i + 1) L) (hi2 : vp_in (i + 2) L) (hi3 : vp_in (i + 3) L) (hi4 : vp_in (i + 4) L) (hi5 : vp_in (i + 5) L) (hc : cells + 60 ≤ 601024) (hsl : slots + 360 ≤ 7293033) (kk : zLK p l e s m args below meth c Q Rel' gx gr cO qo b i cells slots) : W p l e room_1 s m args below meth c H locs cells slots Q (F0 m 763 ls []) := by
  obtain ⟨hst, E, Er, hT, S, hKo, hNc, A, hX, hbl⟩ := C
  have hx := E.1.1
  have hb := E.1.2.1
  have hl : lv_has ls 7 [(0, .ref b), (1, .ref (gx.2.2 0)), (2, .ref (gr.2.2 0)), (3, .ref qo), (4, .int i)] := hl
  obtain ⟨M1, b9, N1, hfr, hR1, hcc⟩ := hz M N hR (xs (i + 1).toNatClampNeg) (xs (i + 2).toNatClampNeg) 
  rcases hcc with ⟨k0, hfx, hk0, ht⟩ | ⟨hfx, ht⟩
  · refine lv_aload_n hx hb dL_law__763 rfl (lv_at hl 1 rfl) ?_
    refine lv_aload_n hx hb dL_law__764 rfl (lv_at hl 0 rfl) ?_
    refine lv_iload hx hb dL_law__765 (lv_at hl 4 rfl) ?_
    refine lv_iconst (v := 1) hx hb dL_law__767 (by decide) ?_
    refine lv_iadd hx hb dL_law__768 ?_
    refine va_sld hx hb hX hbl (Nat.not_le.mpr hbl) hZ.2.2.2 hi1 dL_law__769 ?_
    refine lv_aload_n hx hb dL_law__770 rfl (lv_at hl 0 rfl) ?_
    refine lv_iload hx hb dL_law__771 (lv_at hl 4 rfl) ?_
    refine lv_iconst (v := 2) hx hb dL_law__773 (by decide) ?_
    refine lv_iadd hx hb dL_law__774 ?_
    refine va_sld hx hb hX hbl (Nat.not_le.mpr hbl) hZ.2.2.2 hi2 dL_law__775 ?_
    refine lv_aload_n hx hb dL_law__776 rfl (lv_at hl 3 rfl) ?_
    refine lw_i (lrunW (n := 4) (As := [.ref (gx.2.2 0), .int (xs (i + 1).toNatClampNeg), .int (xs (i + 2).toNatClampNeg), .ref qo]) (rest := []) E hT hKo hNc A hZ kw_930 kw_0 kw_929 ⟨by decide, by decide, by decide +kernel⟩ kw_928 (cw_L_depth l hst gx cO qo M v (xs (i + 1).toNatClampNeg) (xs (i + 2).toNatClampNeg) hfx (fun _ _ h => by cases h; exact hk0)) rfl hl.1 rfl (Nat.le_of_ble_eq_true rfl) ⟨by decide, by decide⟩ ⟨by show cells + 2 ≤ 601024; omega, by show slots + 12 ≤ 7293033; omega⟩ dL_law__777) A hZ (fun H locs hZ => ?_)
    have hZ : zLS gx gr cO qo s H locs M1 N v := hZ
    refine W.widen (k := cells + 48) (n := slots + 288) (by omega) (by omega) ?_
    refine lv_istore (lv' := [(5, .int ((fun k => if k = 0 then 1 else 2) k0)), (0, .ref b), (1, .ref (gx.2.2 0)), (2, .ref (gr.2.2 0)), (3, .ref qo), (4, .int i)]) hx hb dL_law__780 hl (by decide) rfl (fun ls hl => ?_)
    refine lv_aload_n hx hb dL_law__782 rfl (lv_at hl 3 rfl) ?_
    refine lv_aload_n hx hb dL_law__783 rfl (lv_at hl 1 rfl) ?_
    refine lv_iload hx hb dL_law__784 (lv_at hl 5 rfl) ?_
    refine lv_iconst (v := 1) hx hb dL_law__786 (by decide) ?_
    refine lv_iadd hx hb dL_law__787 ?_
    refine va_sld hx hb hX hbl (Nat.not_le.mpr hbl) hZ.2.2.2 hi1 dL_law__788 ?_
    refine lv_aload_n hx hb dL_law__789 rfl (lv_at hl 1 rfl) ?_
    refine lv_iload hx hb dL_law__790 (lv_at hl 5 rfl) ?_
    refine lv_iconst (v := 2) hx hb dL_law__792 (by decide) ?_
    refine lv_iadd hx hb dL_law__793 ?_
    refine va_sld hx hb hX hbl (Nat.not_le.mpr hbl) hZ.2.2.2 hi2 dL_law__794 ?_
    refine lr_i (zrunV (As := [.int (xs (i + 1).toNatClampNeg), .int (xs (i + 2).toNatClampNeg)]) (rest := []) Er (hZ.r A) (by decide) (re_0 _) rfl rfl v_X11_depth kw_1698 (c_X11_depth l gr N (xs (i + 1).toNatClampNeg) (xs (i + 2).toNatClampNeg) hfr _) rfl hl.1 rfl (Nat.le_of_ble_eq_true rfl) ⟨by decide, by decide⟩ ⟨by show _ ≤ 601024; omega, by show _ ≤ 7293033; omega⟩ dL_law__795) A hZ (fun x9 N9 H locs hp hZ => ?_)
    obtain ⟨rfl, rfl⟩ := Prod.mk.inj hp
    refine lv_istore (lv' := [(6, .int b9), (5, .int ((fun k => if k = 0 then 1 else 2) k0)), (0, .ref b), (1, .ref (gx.2.2 0)), (2, .ref (gr.2.2 0)), (3, .ref qo), (4, .int i)]) hx hb dL_law__798 hl (by decide) rfl (fun ls hl => ?_)
    refine lv_aload_n hx hb dL_law__800 rfl (lv_at hl 4 rfl) ?_
    refine lr_i (zrunV (As := []) (rest := []) Er (hZ.r A) (by decide) (re_0 _) rfl rfl v_X11_thrown kw_1358 (c_X11_thrown l gr N1 (r := N1 0 0) rfl _) rfl hl.1 rfl (Nat.le_of_ble_eq_true rfl) ⟨by decide, by decide⟩ ⟨by show _ ≤ 601024; omega, by show _ ≤ 7293033; omega⟩ dL_law__801) A hZ (fun x9 N9 H locs hp hZ => ?_)
    obtain ⟨e1, e2⟩ := hp
    rw [e2] at hZ
    rw [e1]
    refine lv_iload hx hb dL_law__804 (lv_at hl 1 rfl) ?_
    refine lv_icmp_eq (tgt := 811) hx hb dL_law__806 (by decide) (fun _ => ?_) (fun hne => absurd ht hne)
    refine lv_iload hx hb dL_law__811 (lv_at hl 1 rfl) ?_
    refine lv_if_ne (tgt := 828) hx hb dL_law__813 (by decide) (fun _ => ?_) (fun h0 => absurd h0 (by show ¬ (if k0 = 0 then (1 : Int32) else 2) = 0; split <;> decide))
    refine lv_goto (tgt := 3069) hx hb dL_law__828 (by decide) ?_
    refine W.widen (k := cells + 60) (n := slots + 360) (by omega) (by omega) ?_
    exact kk _ _ _ _ _ _ hR1 hZ (lv_sub hl [2, 3, 4, 5, 6] rfl)
  · refine lv_aload_n hx hb dL_law__763 rfl (lv_at hl 1 rfl) ?_
    refine lv_aload_n hx hb dL_law__764 rfl (lv_at hl 0 rfl) ?_
    refine lv_iload hx hb dL_law__765 (lv_at hl 4 rfl) ?_
    refine lv_iconst (v := 1) hx hb dL_law__767 (by decide) ?_
    refine lv_iadd hx hb dL_law__768 ?_
    refine va_sld hx hb hX hbl (Nat.not_le.mpr hbl) hZ.2.2.2 hi1 dL_law__769 ?_
    refine lv_aload_n hx hb dL_law__770 rfl (lv_at hl 0 rfl) ?_
    refine lv_iload hx hb dL_law__771 (lv_at hl 4 rfl) ?_
    refine lv_iconst (v := 2) hx hb dL_law__773 (by decide) ?_
    refine lv_iadd hx hb dL_law__774 ?_
    refine va_sld hx hb hX hbl (Nat.not_le.mpr hbl) hZ.2.2.2 hi2 dL_law__775 ?_
    refine lv_aload_n hx hb dL_law__776 rfl (lv_at hl 3 rfl) ?_
    refine lw_i (lrunW (n := 4) (As := [.ref (gx.2.2 0), .int (xs (i + 1).toNatClampNeg), .int (xs (i + 2).toNatClampNeg), .ref qo]) (rest := []) E hT hKo hNc A hZ kw_930 kw_0 kw_929 ⟨by decide, by decide, by decide +kernel⟩ kw_928 (cw_L_depth l hst gx cO qo M v (xs (i + 1).toNatClampNeg) (xs (i + 2).toNatClampNeg) hfx (fun _ _ h => by cases h)) rfl hl.1 rfl (Nat.le_of_ble_eq_true rfl) ⟨by decide, by decide⟩ ⟨by show cells + 2 ≤ 601024; omega, by show slots + 12 ≤ 7293033; omega⟩ dL_law__777) A hZ (fun H locs hZ => ?_)
    have hZ : zLS gx gr cO qo s H locs M1 N (b9.toInt64) := hZ
    refine W.widen (k := cells + 48) (n := slots + 288) (by omega) (by omega) ?_
    refine lv_istore (lv' := [(5, .int 0), (0, .ref b), (1, .ref (gx.2.2 0)), (2, .ref (gr.2.2 0)), (3, .ref qo), (4, .int i)]) hx hb dL_law__780 hl (by decide) rfl (fun ls hl => ?_)
    refine lv_aload_n hx hb dL_law__782 rfl (lv_at hl 3 rfl) ?_
    refine lv_aload_n hx hb dL_law__783 rfl (lv_at hl 1 rfl) ?_
    refine lv_iload hx hb dL_law__784 (lv_at hl 5 rfl) ?_
    refine lv_iconst (v := 1) hx hb dL_law__786 (by decide) ?_
    refine lv_iadd hx hb dL_law__787 ?_
    refine va_sld hx hb hX hbl (Nat.not_le.mpr hbl) hZ.2.2.2 hi1 dL_law__788 ?_
    refine lv_aload_n hx hb dL_law__789 rfl (lv_at hl 1 rfl) ?_
    refine lv_iload hx hb dL_law__790 (lv_at hl 5 rfl) ?_
    refine lv_iconst (v := 2) hx hb dL_law__792 (by decide) ?_
    refine lv_iadd hx hb dL_law__793 ?_
    refine va_sld hx hb hX hbl (Nat.not_le.mpr hbl) hZ.2.2.2 hi2 dL_law__794 ?_
    refine lr_i (zrunV (As := [.int (xs (i + 1).toNatClampNeg), .int (xs (i + 2).toNatClampNeg)]) (rest := []) Er (hZ.r A) (by decide) (re_0 _) rfl rfl v_X11_depth kw_1698 (c_X11_depth l gr N (xs (i + 1).toNatClampNeg) (xs (i + 2).toNatClampNeg) hfr _) rfl hl.1 rfl (Nat.le_of_ble_eq_true rfl) ⟨by decide, by decide⟩ ⟨by show _ ≤ 601024; omega, by show _ ≤ 7293033; omega⟩ dL_law__795) A hZ (fun x9 N9 H locs hp hZ => ?_)
    obtain ⟨rfl, rfl⟩ := Prod.mk.inj hp
    refine lv_istore (lv' := [(6, .int b9), (5, .int 0), (0, .ref b), (1, .ref (gx.2.2 0)), (2, .ref (gr.2.2 0)), (3, .ref qo), (4, .int i)]) hx hb dL_law__798 hl (by decide) rfl (fun ls hl => ?_)
    refine lv_aload_n hx hb dL_law__800 rfl (lv_at hl 4 rfl) ?_
    refine lr_i (zrunV (As := []) (rest := []) Er (hZ.r A) (by decide) (re_0 _) rfl rfl v_X11_thrown kw_1358 (c_X11_thrown l gr N1 (r := N1 0 0) rfl _) rfl hl.1 rfl (Nat.le_of_ble_eq_true rfl) ⟨by decide, by decide⟩ ⟨by show _ ≤ 601024; omega, by show _ ≤ 7293033; omega⟩ dL_law__801) A hZ (fun x9 N9 H locs hp hZ => ?_)
    obtain ⟨e1, e2⟩ := hp
    rw [e2] at hZ
    rw [e1]
    refine lv_iload hx hb dL_law__804 (lv_at hl 1 rfl) ?_
    refine lv_icmp_eq (tgt := 811) hx hb dL_law__806 (by decide) (fun _ => ?_) (fun hne => absurd ht hne)
    refine lv_iload hx hb dL_law__811 (lv_at hl 1 rfl) ?_
    refine lv_if_ne (tgt := 828) hx hb dL_law__813 (by decide) (fun hne => absurd rfl hne) (fun _ => ?_)
    refine lv_aload_n hx hb dL_law__816 rfl (lv_at hl 5 rfl) ?_
    refine lv_iconst (v := 0) hx hb dL_law__817 (by decide) ?_
    refine va_lald hx hb hKo hZ.2.2.1 0 0 rfl rfl (zin_of (by decide)) dL_law__818 ?_
    refine lv_iload hx hb dL_law__819 (lv_at hl 0 rfl) ?_
    refine lv_i2l hx hb dL_law__821 rfl ?_
    refine W.lcmp hx hb dL_law__822 ?_
    refine lv_if_eq (tgt := 828) hx hb dL_law__823 (by decide) (fun _ => ?_) (fun hne => absurd (zcmp_self _) hne)
    refine lv_goto (tgt := 3069) hx hb dL_law__828 (by decide) ?_
    refine W.widen (k := cells + 60) (n := slots + 360) (by omega) (by omega) ?_
    exact kk _ _ _ _ _ _ hR1 hZ (lv_sub hl [2, 3, 4, 5, 6] rfl)
def zs_printed (Rel Rel' : zM → zM → Prop) : Prop := ∀ (M N : zM), Rel M N → ∀ x1 : Int32, zsT Rel' (f_X10_printed M x1) (f_X11_printed N x1) (fun k => k = 1) (fun _ => 1)
set_option maxRecDepth 100000 in
set_option maxHeartbeats 4000000 in
theorem lc_printed (C : zLC p l s m args c gx gr cO qo b L xs Ts) (hz : zs_printed Rel Rel') (hR : Rel M N) (hZ : zLS gx gr cO qo s H locs M N v) (hl : lv_has ls 7 (zLl b gx gr qo i)) (hi1 : vp_in (i + 1) L) (hi2 : vp_in (i + 2) L) (hi3 : vp_in (i + 3) L) (hi4 : vp_in (i + 4) L) (hi5 : vp_in (i + 5) L) (hc : cells + 60 ≤ 601024) (hsl : slots + 360 ≤ 7293033) (kk : zLK p l e s m args below meth c Q Rel' gx gr cO qo b i cells slots) : W p l e room_1 s m args below meth c H locs cells slots Q (F0 m 831 ls []) := by
  obtain ⟨hst, E, Er, hT, S, hKo, hNc, A, hX, hbl⟩ := C
  have hx := E.1.1
  have hb := E.1.2.1
  have hl : lv_has ls 7 [(0, .ref b), (1, .ref (gx.2.2 0)), (2, .ref (gr.2.2 0)), (3, .ref qo), (4, .int i)] := hl
  obtain ⟨M1, b9, N1, hfr, hR1, hcc⟩ := hz M N hR (xs (i + 1).toNatClampNeg) 
  rcases hcc with ⟨k0, hfx, hk0, ht⟩ | ⟨hfx, ht⟩
  · refine lv_aload_n hx hb dL_law__831 rfl (lv_at hl 1 rfl) ?_
    refine lv_aload_n hx hb dL_law__832 rfl (lv_at hl 0 rfl) ?_
    refine lv_iload hx hb dL_law__833 (lv_at hl 4 rfl) ?_
    refine lv_iconst (v := 1) hx hb dL_law__835 (by decide) ?_
    refine lv_iadd hx hb dL_law__836 ?_
    refine va_sld hx hb hX hbl (Nat.not_le.mpr hbl) hZ.2.2.2 hi1 dL_law__837 ?_
    refine lv_aload_n hx hb dL_law__838 rfl (lv_at hl 3 rfl) ?_
    refine lw_i (lrunW (n := 3) (As := [.ref (gx.2.2 0), .int (xs (i + 1).toNatClampNeg), .ref qo]) (rest := []) E hT hKo hNc A hZ kw_937 kw_0 kw_936 ⟨by decide, by decide, by decide +kernel⟩ kw_935 (cw_L_printed l hst gx cO qo M v (xs (i + 1).toNatClampNeg) hfx (fun _ _ h => by cases h; exact hk0)) rfl hl.1 rfl (Nat.le_of_ble_eq_true rfl) ⟨by decide, by decide⟩ ⟨by show cells + 1 ≤ 601024; omega, by show slots + 6 ≤ 7293033; omega⟩ dL_law__839) A hZ (fun H locs hZ => ?_)
    have hZ : zLS gx gr cO qo s H locs M1 N v := hZ
    refine W.widen (k := cells + 48) (n := slots + 288) (by omega) (by omega) ?_
    refine lv_istore (lv' := [(5, .int ((fun _ => 1) k0)), (0, .ref b), (1, .ref (gx.2.2 0)), (2, .ref (gr.2.2 0)), (3, .ref qo), (4, .int i)]) hx hb dL_law__842 hl (by decide) rfl (fun ls hl => ?_)
    refine lv_aload_n hx hb dL_law__844 rfl (lv_at hl 3 rfl) ?_
    refine lv_aload_n hx hb dL_law__845 rfl (lv_at hl 1 rfl) ?_
    refine lv_iload hx hb dL_law__846 (lv_at hl 5 rfl) ?_
    refine lv_iconst (v := 1) hx hb dL_law__848 (by decide) ?_
    refine lv_iadd hx hb dL_law__849 ?_
    refine va_sld hx hb hX hbl (Nat.not_le.mpr hbl) hZ.2.2.2 hi1 dL_law__850 ?_
    refine lr_i (zrunV (As := [.int (xs (i + 1).toNatClampNeg)]) (rest := []) Er (hZ.r A) (by decide) (re_0 _) rfl rfl v_X11_printed kw_1706 (c_X11_printed l gr N (xs (i + 1).toNatClampNeg) hfr _) rfl hl.1 rfl (Nat.le_of_ble_eq_true rfl) ⟨by decide, by decide⟩ ⟨by show _ ≤ 601024; omega, by show _ ≤ 7293033; omega⟩ dL_law__851) A hZ (fun x9 N9 H locs hp hZ => ?_)
    obtain ⟨rfl, rfl⟩ := Prod.mk.inj hp
    refine lv_istore (lv' := [(6, .int b9), (5, .int ((fun _ => 1) k0)), (0, .ref b), (1, .ref (gx.2.2 0)), (2, .ref (gr.2.2 0)), (3, .ref qo), (4, .int i)]) hx hb dL_law__854 hl (by decide) rfl (fun ls hl => ?_)
    refine lv_aload_n hx hb dL_law__856 rfl (lv_at hl 4 rfl) ?_
    refine lr_i (zrunV (As := []) (rest := []) Er (hZ.r A) (by decide) (re_0 _) rfl rfl v_X11_thrown kw_1358 (c_X11_thrown l gr N1 (r := N1 0 0) rfl _) rfl hl.1 rfl (Nat.le_of_ble_eq_true rfl) ⟨by decide, by decide⟩ ⟨by show _ ≤ 601024; omega, by show _ ≤ 7293033; omega⟩ dL_law__857) A hZ (fun x9 N9 H locs hp hZ => ?_)
    obtain ⟨e1, e2⟩ := hp
    rw [e2] at hZ
    rw [e1]
    refine lv_iload hx hb dL_law__860 (lv_at hl 1 rfl) ?_
    refine lv_icmp_eq (tgt := 867) hx hb dL_law__862 (by decide) (fun _ => ?_) (fun hne => absurd ht hne)
    refine lv_iload hx hb dL_law__867 (lv_at hl 1 rfl) ?_
    refine lv_if_ne (tgt := 884) hx hb dL_law__869 (by decide) (fun _ => ?_) (fun h0 => absurd h0 (by show ¬ (1 : Int32) = 0; decide))
    refine lv_goto (tgt := 3069) hx hb dL_law__884 (by decide) ?_
    refine W.widen (k := cells + 60) (n := slots + 360) (by omega) (by omega) ?_
    exact kk _ _ _ _ _ _ hR1 hZ (lv_sub hl [2, 3, 4, 5, 6] rfl)
  · refine lv_aload_n hx hb dL_law__831 rfl (lv_at hl 1 rfl) ?_
    refine lv_aload_n hx hb dL_law__832 rfl (lv_at hl 0 rfl) ?_
    refine lv_iload hx hb dL_law__833 (lv_at hl 4 rfl) ?_
    refine lv_iconst (v := 1) hx hb dL_law__835 (by decide) ?_
    refine lv_iadd hx hb dL_law__836 ?_
    refine va_sld hx hb hX hbl (Nat.not_le.mpr hbl) hZ.2.2.2 hi1 dL_law__837 ?_
    refine lv_aload_n hx hb dL_law__838 rfl (lv_at hl 3 rfl) ?_
    refine lw_i (lrunW (n := 3) (As := [.ref (gx.2.2 0), .int (xs (i + 1).toNatClampNeg), .ref qo]) (rest := []) E hT hKo hNc A hZ kw_937 kw_0 kw_936 ⟨by decide, by decide, by decide +kernel⟩ kw_935 (cw_L_printed l hst gx cO qo M v (xs (i + 1).toNatClampNeg) hfx (fun _ _ h => by cases h)) rfl hl.1 rfl (Nat.le_of_ble_eq_true rfl) ⟨by decide, by decide⟩ ⟨by show cells + 1 ≤ 601024; omega, by show slots + 6 ≤ 7293033; omega⟩ dL_law__839) A hZ (fun H locs hZ => ?_)
    have hZ : zLS gx gr cO qo s H locs M1 N (b9.toInt64) := hZ
    refine W.widen (k := cells + 48) (n := slots + 288) (by omega) (by omega) ?_
    refine lv_istore (lv' := [(5, .int 0), (0, .ref b), (1, .ref (gx.2.2 0)), (2, .ref (gr.2.2 0)), (3, .ref qo), (4, .int i)]) hx hb dL_law__842 hl (by decide) rfl (fun ls hl => ?_)
    refine lv_aload_n hx hb dL_law__844 rfl (lv_at hl 3 rfl) ?_
    refine lv_aload_n hx hb dL_law__845 rfl (lv_at hl 1 rfl) ?_
    refine lv_iload hx hb dL_law__846 (lv_at hl 5 rfl) ?_
    refine lv_iconst (v := 1) hx hb dL_law__848 (by decide) ?_
    refine lv_iadd hx hb dL_law__849 ?_
    refine va_sld hx hb hX hbl (Nat.not_le.mpr hbl) hZ.2.2.2 hi1 dL_law__850 ?_
    refine lr_i (zrunV (As := [.int (xs (i + 1).toNatClampNeg)]) (rest := []) Er (hZ.r A) (by decide) (re_0 _) rfl rfl v_X11_printed kw_1706 (c_X11_printed l gr N (xs (i + 1).toNatClampNeg) hfr _) rfl hl.1 rfl (Nat.le_of_ble_eq_true rfl) ⟨by decide, by decide⟩ ⟨by show _ ≤ 601024; omega, by show _ ≤ 7293033; omega⟩ dL_law__851) A hZ (fun x9 N9 H locs hp hZ => ?_)
    obtain ⟨rfl, rfl⟩ := Prod.mk.inj hp
    refine lv_istore (lv' := [(6, .int b9), (5, .int 0), (0, .ref b), (1, .ref (gx.2.2 0)), (2, .ref (gr.2.2 0)), (3, .ref qo), (4, .int i)]) hx hb dL_law__854 hl (by decide) rfl (fun ls hl => ?_)
    refine lv_aload_n hx hb dL_law__856 rfl (lv_at hl 4 rfl) ?_
    refine lr_i (zrunV (As := []) (rest := []) Er (hZ.r A) (by decide) (re_0 _) rfl rfl v_X11_thrown kw_1358 (c_X11_thrown l gr N1 (r := N1 0 0) rfl _) rfl hl.1 rfl (Nat.le_of_ble_eq_true rfl) ⟨by decide, by decide⟩ ⟨by show _ ≤ 601024; omega, by show _ ≤ 7293033; omega⟩ dL_law__857) A hZ (fun x9 N9 H locs hp hZ => ?_)
    obtain ⟨e1, e2⟩ := hp
    rw [e2] at hZ
    rw [e1]
    refine lv_iload hx hb dL_law__860 (lv_at hl 1 rfl) ?_
    refine lv_icmp_eq (tgt := 867) hx hb dL_law__862 (by decide) (fun _ => ?_) (fun hne => absurd ht hne)
    refine lv_iload hx hb dL_law__867 (lv_at hl 1 rfl) ?_
    refine lv_if_ne (tgt := 884) hx hb dL_law__869 (by decide) (fun hne => absurd rfl hne) (fun _ => ?_)
    refine lv_aload_n hx hb dL_law__872 rfl (lv_at hl 5 rfl) ?_
    refine lv_iconst (v := 0) hx hb dL_law__873 (by decide) ?_
    refine va_lald hx hb hKo hZ.2.2.1 0 0 rfl rfl (zin_of (by decide)) dL_law__874 ?_
    refine lv_iload hx hb dL_law__875 (lv_at hl 0 rfl) ?_
    refine lv_i2l hx hb dL_law__877 rfl ?_
    refine W.lcmp hx hb dL_law__878 ?_
    refine lv_if_eq (tgt := 884) hx hb dL_law__879 (by decide) (fun _ => ?_) (fun hne => absurd (zcmp_self _) hne)
    refine lv_goto (tgt := 3069) hx hb dL_law__884 (by decide) ?_
    refine W.widen (k := cells + 60) (n := slots + 360) (by omega) (by omega) ?_
    exact kk _ _ _ _ _ _ hR1 hZ (lv_sub hl [2, 3, 4, 5, 6] rfl)
def zs_goal (Rel Rel' : zM → zM → Prop) : Prop := ∀ (M N : zM), Rel M N → ∀ x1 x2 : Int32, zsT Rel' (f_X10_goal M x1 x2) (f_X11_goal N x1 x2) (fun k => k = 0 ∨ k = 2) (fun k => if k = 0 then 1 else 2)
set_option maxRecDepth 100000 in
set_option maxHeartbeats 4000000 in
theorem lc_goal (C : zLC p l s m args c gx gr cO qo b L xs Ts) (hz : zs_goal Rel Rel') (hR : Rel M N) (hZ : zLS gx gr cO qo s H locs M N v) (hl : lv_has ls 7 (zLl b gx gr qo i)) (hi1 : vp_in (i + 1) L) (hi2 : vp_in (i + 2) L) (hi3 : vp_in (i + 3) L) (hi4 : vp_in (i + 4) L) (hi5 : vp_in (i + 5) L) (hc : cells + 60 ≤ 601024) (hsl : slots + 360 ≤ 7293033) (kk : zLK p l e s m args below meth c Q Rel' gx gr cO qo b i cells slots) : W p l e room_1 s m args below meth c H locs cells slots Q (F0 m 887 ls []) := by
  obtain ⟨hst, E, Er, hT, S, hKo, hNc, A, hX, hbl⟩ := C
  have hx := E.1.1
  have hb := E.1.2.1
  have hl : lv_has ls 7 [(0, .ref b), (1, .ref (gx.2.2 0)), (2, .ref (gr.2.2 0)), (3, .ref qo), (4, .int i)] := hl
  obtain ⟨M1, b9, N1, hfr, hR1, hcc⟩ := hz M N hR (xs (i + 1).toNatClampNeg) (xs (i + 2).toNatClampNeg) 
  rcases hcc with ⟨k0, hfx, hk0, ht⟩ | ⟨hfx, ht⟩
  · refine lv_aload_n hx hb dL_law__887 rfl (lv_at hl 1 rfl) ?_
    refine lv_aload_n hx hb dL_law__888 rfl (lv_at hl 0 rfl) ?_
    refine lv_iload hx hb dL_law__889 (lv_at hl 4 rfl) ?_
    refine lv_iconst (v := 1) hx hb dL_law__891 (by decide) ?_
    refine lv_iadd hx hb dL_law__892 ?_
    refine va_sld hx hb hX hbl (Nat.not_le.mpr hbl) hZ.2.2.2 hi1 dL_law__893 ?_
    refine lv_aload_n hx hb dL_law__894 rfl (lv_at hl 0 rfl) ?_
    refine lv_iload hx hb dL_law__895 (lv_at hl 4 rfl) ?_
    refine lv_iconst (v := 2) hx hb dL_law__897 (by decide) ?_
    refine lv_iadd hx hb dL_law__898 ?_
    refine va_sld hx hb hX hbl (Nat.not_le.mpr hbl) hZ.2.2.2 hi2 dL_law__899 ?_
    refine lv_aload_n hx hb dL_law__900 rfl (lv_at hl 3 rfl) ?_
    refine lw_i (lrunW (n := 4) (As := [.ref (gx.2.2 0), .int (xs (i + 1).toNatClampNeg), .int (xs (i + 2).toNatClampNeg), .ref qo]) (rest := []) E hT hKo hNc A hZ kw_944 kw_0 kw_943 ⟨by decide, by decide, by decide +kernel⟩ kw_942 (cw_L_goal l hst gx cO qo M v (xs (i + 1).toNatClampNeg) (xs (i + 2).toNatClampNeg) hfx (fun _ _ h => by cases h; exact hk0)) rfl hl.1 rfl (Nat.le_of_ble_eq_true rfl) ⟨by decide, by decide⟩ ⟨by show cells + 3 ≤ 601024; omega, by show slots + 18 ≤ 7293033; omega⟩ dL_law__901) A hZ (fun H locs hZ => ?_)
    have hZ : zLS gx gr cO qo s H locs M1 N v := hZ
    refine W.widen (k := cells + 48) (n := slots + 288) (by omega) (by omega) ?_
    refine lv_istore (lv' := [(5, .int ((fun k => if k = 0 then 1 else 2) k0)), (0, .ref b), (1, .ref (gx.2.2 0)), (2, .ref (gr.2.2 0)), (3, .ref qo), (4, .int i)]) hx hb dL_law__904 hl (by decide) rfl (fun ls hl => ?_)
    refine lv_aload_n hx hb dL_law__906 rfl (lv_at hl 3 rfl) ?_
    refine lv_aload_n hx hb dL_law__907 rfl (lv_at hl 1 rfl) ?_
    refine lv_iload hx hb dL_law__908 (lv_at hl 5 rfl) ?_
    refine lv_iconst (v := 1) hx hb dL_law__910 (by decide) ?_
    refine lv_iadd hx hb dL_law__911 ?_
    refine va_sld hx hb hX hbl (Nat.not_le.mpr hbl) hZ.2.2.2 hi1 dL_law__912 ?_
    refine lv_aload_n hx hb dL_law__913 rfl (lv_at hl 1 rfl) ?_
    refine lv_iload hx hb dL_law__914 (lv_at hl 5 rfl) ?_
    refine lv_iconst (v := 2) hx hb dL_law__916 (by decide) ?_
    refine lv_iadd hx hb dL_law__917 ?_
    refine va_sld hx hb hX hbl (Nat.not_le.mpr hbl) hZ.2.2.2 hi2 dL_law__918 ?_
    refine lr_i (zrunV (As := [.int (xs (i + 1).toNatClampNeg), .int (xs (i + 2).toNatClampNeg)]) (rest := []) Er (hZ.r A) (by decide) (re_0 _) rfl rfl v_X11_goal kw_1793 (c_X11_goal l gr N (xs (i + 1).toNatClampNeg) (xs (i + 2).toNatClampNeg) hfr _) rfl hl.1 rfl (Nat.le_of_ble_eq_true rfl) ⟨by decide, by decide⟩ ⟨by show _ ≤ 601024; omega, by show _ ≤ 7293033; omega⟩ dL_law__919) A hZ (fun x9 N9 H locs hp hZ => ?_)
    obtain ⟨rfl, rfl⟩ := Prod.mk.inj hp
    refine lv_istore (lv' := [(6, .int b9), (5, .int ((fun k => if k = 0 then 1 else 2) k0)), (0, .ref b), (1, .ref (gx.2.2 0)), (2, .ref (gr.2.2 0)), (3, .ref qo), (4, .int i)]) hx hb dL_law__922 hl (by decide) rfl (fun ls hl => ?_)
    refine lv_aload_n hx hb dL_law__924 rfl (lv_at hl 4 rfl) ?_
    refine lr_i (zrunV (As := []) (rest := []) Er (hZ.r A) (by decide) (re_0 _) rfl rfl v_X11_thrown kw_1358 (c_X11_thrown l gr N1 (r := N1 0 0) rfl _) rfl hl.1 rfl (Nat.le_of_ble_eq_true rfl) ⟨by decide, by decide⟩ ⟨by show _ ≤ 601024; omega, by show _ ≤ 7293033; omega⟩ dL_law__925) A hZ (fun x9 N9 H locs hp hZ => ?_)
    obtain ⟨e1, e2⟩ := hp
    rw [e2] at hZ
    rw [e1]
    refine lv_iload hx hb dL_law__928 (lv_at hl 1 rfl) ?_
    refine lv_icmp_eq (tgt := 935) hx hb dL_law__930 (by decide) (fun _ => ?_) (fun hne => absurd ht hne)
    refine lv_iload hx hb dL_law__935 (lv_at hl 1 rfl) ?_
    refine lv_if_ne (tgt := 952) hx hb dL_law__937 (by decide) (fun _ => ?_) (fun h0 => absurd h0 (by show ¬ (if k0 = 0 then (1 : Int32) else 2) = 0; split <;> decide))
    refine lv_goto (tgt := 3069) hx hb dL_law__952 (by decide) ?_
    refine W.widen (k := cells + 60) (n := slots + 360) (by omega) (by omega) ?_
    exact kk _ _ _ _ _ _ hR1 hZ (lv_sub hl [2, 3, 4, 5, 6] rfl)
  · refine lv_aload_n hx hb dL_law__887 rfl (lv_at hl 1 rfl) ?_
    refine lv_aload_n hx hb dL_law__888 rfl (lv_at hl 0 rfl) ?_
    refine lv_iload hx hb dL_law__889 (lv_at hl 4 rfl) ?_
    refine lv_iconst (v := 1) hx hb dL_law__891 (by decide) ?_
    refine lv_iadd hx hb dL_law__892 ?_
    refine va_sld hx hb hX hbl (Nat.not_le.mpr hbl) hZ.2.2.2 hi1 dL_law__893 ?_
    refine lv_aload_n hx hb dL_law__894 rfl (lv_at hl 0 rfl) ?_
    refine lv_iload hx hb dL_law__895 (lv_at hl 4 rfl) ?_
    refine lv_iconst (v := 2) hx hb dL_law__897 (by decide) ?_
    refine lv_iadd hx hb dL_law__898 ?_
    refine va_sld hx hb hX hbl (Nat.not_le.mpr hbl) hZ.2.2.2 hi2 dL_law__899 ?_
    refine lv_aload_n hx hb dL_law__900 rfl (lv_at hl 3 rfl) ?_
    refine lw_i (lrunW (n := 4) (As := [.ref (gx.2.2 0), .int (xs (i + 1).toNatClampNeg), .int (xs (i + 2).toNatClampNeg), .ref qo]) (rest := []) E hT hKo hNc A hZ kw_944 kw_0 kw_943 ⟨by decide, by decide, by decide +kernel⟩ kw_942 (cw_L_goal l hst gx cO qo M v (xs (i + 1).toNatClampNeg) (xs (i + 2).toNatClampNeg) hfx (fun _ _ h => by cases h)) rfl hl.1 rfl (Nat.le_of_ble_eq_true rfl) ⟨by decide, by decide⟩ ⟨by show cells + 3 ≤ 601024; omega, by show slots + 18 ≤ 7293033; omega⟩ dL_law__901) A hZ (fun H locs hZ => ?_)
    have hZ : zLS gx gr cO qo s H locs M1 N (b9.toInt64) := hZ
    refine W.widen (k := cells + 48) (n := slots + 288) (by omega) (by omega) ?_
    refine lv_istore (lv' := [(5, .int 0), (0, .ref b), (1, .ref (gx.2.2 0)), (2, .ref (gr.2.2 0)), (3, .ref qo), (4, .int i)]) hx hb dL_law__904 hl (by decide) rfl (fun ls hl => ?_)
    refine lv_aload_n hx hb dL_law__906 rfl (lv_at hl 3 rfl) ?_
    refine lv_aload_n hx hb dL_law__907 rfl (lv_at hl 1 rfl) ?_
    refine lv_iload hx hb dL_law__908 (lv_at hl 5 rfl) ?_
    refine lv_iconst (v := 1) hx hb dL_law__910 (by decide) ?_
    refine lv_iadd hx hb dL_law__911 ?_
    refine va_sld hx hb hX hbl (Nat.not_le.mpr hbl) hZ.2.2.2 hi1 dL_law__912 ?_
    refine lv_aload_n hx hb dL_law__913 rfl (lv_at hl 1 rfl) ?_
    refine lv_iload hx hb dL_law__914 (lv_at hl 5 rfl) ?_
    refine lv_iconst (v := 2) hx hb dL_law__916 (by decide) ?_
    refine lv_iadd hx hb dL_law__917 ?_
    refine va_sld hx hb hX hbl (Nat.not_le.mpr hbl) hZ.2.2.2 hi2 dL_law__918 ?_
    refine lr_i (zrunV (As := [.int (xs (i + 1).toNatClampNeg), .int (xs (i + 2).toNatClampNeg)]) (rest := []) Er (hZ.r A) (by decide) (re_0 _) rfl rfl v_X11_goal kw_1793 (c_X11_goal l gr N (xs (i + 1).toNatClampNeg) (xs (i + 2).toNatClampNeg) hfr _) rfl hl.1 rfl (Nat.le_of_ble_eq_true rfl) ⟨by decide, by decide⟩ ⟨by show _ ≤ 601024; omega, by show _ ≤ 7293033; omega⟩ dL_law__919) A hZ (fun x9 N9 H locs hp hZ => ?_)
    obtain ⟨rfl, rfl⟩ := Prod.mk.inj hp
    refine lv_istore (lv' := [(6, .int b9), (5, .int 0), (0, .ref b), (1, .ref (gx.2.2 0)), (2, .ref (gr.2.2 0)), (3, .ref qo), (4, .int i)]) hx hb dL_law__922 hl (by decide) rfl (fun ls hl => ?_)
    refine lv_aload_n hx hb dL_law__924 rfl (lv_at hl 4 rfl) ?_
    refine lr_i (zrunV (As := []) (rest := []) Er (hZ.r A) (by decide) (re_0 _) rfl rfl v_X11_thrown kw_1358 (c_X11_thrown l gr N1 (r := N1 0 0) rfl _) rfl hl.1 rfl (Nat.le_of_ble_eq_true rfl) ⟨by decide, by decide⟩ ⟨by show _ ≤ 601024; omega, by show _ ≤ 7293033; omega⟩ dL_law__925) A hZ (fun x9 N9 H locs hp hZ => ?_)
    obtain ⟨e1, e2⟩ := hp
    rw [e2] at hZ
    rw [e1]
    refine lv_iload hx hb dL_law__928 (lv_at hl 1 rfl) ?_
    refine lv_icmp_eq (tgt := 935) hx hb dL_law__930 (by decide) (fun _ => ?_) (fun hne => absurd ht hne)
    refine lv_iload hx hb dL_law__935 (lv_at hl 1 rfl) ?_
    refine lv_if_ne (tgt := 952) hx hb dL_law__937 (by decide) (fun hne => absurd rfl hne) (fun _ => ?_)
    refine lv_aload_n hx hb dL_law__940 rfl (lv_at hl 5 rfl) ?_
    refine lv_iconst (v := 0) hx hb dL_law__941 (by decide) ?_
    refine va_lald hx hb hKo hZ.2.2.1 0 0 rfl rfl (zin_of (by decide)) dL_law__942 ?_
    refine lv_iload hx hb dL_law__943 (lv_at hl 0 rfl) ?_
    refine lv_i2l hx hb dL_law__945 rfl ?_
    refine W.lcmp hx hb dL_law__946 ?_
    refine lv_if_eq (tgt := 952) hx hb dL_law__947 (by decide) (fun _ => ?_) (fun hne => absurd (zcmp_self _) hne)
    refine lv_goto (tgt := 3069) hx hb dL_law__952 (by decide) ?_
    refine W.widen (k := cells + 60) (n := slots + 360) (by omega) (by omega) ?_
    exact kk _ _ _ _ _ _ hR1 hZ (lv_sub hl [2, 3, 4, 5, 6] rfl)
def zs_rest (Rel Rel' : zM → zM → Prop) : Prop := ∀ (M N : zM), Rel M N → ∀ x1 : Int32, zsT Rel' (f_X10_rest M x1) (f_X11_rest N x1) (fun k => k = 0 ∨ k = 2) (fun k => if k = 0 then 1 else 2)
set_option maxRecDepth 100000 in
set_option maxHeartbeats 4000000 in
theorem lc_rest (C : zLC p l s m args c gx gr cO qo b L xs Ts) (hz : zs_rest Rel Rel') (hR : Rel M N) (hZ : zLS gx gr cO qo s H locs M N v) (hl : lv_has ls 7 (zLl b gx gr qo i)) (hi1 : vp_in (i + 1) L) (hi2 : vp_in (i + 2) L) (hi3 : vp_in (i + 3) L) (hi4 : vp_in (i + 4) L) (hi5 : vp_in (i + 5) L) (hc : cells + 60 ≤ 601024) (hsl : slots + 360 ≤ 7293033) (kk : zLK p l e s m args below meth c Q Rel' gx gr cO qo b i cells slots) : W p l e room_1 s m args below meth c H locs cells slots Q (F0 m 955 ls []) := by
  obtain ⟨hst, E, Er, hT, S, hKo, hNc, A, hX, hbl⟩ := C
  have hx := E.1.1
  have hb := E.1.2.1
  have hl : lv_has ls 7 [(0, .ref b), (1, .ref (gx.2.2 0)), (2, .ref (gr.2.2 0)), (3, .ref qo), (4, .int i)] := hl
  obtain ⟨M1, b9, N1, hfr, hR1, hcc⟩ := hz M N hR (xs (i + 1).toNatClampNeg) 
  rcases hcc with ⟨k0, hfx, hk0, ht⟩ | ⟨hfx, ht⟩
  · refine lv_aload_n hx hb dL_law__955 rfl (lv_at hl 1 rfl) ?_
    refine lv_aload_n hx hb dL_law__956 rfl (lv_at hl 0 rfl) ?_
    refine lv_iload hx hb dL_law__957 (lv_at hl 4 rfl) ?_
    refine lv_iconst (v := 1) hx hb dL_law__959 (by decide) ?_
    refine lv_iadd hx hb dL_law__960 ?_
    refine va_sld hx hb hX hbl (Nat.not_le.mpr hbl) hZ.2.2.2 hi1 dL_law__961 ?_
    refine lv_aload_n hx hb dL_law__962 rfl (lv_at hl 3 rfl) ?_
    refine lw_i (lrunW (n := 3) (As := [.ref (gx.2.2 0), .int (xs (i + 1).toNatClampNeg), .ref qo]) (rest := []) E hT hKo hNc A hZ kw_976 kw_0 kw_975 ⟨by decide, by decide, by decide +kernel⟩ kw_974 (cw_L_rest l hst gx cO qo M v (xs (i + 1).toNatClampNeg) hfx (fun _ _ h => by cases h; exact hk0)) rfl hl.1 rfl (Nat.le_of_ble_eq_true rfl) ⟨by decide, by decide⟩ ⟨by show cells + 2 ≤ 601024; omega, by show slots + 12 ≤ 7293033; omega⟩ dL_law__963) A hZ (fun H locs hZ => ?_)
    have hZ : zLS gx gr cO qo s H locs M1 N v := hZ
    refine W.widen (k := cells + 48) (n := slots + 288) (by omega) (by omega) ?_
    refine lv_istore (lv' := [(5, .int ((fun k => if k = 0 then 1 else 2) k0)), (0, .ref b), (1, .ref (gx.2.2 0)), (2, .ref (gr.2.2 0)), (3, .ref qo), (4, .int i)]) hx hb dL_law__966 hl (by decide) rfl (fun ls hl => ?_)
    refine lv_aload_n hx hb dL_law__968 rfl (lv_at hl 3 rfl) ?_
    refine lv_aload_n hx hb dL_law__969 rfl (lv_at hl 1 rfl) ?_
    refine lv_iload hx hb dL_law__970 (lv_at hl 5 rfl) ?_
    refine lv_iconst (v := 1) hx hb dL_law__972 (by decide) ?_
    refine lv_iadd hx hb dL_law__973 ?_
    refine va_sld hx hb hX hbl (Nat.not_le.mpr hbl) hZ.2.2.2 hi1 dL_law__974 ?_
    refine lr_i (zrunV (As := [.int (xs (i + 1).toNatClampNeg)]) (rest := []) Er (hZ.r A) (by decide) (re_0 _) rfl rfl v_X11_rest kw_1805 (c_X11_rest l gr N (xs (i + 1).toNatClampNeg) hfr _) rfl hl.1 rfl (Nat.le_of_ble_eq_true rfl) ⟨by decide, by decide⟩ ⟨by show _ ≤ 601024; omega, by show _ ≤ 7293033; omega⟩ dL_law__975) A hZ (fun x9 N9 H locs hp hZ => ?_)
    obtain ⟨rfl, rfl⟩ := Prod.mk.inj hp
    refine lv_istore (lv' := [(6, .int b9), (5, .int ((fun k => if k = 0 then 1 else 2) k0)), (0, .ref b), (1, .ref (gx.2.2 0)), (2, .ref (gr.2.2 0)), (3, .ref qo), (4, .int i)]) hx hb dL_law__978 hl (by decide) rfl (fun ls hl => ?_)
    refine lv_aload_n hx hb dL_law__980 rfl (lv_at hl 4 rfl) ?_
    refine lr_i (zrunV (As := []) (rest := []) Er (hZ.r A) (by decide) (re_0 _) rfl rfl v_X11_thrown kw_1358 (c_X11_thrown l gr N1 (r := N1 0 0) rfl _) rfl hl.1 rfl (Nat.le_of_ble_eq_true rfl) ⟨by decide, by decide⟩ ⟨by show _ ≤ 601024; omega, by show _ ≤ 7293033; omega⟩ dL_law__981) A hZ (fun x9 N9 H locs hp hZ => ?_)
    obtain ⟨e1, e2⟩ := hp
    rw [e2] at hZ
    rw [e1]
    refine lv_iload hx hb dL_law__984 (lv_at hl 1 rfl) ?_
    refine lv_icmp_eq (tgt := 991) hx hb dL_law__986 (by decide) (fun _ => ?_) (fun hne => absurd ht hne)
    refine lv_iload hx hb dL_law__991 (lv_at hl 1 rfl) ?_
    refine lv_if_ne (tgt := 1008) hx hb dL_law__993 (by decide) (fun _ => ?_) (fun h0 => absurd h0 (by show ¬ (if k0 = 0 then (1 : Int32) else 2) = 0; split <;> decide))
    refine lv_goto (tgt := 3069) hx hb dL_law__1008 (by decide) ?_
    refine W.widen (k := cells + 60) (n := slots + 360) (by omega) (by omega) ?_
    exact kk _ _ _ _ _ _ hR1 hZ (lv_sub hl [2, 3, 4, 5, 6] rfl)
  · refine lv_aload_n hx hb dL_law__955 rfl (lv_at hl 1 rfl) ?_
    refine lv_aload_n hx hb dL_law__956 rfl (lv_at hl 0 rfl) ?_
    refine lv_iload hx hb dL_law__957 (lv_at hl 4 rfl) ?_
    refine lv_iconst (v := 1) hx hb dL_law__959 (by decide) ?_
    refine lv_iadd hx hb dL_law__960 ?_
    refine va_sld hx hb hX hbl (Nat.not_le.mpr hbl) hZ.2.2.2 hi1 dL_law__961 ?_
    refine lv_aload_n hx hb dL_law__962 rfl (lv_at hl 3 rfl) ?_
    refine lw_i (lrunW (n := 3) (As := [.ref (gx.2.2 0), .int (xs (i + 1).toNatClampNeg), .ref qo]) (rest := []) E hT hKo hNc A hZ kw_976 kw_0 kw_975 ⟨by decide, by decide, by decide +kernel⟩ kw_974 (cw_L_rest l hst gx cO qo M v (xs (i + 1).toNatClampNeg) hfx (fun _ _ h => by cases h)) rfl hl.1 rfl (Nat.le_of_ble_eq_true rfl) ⟨by decide, by decide⟩ ⟨by show cells + 2 ≤ 601024; omega, by show slots + 12 ≤ 7293033; omega⟩ dL_law__963) A hZ (fun H locs hZ => ?_)
    have hZ : zLS gx gr cO qo s H locs M1 N (b9.toInt64) := hZ
    refine W.widen (k := cells + 48) (n := slots + 288) (by omega) (by omega) ?_
    refine lv_istore (lv' := [(5, .int 0), (0, .ref b), (1, .ref (gx.2.2 0)), (2, .ref (gr.2.2 0)), (3, .ref qo), (4, .int i)]) hx hb dL_law__966 hl (by decide) rfl (fun ls hl => ?_)
    refine lv_aload_n hx hb dL_law__968 rfl (lv_at hl 3 rfl) ?_
    refine lv_aload_n hx hb dL_law__969 rfl (lv_at hl 1 rfl) ?_
    refine lv_iload hx hb dL_law__970 (lv_at hl 5 rfl) ?_
    refine lv_iconst (v := 1) hx hb dL_law__972 (by decide) ?_
    refine lv_iadd hx hb dL_law__973 ?_
    refine va_sld hx hb hX hbl (Nat.not_le.mpr hbl) hZ.2.2.2 hi1 dL_law__974 ?_
    refine lr_i (zrunV (As := [.int (xs (i + 1).toNatClampNeg)]) (rest := []) Er (hZ.r A) (by decide) (re_0 _) rfl rfl v_X11_rest kw_1805 (c_X11_rest l gr N (xs (i + 1).toNatClampNeg) hfr _) rfl hl.1 rfl (Nat.le_of_ble_eq_true rfl) ⟨by decide, by decide⟩ ⟨by show _ ≤ 601024; omega, by show _ ≤ 7293033; omega⟩ dL_law__975) A hZ (fun x9 N9 H locs hp hZ => ?_)
    obtain ⟨rfl, rfl⟩ := Prod.mk.inj hp
    refine lv_istore (lv' := [(6, .int b9), (5, .int 0), (0, .ref b), (1, .ref (gx.2.2 0)), (2, .ref (gr.2.2 0)), (3, .ref qo), (4, .int i)]) hx hb dL_law__978 hl (by decide) rfl (fun ls hl => ?_)
    refine lv_aload_n hx hb dL_law__980 rfl (lv_at hl 4 rfl) ?_
    refine lr_i (zrunV (As := []) (rest := []) Er (hZ.r A) (by decide) (re_0 _) rfl rfl v_X11_thrown kw_1358 (c_X11_thrown l gr N1 (r := N1 0 0) rfl _) rfl hl.1 rfl (Nat.le_of_ble_eq_true rfl) ⟨by decide, by decide⟩ ⟨by show _ ≤ 601024; omega, by show _ ≤ 7293033; omega⟩ dL_law__981) A hZ (fun x9 N9 H locs hp hZ => ?_)
    obtain ⟨e1, e2⟩ := hp
    rw [e2] at hZ
    rw [e1]
    refine lv_iload hx hb dL_law__984 (lv_at hl 1 rfl) ?_
    refine lv_icmp_eq (tgt := 991) hx hb dL_law__986 (by decide) (fun _ => ?_) (fun hne => absurd ht hne)
    refine lv_iload hx hb dL_law__991 (lv_at hl 1 rfl) ?_
    refine lv_if_ne (tgt := 1008) hx hb dL_law__993 (by decide) (fun hne => absurd rfl hne) (fun _ => ?_)
    refine lv_aload_n hx hb dL_law__996 rfl (lv_at hl 5 rfl) ?_
    refine lv_iconst (v := 0) hx hb dL_law__997 (by decide) ?_
    refine va_lald hx hb hKo hZ.2.2.1 0 0 rfl rfl (zin_of (by decide)) dL_law__998 ?_
    refine lv_iload hx hb dL_law__999 (lv_at hl 0 rfl) ?_
    refine lv_i2l hx hb dL_law__1001 rfl ?_
    refine W.lcmp hx hb dL_law__1002 ?_
    refine lv_if_eq (tgt := 1008) hx hb dL_law__1003 (by decide) (fun _ => ?_) (fun hne => absurd (zcmp_self _) hne)
    refine lv_goto (tgt := 3069) hx hb dL_law__1008 (by decide) ?_
    refine W.widen (k := cells + 60) (n := slots + 360) (by omega) (by omega) ?_
    exact kk _ _ _ _ _ _ hR1 hZ (lv_sub hl [2, 3, 4, 5, 6] rfl)
def zs_error (Rel Rel' : zM → zM → Prop) : Prop := ∀ (M N : zM), Rel M N → ∀ x1 x2 : Int32, zsT Rel' (f_X10_error M x1 x2) (f_X11_error N x1 x2) (fun k => k = 1) (fun _ => 1)
set_option maxRecDepth 100000 in
set_option maxHeartbeats 4000000 in
theorem lc_error (C : zLC p l s m args c gx gr cO qo b L xs Ts) (hz : zs_error Rel Rel') (hR : Rel M N) (hZ : zLS gx gr cO qo s H locs M N v) (hl : lv_has ls 7 (zLl b gx gr qo i)) (hi1 : vp_in (i + 1) L) (hi2 : vp_in (i + 2) L) (hi3 : vp_in (i + 3) L) (hi4 : vp_in (i + 4) L) (hi5 : vp_in (i + 5) L) (hc : cells + 60 ≤ 601024) (hsl : slots + 360 ≤ 7293033) (kk : zLK p l e s m args below meth c Q Rel' gx gr cO qo b i cells slots) : W p l e room_1 s m args below meth c H locs cells slots Q (F0 m 1011 ls []) := by
  obtain ⟨hst, E, Er, hT, S, hKo, hNc, A, hX, hbl⟩ := C
  have hx := E.1.1
  have hb := E.1.2.1
  have hl : lv_has ls 7 [(0, .ref b), (1, .ref (gx.2.2 0)), (2, .ref (gr.2.2 0)), (3, .ref qo), (4, .int i)] := hl
  obtain ⟨M1, b9, N1, hfr, hR1, hcc⟩ := hz M N hR (xs (i + 1).toNatClampNeg) (xs (i + 2).toNatClampNeg) 
  rcases hcc with ⟨k0, hfx, hk0, ht⟩ | ⟨hfx, ht⟩
  · refine lv_aload_n hx hb dL_law__1011 rfl (lv_at hl 1 rfl) ?_
    refine lv_aload_n hx hb dL_law__1012 rfl (lv_at hl 0 rfl) ?_
    refine lv_iload hx hb dL_law__1013 (lv_at hl 4 rfl) ?_
    refine lv_iconst (v := 1) hx hb dL_law__1015 (by decide) ?_
    refine lv_iadd hx hb dL_law__1016 ?_
    refine va_sld hx hb hX hbl (Nat.not_le.mpr hbl) hZ.2.2.2 hi1 dL_law__1017 ?_
    refine lv_aload_n hx hb dL_law__1018 rfl (lv_at hl 0 rfl) ?_
    refine lv_iload hx hb dL_law__1019 (lv_at hl 4 rfl) ?_
    refine lv_iconst (v := 2) hx hb dL_law__1021 (by decide) ?_
    refine lv_iadd hx hb dL_law__1022 ?_
    refine va_sld hx hb hX hbl (Nat.not_le.mpr hbl) hZ.2.2.2 hi2 dL_law__1023 ?_
    refine lv_aload_n hx hb dL_law__1024 rfl (lv_at hl 3 rfl) ?_
    refine lw_i (lrunW (n := 4) (As := [.ref (gx.2.2 0), .int (xs (i + 1).toNatClampNeg), .int (xs (i + 2).toNatClampNeg), .ref qo]) (rest := []) E hT hKo hNc A hZ kw_983 kw_0 kw_982 ⟨by decide, by decide, by decide +kernel⟩ kw_981 (cw_L_error l hst gx cO qo M v (xs (i + 1).toNatClampNeg) (xs (i + 2).toNatClampNeg) hfx (fun _ _ h => by cases h; exact hk0)) rfl hl.1 rfl (Nat.le_of_ble_eq_true rfl) ⟨by decide, by decide⟩ ⟨by show cells + 2 ≤ 601024; omega, by show slots + 12 ≤ 7293033; omega⟩ dL_law__1025) A hZ (fun H locs hZ => ?_)
    have hZ : zLS gx gr cO qo s H locs M1 N v := hZ
    refine W.widen (k := cells + 48) (n := slots + 288) (by omega) (by omega) ?_
    refine lv_istore (lv' := [(5, .int ((fun _ => 1) k0)), (0, .ref b), (1, .ref (gx.2.2 0)), (2, .ref (gr.2.2 0)), (3, .ref qo), (4, .int i)]) hx hb dL_law__1028 hl (by decide) rfl (fun ls hl => ?_)
    refine lv_aload_n hx hb dL_law__1030 rfl (lv_at hl 3 rfl) ?_
    refine lv_aload_n hx hb dL_law__1031 rfl (lv_at hl 1 rfl) ?_
    refine lv_iload hx hb dL_law__1032 (lv_at hl 5 rfl) ?_
    refine lv_iconst (v := 1) hx hb dL_law__1034 (by decide) ?_
    refine lv_iadd hx hb dL_law__1035 ?_
    refine va_sld hx hb hX hbl (Nat.not_le.mpr hbl) hZ.2.2.2 hi1 dL_law__1036 ?_
    refine lv_aload_n hx hb dL_law__1037 rfl (lv_at hl 1 rfl) ?_
    refine lv_iload hx hb dL_law__1038 (lv_at hl 5 rfl) ?_
    refine lv_iconst (v := 2) hx hb dL_law__1040 (by decide) ?_
    refine lv_iadd hx hb dL_law__1041 ?_
    refine va_sld hx hb hX hbl (Nat.not_le.mpr hbl) hZ.2.2.2 hi2 dL_law__1042 ?_
    refine lr_i (zrunV (As := [.int (xs (i + 1).toNatClampNeg), .int (xs (i + 2).toNatClampNeg)]) (rest := []) Er (hZ.r A) (by decide) (re_0 _) rfl rfl v_X11_error kw_1809 (c_X11_error l gr N (xs (i + 1).toNatClampNeg) (xs (i + 2).toNatClampNeg) hfr _) rfl hl.1 rfl (Nat.le_of_ble_eq_true rfl) ⟨by decide, by decide⟩ ⟨by show _ ≤ 601024; omega, by show _ ≤ 7293033; omega⟩ dL_law__1043) A hZ (fun x9 N9 H locs hp hZ => ?_)
    obtain ⟨rfl, rfl⟩ := Prod.mk.inj hp
    refine lv_istore (lv' := [(6, .int b9), (5, .int ((fun _ => 1) k0)), (0, .ref b), (1, .ref (gx.2.2 0)), (2, .ref (gr.2.2 0)), (3, .ref qo), (4, .int i)]) hx hb dL_law__1046 hl (by decide) rfl (fun ls hl => ?_)
    refine lv_aload_n hx hb dL_law__1048 rfl (lv_at hl 4 rfl) ?_
    refine lr_i (zrunV (As := []) (rest := []) Er (hZ.r A) (by decide) (re_0 _) rfl rfl v_X11_thrown kw_1358 (c_X11_thrown l gr N1 (r := N1 0 0) rfl _) rfl hl.1 rfl (Nat.le_of_ble_eq_true rfl) ⟨by decide, by decide⟩ ⟨by show _ ≤ 601024; omega, by show _ ≤ 7293033; omega⟩ dL_law__1049) A hZ (fun x9 N9 H locs hp hZ => ?_)
    obtain ⟨e1, e2⟩ := hp
    rw [e2] at hZ
    rw [e1]
    refine lv_iload hx hb dL_law__1052 (lv_at hl 1 rfl) ?_
    refine lv_icmp_eq (tgt := 1059) hx hb dL_law__1054 (by decide) (fun _ => ?_) (fun hne => absurd ht hne)
    refine lv_iload hx hb dL_law__1059 (lv_at hl 1 rfl) ?_
    refine lv_if_ne (tgt := 1076) hx hb dL_law__1061 (by decide) (fun _ => ?_) (fun h0 => absurd h0 (by show ¬ (1 : Int32) = 0; decide))
    refine lv_goto (tgt := 3069) hx hb dL_law__1076 (by decide) ?_
    refine W.widen (k := cells + 60) (n := slots + 360) (by omega) (by omega) ?_
    exact kk _ _ _ _ _ _ hR1 hZ (lv_sub hl [2, 3, 4, 5, 6] rfl)
  · refine lv_aload_n hx hb dL_law__1011 rfl (lv_at hl 1 rfl) ?_
    refine lv_aload_n hx hb dL_law__1012 rfl (lv_at hl 0 rfl) ?_
    refine lv_iload hx hb dL_law__1013 (lv_at hl 4 rfl) ?_
    refine lv_iconst (v := 1) hx hb dL_law__1015 (by decide) ?_
    refine lv_iadd hx hb dL_law__1016 ?_
    refine va_sld hx hb hX hbl (Nat.not_le.mpr hbl) hZ.2.2.2 hi1 dL_law__1017 ?_
    refine lv_aload_n hx hb dL_law__1018 rfl (lv_at hl 0 rfl) ?_
    refine lv_iload hx hb dL_law__1019 (lv_at hl 4 rfl) ?_
    refine lv_iconst (v := 2) hx hb dL_law__1021 (by decide) ?_
    refine lv_iadd hx hb dL_law__1022 ?_
    refine va_sld hx hb hX hbl (Nat.not_le.mpr hbl) hZ.2.2.2 hi2 dL_law__1023 ?_
    refine lv_aload_n hx hb dL_law__1024 rfl (lv_at hl 3 rfl) ?_
    refine lw_i (lrunW (n := 4) (As := [.ref (gx.2.2 0), .int (xs (i + 1).toNatClampNeg), .int (xs (i + 2).toNatClampNeg), .ref qo]) (rest := []) E hT hKo hNc A hZ kw_983 kw_0 kw_982 ⟨by decide, by decide, by decide +kernel⟩ kw_981 (cw_L_error l hst gx cO qo M v (xs (i + 1).toNatClampNeg) (xs (i + 2).toNatClampNeg) hfx (fun _ _ h => by cases h)) rfl hl.1 rfl (Nat.le_of_ble_eq_true rfl) ⟨by decide, by decide⟩ ⟨by show cells + 2 ≤ 601024; omega, by show slots + 12 ≤ 7293033; omega⟩ dL_law__1025) A hZ (fun H locs hZ => ?_)
    have hZ : zLS gx gr cO qo s H locs M1 N (b9.toInt64) := hZ
    refine W.widen (k := cells + 48) (n := slots + 288) (by omega) (by omega) ?_
    refine lv_istore (lv' := [(5, .int 0), (0, .ref b), (1, .ref (gx.2.2 0)), (2, .ref (gr.2.2 0)), (3, .ref qo), (4, .int i)]) hx hb dL_law__1028 hl (by decide) rfl (fun ls hl => ?_)
    refine lv_aload_n hx hb dL_law__1030 rfl (lv_at hl 3 rfl) ?_
    refine lv_aload_n hx hb dL_law__1031 rfl (lv_at hl 1 rfl) ?_
    refine lv_iload hx hb dL_law__1032 (lv_at hl 5 rfl) ?_
    refine lv_iconst (v := 1) hx hb dL_law__1034 (by decide) ?_
    refine lv_iadd hx hb dL_law__1035 ?_
    refine va_sld hx hb hX hbl (Nat.not_le.mpr hbl) hZ.2.2.2 hi1 dL_law__1036 ?_
    refine lv_aload_n hx hb dL_law__1037 rfl (lv_at hl 1 rfl) ?_
    refine lv_iload hx hb dL_law__1038 (lv_at hl 5 rfl) ?_
    refine lv_iconst (v := 2) hx hb dL_law__1040 (by decide) ?_
    refine lv_iadd hx hb dL_law__1041 ?_
    refine va_sld hx hb hX hbl (Nat.not_le.mpr hbl) hZ.2.2.2 hi2 dL_law__1042 ?_
    refine lr_i (zrunV (As := [.int (xs (i + 1).toNatClampNeg), .int (xs (i + 2).toNatClampNeg)]) (rest := []) Er (hZ.r A) (by decide) (re_0 _) rfl rfl v_X11_error kw_1809 (c_X11_error l gr N (xs (i + 1).toNatClampNeg) (xs (i + 2).toNatClampNeg) hfr _) rfl hl.1 rfl (Nat.le_of_ble_eq_true rfl) ⟨by decide, by decide⟩ ⟨by show _ ≤ 601024; omega, by show _ ≤ 7293033; omega⟩ dL_law__1043) A hZ (fun x9 N9 H locs hp hZ => ?_)
    obtain ⟨rfl, rfl⟩ := Prod.mk.inj hp
    refine lv_istore (lv' := [(6, .int b9), (5, .int 0), (0, .ref b), (1, .ref (gx.2.2 0)), (2, .ref (gr.2.2 0)), (3, .ref qo), (4, .int i)]) hx hb dL_law__1046 hl (by decide) rfl (fun ls hl => ?_)
    refine lv_aload_n hx hb dL_law__1048 rfl (lv_at hl 4 rfl) ?_
    refine lr_i (zrunV (As := []) (rest := []) Er (hZ.r A) (by decide) (re_0 _) rfl rfl v_X11_thrown kw_1358 (c_X11_thrown l gr N1 (r := N1 0 0) rfl _) rfl hl.1 rfl (Nat.le_of_ble_eq_true rfl) ⟨by decide, by decide⟩ ⟨by show _ ≤ 601024; omega, by show _ ≤ 7293033; omega⟩ dL_law__1049) A hZ (fun x9 N9 H locs hp hZ => ?_)
    obtain ⟨e1, e2⟩ := hp
    rw [e2] at hZ
    rw [e1]
    refine lv_iload hx hb dL_law__1052 (lv_at hl 1 rfl) ?_
    refine lv_icmp_eq (tgt := 1059) hx hb dL_law__1054 (by decide) (fun _ => ?_) (fun hne => absurd ht hne)
    refine lv_iload hx hb dL_law__1059 (lv_at hl 1 rfl) ?_
    refine lv_if_ne (tgt := 1076) hx hb dL_law__1061 (by decide) (fun hne => absurd rfl hne) (fun _ => ?_)
    refine lv_aload_n hx hb dL_law__1064 rfl (lv_at hl 5 rfl) ?_
    refine lv_iconst (v := 0) hx hb dL_law__1065 (by decide) ?_
    refine va_lald hx hb hKo hZ.2.2.1 0 0 rfl rfl (zin_of (by decide)) dL_law__1066 ?_
    refine lv_iload hx hb dL_law__1067 (lv_at hl 0 rfl) ?_
    refine lv_i2l hx hb dL_law__1069 rfl ?_
    refine W.lcmp hx hb dL_law__1070 ?_
    refine lv_if_eq (tgt := 1076) hx hb dL_law__1071 (by decide) (fun _ => ?_) (fun hne => absurd (zcmp_self _) hne)
    refine lv_goto (tgt := 3069) hx hb dL_law__1076 (by decide) ?_
    refine W.widen (k := cells + 60) (n := slots + 360) (by omega) (by omega) ?_
    exact kk _ _ _ _ _ _ hR1 hZ (lv_sub hl [2, 3, 4, 5, 6] rfl)
def zs_edition (Rel Rel' : zM → zM → Prop) : Prop := ∀ (M N : zM), Rel M N → ∀ x1 : Int32, zsT Rel' (f_X10_edition M x1) (f_X11_edition N x1) (fun k => k = 1) (fun _ => 1)
set_option maxRecDepth 100000 in
set_option maxHeartbeats 4000000 in
theorem lc_edition (C : zLC p l s m args c gx gr cO qo b L xs Ts) (hz : zs_edition Rel Rel') (hR : Rel M N) (hZ : zLS gx gr cO qo s H locs M N v) (hl : lv_has ls 7 (zLl b gx gr qo i)) (hi1 : vp_in (i + 1) L) (hi2 : vp_in (i + 2) L) (hi3 : vp_in (i + 3) L) (hi4 : vp_in (i + 4) L) (hi5 : vp_in (i + 5) L) (hc : cells + 60 ≤ 601024) (hsl : slots + 360 ≤ 7293033) (kk : zLK p l e s m args below meth c Q Rel' gx gr cO qo b i cells slots) : W p l e room_1 s m args below meth c H locs cells slots Q (F0 m 1079 ls []) := by
  obtain ⟨hst, E, Er, hT, S, hKo, hNc, A, hX, hbl⟩ := C
  have hx := E.1.1
  have hb := E.1.2.1
  have hl : lv_has ls 7 [(0, .ref b), (1, .ref (gx.2.2 0)), (2, .ref (gr.2.2 0)), (3, .ref qo), (4, .int i)] := hl
  obtain ⟨M1, b9, N1, hfr, hR1, hcc⟩ := hz M N hR (xs (i + 1).toNatClampNeg) 
  rcases hcc with ⟨k0, hfx, hk0, ht⟩ | ⟨hfx, ht⟩
  · refine lv_aload_n hx hb dL_law__1079 rfl (lv_at hl 1 rfl) ?_
    refine lv_aload_n hx hb dL_law__1080 rfl (lv_at hl 0 rfl) ?_
    refine lv_iload hx hb dL_law__1081 (lv_at hl 4 rfl) ?_
    refine lv_iconst (v := 1) hx hb dL_law__1083 (by decide) ?_
    refine lv_iadd hx hb dL_law__1084 ?_
    refine va_sld hx hb hX hbl (Nat.not_le.mpr hbl) hZ.2.2.2 hi1 dL_law__1085 ?_
    refine lv_aload_n hx hb dL_law__1086 rfl (lv_at hl 3 rfl) ?_
    refine lw_i (lrunW (n := 3) (As := [.ref (gx.2.2 0), .int (xs (i + 1).toNatClampNeg), .ref qo]) (rest := []) E hT hKo hNc A hZ kw_995 kw_0 kw_994 ⟨by decide, by decide, by decide +kernel⟩ kw_993 (cw_L_edition l hst gx cO qo M v (xs (i + 1).toNatClampNeg) hfx (fun _ _ h => by cases h; exact hk0)) rfl hl.1 rfl (Nat.le_of_ble_eq_true rfl) ⟨by decide, by decide⟩ ⟨by show cells + 1 ≤ 601024; omega, by show slots + 6 ≤ 7293033; omega⟩ dL_law__1087) A hZ (fun H locs hZ => ?_)
    have hZ : zLS gx gr cO qo s H locs M1 N v := hZ
    refine W.widen (k := cells + 48) (n := slots + 288) (by omega) (by omega) ?_
    refine lv_istore (lv' := [(5, .int ((fun _ => 1) k0)), (0, .ref b), (1, .ref (gx.2.2 0)), (2, .ref (gr.2.2 0)), (3, .ref qo), (4, .int i)]) hx hb dL_law__1090 hl (by decide) rfl (fun ls hl => ?_)
    refine lv_aload_n hx hb dL_law__1092 rfl (lv_at hl 3 rfl) ?_
    refine lv_aload_n hx hb dL_law__1093 rfl (lv_at hl 1 rfl) ?_
    refine lv_iload hx hb dL_law__1094 (lv_at hl 5 rfl) ?_
    refine lv_iconst (v := 1) hx hb dL_law__1096 (by decide) ?_
    refine lv_iadd hx hb dL_law__1097 ?_
    refine va_sld hx hb hX hbl (Nat.not_le.mpr hbl) hZ.2.2.2 hi1 dL_law__1098 ?_
    refine lr_i (zrunV (As := [.int (xs (i + 1).toNatClampNeg)]) (rest := []) Er (hZ.r A) (by decide) (re_0 _) rfl rfl v_X11_edition kw_1816 (c_X11_edition l gr N (xs (i + 1).toNatClampNeg) hfr _) rfl hl.1 rfl (Nat.le_of_ble_eq_true rfl) ⟨by decide, by decide⟩ ⟨by show _ ≤ 601024; omega, by show _ ≤ 7293033; omega⟩ dL_law__1099) A hZ (fun x9 N9 H locs hp hZ => ?_)
    obtain ⟨rfl, rfl⟩ := Prod.mk.inj hp
    refine lv_istore (lv' := [(6, .int b9), (5, .int ((fun _ => 1) k0)), (0, .ref b), (1, .ref (gx.2.2 0)), (2, .ref (gr.2.2 0)), (3, .ref qo), (4, .int i)]) hx hb dL_law__1102 hl (by decide) rfl (fun ls hl => ?_)
    refine lv_aload_n hx hb dL_law__1104 rfl (lv_at hl 4 rfl) ?_
    refine lr_i (zrunV (As := []) (rest := []) Er (hZ.r A) (by decide) (re_0 _) rfl rfl v_X11_thrown kw_1358 (c_X11_thrown l gr N1 (r := N1 0 0) rfl _) rfl hl.1 rfl (Nat.le_of_ble_eq_true rfl) ⟨by decide, by decide⟩ ⟨by show _ ≤ 601024; omega, by show _ ≤ 7293033; omega⟩ dL_law__1105) A hZ (fun x9 N9 H locs hp hZ => ?_)
    obtain ⟨e1, e2⟩ := hp
    rw [e2] at hZ
    rw [e1]
    refine lv_iload hx hb dL_law__1108 (lv_at hl 1 rfl) ?_
    refine lv_icmp_eq (tgt := 1115) hx hb dL_law__1110 (by decide) (fun _ => ?_) (fun hne => absurd ht hne)
    refine lv_iload hx hb dL_law__1115 (lv_at hl 1 rfl) ?_
    refine lv_if_ne (tgt := 1132) hx hb dL_law__1117 (by decide) (fun _ => ?_) (fun h0 => absurd h0 (by show ¬ (1 : Int32) = 0; decide))
    refine lv_goto (tgt := 3069) hx hb dL_law__1132 (by decide) ?_
    refine W.widen (k := cells + 60) (n := slots + 360) (by omega) (by omega) ?_
    exact kk _ _ _ _ _ _ hR1 hZ (lv_sub hl [2, 3, 4, 5, 6] rfl)
  · refine lv_aload_n hx hb dL_law__1079 rfl (lv_at hl 1 rfl) ?_
    refine lv_aload_n hx hb dL_law__1080 rfl (lv_at hl 0 rfl) ?_
    refine lv_iload hx hb dL_law__1081 (lv_at hl 4 rfl) ?_
    refine lv_iconst (v := 1) hx hb dL_law__1083 (by decide) ?_
    refine lv_iadd hx hb dL_law__1084 ?_
    refine va_sld hx hb hX hbl (Nat.not_le.mpr hbl) hZ.2.2.2 hi1 dL_law__1085 ?_
    refine lv_aload_n hx hb dL_law__1086 rfl (lv_at hl 3 rfl) ?_
    refine lw_i (lrunW (n := 3) (As := [.ref (gx.2.2 0), .int (xs (i + 1).toNatClampNeg), .ref qo]) (rest := []) E hT hKo hNc A hZ kw_995 kw_0 kw_994 ⟨by decide, by decide, by decide +kernel⟩ kw_993 (cw_L_edition l hst gx cO qo M v (xs (i + 1).toNatClampNeg) hfx (fun _ _ h => by cases h)) rfl hl.1 rfl (Nat.le_of_ble_eq_true rfl) ⟨by decide, by decide⟩ ⟨by show cells + 1 ≤ 601024; omega, by show slots + 6 ≤ 7293033; omega⟩ dL_law__1087) A hZ (fun H locs hZ => ?_)
    have hZ : zLS gx gr cO qo s H locs M1 N (b9.toInt64) := hZ
    refine W.widen (k := cells + 48) (n := slots + 288) (by omega) (by omega) ?_
    refine lv_istore (lv' := [(5, .int 0), (0, .ref b), (1, .ref (gx.2.2 0)), (2, .ref (gr.2.2 0)), (3, .ref qo), (4, .int i)]) hx hb dL_law__1090 hl (by decide) rfl (fun ls hl => ?_)
    refine lv_aload_n hx hb dL_law__1092 rfl (lv_at hl 3 rfl) ?_
    refine lv_aload_n hx hb dL_law__1093 rfl (lv_at hl 1 rfl) ?_
    refine lv_iload hx hb dL_law__1094 (lv_at hl 5 rfl) ?_
    refine lv_iconst (v := 1) hx hb dL_law__1096 (by decide) ?_
    refine lv_iadd hx hb dL_law__1097 ?_
    refine va_sld hx hb hX hbl (Nat.not_le.mpr hbl) hZ.2.2.2 hi1 dL_law__1098 ?_
    refine lr_i (zrunV (As := [.int (xs (i + 1).toNatClampNeg)]) (rest := []) Er (hZ.r A) (by decide) (re_0 _) rfl rfl v_X11_edition kw_1816 (c_X11_edition l gr N (xs (i + 1).toNatClampNeg) hfr _) rfl hl.1 rfl (Nat.le_of_ble_eq_true rfl) ⟨by decide, by decide⟩ ⟨by show _ ≤ 601024; omega, by show _ ≤ 7293033; omega⟩ dL_law__1099) A hZ (fun x9 N9 H locs hp hZ => ?_)
    obtain ⟨rfl, rfl⟩ := Prod.mk.inj hp
    refine lv_istore (lv' := [(6, .int b9), (5, .int 0), (0, .ref b), (1, .ref (gx.2.2 0)), (2, .ref (gr.2.2 0)), (3, .ref qo), (4, .int i)]) hx hb dL_law__1102 hl (by decide) rfl (fun ls hl => ?_)
    refine lv_aload_n hx hb dL_law__1104 rfl (lv_at hl 4 rfl) ?_
    refine lr_i (zrunV (As := []) (rest := []) Er (hZ.r A) (by decide) (re_0 _) rfl rfl v_X11_thrown kw_1358 (c_X11_thrown l gr N1 (r := N1 0 0) rfl _) rfl hl.1 rfl (Nat.le_of_ble_eq_true rfl) ⟨by decide, by decide⟩ ⟨by show _ ≤ 601024; omega, by show _ ≤ 7293033; omega⟩ dL_law__1105) A hZ (fun x9 N9 H locs hp hZ => ?_)
    obtain ⟨e1, e2⟩ := hp
    rw [e2] at hZ
    rw [e1]
    refine lv_iload hx hb dL_law__1108 (lv_at hl 1 rfl) ?_
    refine lv_icmp_eq (tgt := 1115) hx hb dL_law__1110 (by decide) (fun _ => ?_) (fun hne => absurd ht hne)
    refine lv_iload hx hb dL_law__1115 (lv_at hl 1 rfl) ?_
    refine lv_if_ne (tgt := 1132) hx hb dL_law__1117 (by decide) (fun hne => absurd rfl hne) (fun _ => ?_)
    refine lv_aload_n hx hb dL_law__1120 rfl (lv_at hl 5 rfl) ?_
    refine lv_iconst (v := 0) hx hb dL_law__1121 (by decide) ?_
    refine va_lald hx hb hKo hZ.2.2.1 0 0 rfl rfl (zin_of (by decide)) dL_law__1122 ?_
    refine lv_iload hx hb dL_law__1123 (lv_at hl 0 rfl) ?_
    refine lv_i2l hx hb dL_law__1125 rfl ?_
    refine W.lcmp hx hb dL_law__1126 ?_
    refine lv_if_eq (tgt := 1132) hx hb dL_law__1127 (by decide) (fun _ => ?_) (fun hne => absurd (zcmp_self _) hne)
    refine lv_goto (tgt := 3069) hx hb dL_law__1132 (by decide) ?_
    refine W.widen (k := cells + 60) (n := slots + 360) (by omega) (by omega) ?_
    exact kk _ _ _ _ _ _ hR1 hZ (lv_sub hl [2, 3, 4, 5, 6] rfl)
def zs_wind (Rel Rel' : zM → zM → Prop) : Prop := ∀ (M N : zM), Rel M N → ∀ x1 : Int32, zsT Rel' (f_X10_wind M x1) (f_X11_wind N x1) (fun k => k = 1) (fun _ => 1)
set_option maxRecDepth 100000 in
set_option maxHeartbeats 4000000 in
theorem lc_wind (C : zLC p l s m args c gx gr cO qo b L xs Ts) (hz : zs_wind Rel Rel') (hR : Rel M N) (hZ : zLS gx gr cO qo s H locs M N v) (hl : lv_has ls 7 (zLl b gx gr qo i)) (hi1 : vp_in (i + 1) L) (hi2 : vp_in (i + 2) L) (hi3 : vp_in (i + 3) L) (hi4 : vp_in (i + 4) L) (hi5 : vp_in (i + 5) L) (hc : cells + 60 ≤ 601024) (hsl : slots + 360 ≤ 7293033) (kk : zLK p l e s m args below meth c Q Rel' gx gr cO qo b i cells slots) : W p l e room_1 s m args below meth c H locs cells slots Q (F0 m 1135 ls []) := by
  obtain ⟨hst, E, Er, hT, S, hKo, hNc, A, hX, hbl⟩ := C
  have hx := E.1.1
  have hb := E.1.2.1
  have hl : lv_has ls 7 [(0, .ref b), (1, .ref (gx.2.2 0)), (2, .ref (gr.2.2 0)), (3, .ref qo), (4, .int i)] := hl
  obtain ⟨M1, b9, N1, hfr, hR1, hcc⟩ := hz M N hR (xs (i + 1).toNatClampNeg) 
  rcases hcc with ⟨k0, hfx, hk0, ht⟩ | ⟨hfx, ht⟩
  · refine lv_aload_n hx hb dL_law__1135 rfl (lv_at hl 1 rfl) ?_
    refine lv_aload_n hx hb dL_law__1136 rfl (lv_at hl 0 rfl) ?_
    refine lv_iload hx hb dL_law__1137 (lv_at hl 4 rfl) ?_
    refine lv_iconst (v := 1) hx hb dL_law__1139 (by decide) ?_
    refine lv_iadd hx hb dL_law__1140 ?_
    refine va_sld hx hb hX hbl (Nat.not_le.mpr hbl) hZ.2.2.2 hi1 dL_law__1141 ?_
    refine lv_aload_n hx hb dL_law__1142 rfl (lv_at hl 3 rfl) ?_
    refine lw_i (lrunW (n := 3) (As := [.ref (gx.2.2 0), .int (xs (i + 1).toNatClampNeg), .ref qo]) (rest := []) E hT hKo hNc A hZ kw_1002 kw_0 kw_1001 ⟨by decide, by decide, by decide +kernel⟩ kw_1000 (cw_L_wind l hst gx cO qo M v (xs (i + 1).toNatClampNeg) hfx (fun _ _ h => by cases h; exact hk0)) rfl hl.1 rfl (Nat.le_of_ble_eq_true rfl) ⟨by decide, by decide⟩ ⟨by show cells + 1 ≤ 601024; omega, by show slots + 6 ≤ 7293033; omega⟩ dL_law__1143) A hZ (fun H locs hZ => ?_)
    have hZ : zLS gx gr cO qo s H locs M1 N v := hZ
    refine W.widen (k := cells + 48) (n := slots + 288) (by omega) (by omega) ?_
    refine lv_istore (lv' := [(5, .int ((fun _ => 1) k0)), (0, .ref b), (1, .ref (gx.2.2 0)), (2, .ref (gr.2.2 0)), (3, .ref qo), (4, .int i)]) hx hb dL_law__1146 hl (by decide) rfl (fun ls hl => ?_)
    refine lv_aload_n hx hb dL_law__1148 rfl (lv_at hl 3 rfl) ?_
    refine lv_aload_n hx hb dL_law__1149 rfl (lv_at hl 1 rfl) ?_
    refine lv_iload hx hb dL_law__1150 (lv_at hl 5 rfl) ?_
    refine lv_iconst (v := 1) hx hb dL_law__1152 (by decide) ?_
    refine lv_iadd hx hb dL_law__1153 ?_
    refine va_sld hx hb hX hbl (Nat.not_le.mpr hbl) hZ.2.2.2 hi1 dL_law__1154 ?_
    refine lr_i (zrunV (As := [.int (xs (i + 1).toNatClampNeg)]) (rest := []) Er (hZ.r A) (by decide) (re_0 _) rfl rfl v_X11_wind kw_1820 (c_X11_wind l gr N (xs (i + 1).toNatClampNeg) hfr _) rfl hl.1 rfl (Nat.le_of_ble_eq_true rfl) ⟨by decide, by decide⟩ ⟨by show _ ≤ 601024; omega, by show _ ≤ 7293033; omega⟩ dL_law__1155) A hZ (fun x9 N9 H locs hp hZ => ?_)
    obtain ⟨rfl, rfl⟩ := Prod.mk.inj hp
    refine lv_istore (lv' := [(6, .int b9), (5, .int ((fun _ => 1) k0)), (0, .ref b), (1, .ref (gx.2.2 0)), (2, .ref (gr.2.2 0)), (3, .ref qo), (4, .int i)]) hx hb dL_law__1158 hl (by decide) rfl (fun ls hl => ?_)
    refine lv_aload_n hx hb dL_law__1160 rfl (lv_at hl 4 rfl) ?_
    refine lr_i (zrunV (As := []) (rest := []) Er (hZ.r A) (by decide) (re_0 _) rfl rfl v_X11_thrown kw_1358 (c_X11_thrown l gr N1 (r := N1 0 0) rfl _) rfl hl.1 rfl (Nat.le_of_ble_eq_true rfl) ⟨by decide, by decide⟩ ⟨by show _ ≤ 601024; omega, by show _ ≤ 7293033; omega⟩ dL_law__1161) A hZ (fun x9 N9 H locs hp hZ => ?_)
    obtain ⟨e1, e2⟩ := hp
    rw [e2] at hZ
    rw [e1]
    refine lv_iload hx hb dL_law__1164 (lv_at hl 1 rfl) ?_
    refine lv_icmp_eq (tgt := 1171) hx hb dL_law__1166 (by decide) (fun _ => ?_) (fun hne => absurd ht hne)
    refine lv_iload hx hb dL_law__1171 (lv_at hl 1 rfl) ?_
    refine lv_if_ne (tgt := 1188) hx hb dL_law__1173 (by decide) (fun _ => ?_) (fun h0 => absurd h0 (by show ¬ (1 : Int32) = 0; decide))
    refine lv_goto (tgt := 3069) hx hb dL_law__1188 (by decide) ?_
    refine W.widen (k := cells + 60) (n := slots + 360) (by omega) (by omega) ?_
    exact kk _ _ _ _ _ _ hR1 hZ (lv_sub hl [2, 3, 4, 5, 6] rfl)
  · refine lv_aload_n hx hb dL_law__1135 rfl (lv_at hl 1 rfl) ?_
    refine lv_aload_n hx hb dL_law__1136 rfl (lv_at hl 0 rfl) ?_
    refine lv_iload hx hb dL_law__1137 (lv_at hl 4 rfl) ?_
    refine lv_iconst (v := 1) hx hb dL_law__1139 (by decide) ?_
    refine lv_iadd hx hb dL_law__1140 ?_
    refine va_sld hx hb hX hbl (Nat.not_le.mpr hbl) hZ.2.2.2 hi1 dL_law__1141 ?_
    refine lv_aload_n hx hb dL_law__1142 rfl (lv_at hl 3 rfl) ?_
    refine lw_i (lrunW (n := 3) (As := [.ref (gx.2.2 0), .int (xs (i + 1).toNatClampNeg), .ref qo]) (rest := []) E hT hKo hNc A hZ kw_1002 kw_0 kw_1001 ⟨by decide, by decide, by decide +kernel⟩ kw_1000 (cw_L_wind l hst gx cO qo M v (xs (i + 1).toNatClampNeg) hfx (fun _ _ h => by cases h)) rfl hl.1 rfl (Nat.le_of_ble_eq_true rfl) ⟨by decide, by decide⟩ ⟨by show cells + 1 ≤ 601024; omega, by show slots + 6 ≤ 7293033; omega⟩ dL_law__1143) A hZ (fun H locs hZ => ?_)
    have hZ : zLS gx gr cO qo s H locs M1 N (b9.toInt64) := hZ
    refine W.widen (k := cells + 48) (n := slots + 288) (by omega) (by omega) ?_
    refine lv_istore (lv' := [(5, .int 0), (0, .ref b), (1, .ref (gx.2.2 0)), (2, .ref (gr.2.2 0)), (3, .ref qo), (4, .int i)]) hx hb dL_law__1146 hl (by decide) rfl (fun ls hl => ?_)
    refine lv_aload_n hx hb dL_law__1148 rfl (lv_at hl 3 rfl) ?_
    refine lv_aload_n hx hb dL_law__1149 rfl (lv_at hl 1 rfl) ?_
    refine lv_iload hx hb dL_law__1150 (lv_at hl 5 rfl) ?_
    refine lv_iconst (v := 1) hx hb dL_law__1152 (by decide) ?_
    refine lv_iadd hx hb dL_law__1153 ?_
    refine va_sld hx hb hX hbl (Nat.not_le.mpr hbl) hZ.2.2.2 hi1 dL_law__1154 ?_
    refine lr_i (zrunV (As := [.int (xs (i + 1).toNatClampNeg)]) (rest := []) Er (hZ.r A) (by decide) (re_0 _) rfl rfl v_X11_wind kw_1820 (c_X11_wind l gr N (xs (i + 1).toNatClampNeg) hfr _) rfl hl.1 rfl (Nat.le_of_ble_eq_true rfl) ⟨by decide, by decide⟩ ⟨by show _ ≤ 601024; omega, by show _ ≤ 7293033; omega⟩ dL_law__1155) A hZ (fun x9 N9 H locs hp hZ => ?_)
    obtain ⟨rfl, rfl⟩ := Prod.mk.inj hp
    refine lv_istore (lv' := [(6, .int b9), (5, .int 0), (0, .ref b), (1, .ref (gx.2.2 0)), (2, .ref (gr.2.2 0)), (3, .ref qo), (4, .int i)]) hx hb dL_law__1158 hl (by decide) rfl (fun ls hl => ?_)
    refine lv_aload_n hx hb dL_law__1160 rfl (lv_at hl 4 rfl) ?_
    refine lr_i (zrunV (As := []) (rest := []) Er (hZ.r A) (by decide) (re_0 _) rfl rfl v_X11_thrown kw_1358 (c_X11_thrown l gr N1 (r := N1 0 0) rfl _) rfl hl.1 rfl (Nat.le_of_ble_eq_true rfl) ⟨by decide, by decide⟩ ⟨by show _ ≤ 601024; omega, by show _ ≤ 7293033; omega⟩ dL_law__1161) A hZ (fun x9 N9 H locs hp hZ => ?_)
    obtain ⟨e1, e2⟩ := hp
    rw [e2] at hZ
    rw [e1]
    refine lv_iload hx hb dL_law__1164 (lv_at hl 1 rfl) ?_
    refine lv_icmp_eq (tgt := 1171) hx hb dL_law__1166 (by decide) (fun _ => ?_) (fun hne => absurd ht hne)
    refine lv_iload hx hb dL_law__1171 (lv_at hl 1 rfl) ?_
    refine lv_if_ne (tgt := 1188) hx hb dL_law__1173 (by decide) (fun hne => absurd rfl hne) (fun _ => ?_)
    refine lv_aload_n hx hb dL_law__1176 rfl (lv_at hl 5 rfl) ?_
    refine lv_iconst (v := 0) hx hb dL_law__1177 (by decide) ?_
    refine va_lald hx hb hKo hZ.2.2.1 0 0 rfl rfl (zin_of (by decide)) dL_law__1178 ?_
    refine lv_iload hx hb dL_law__1179 (lv_at hl 0 rfl) ?_
    refine lv_i2l hx hb dL_law__1181 rfl ?_
    refine W.lcmp hx hb dL_law__1182 ?_
    refine lv_if_eq (tgt := 1188) hx hb dL_law__1183 (by decide) (fun _ => ?_) (fun hne => absurd (zcmp_self _) hne)
    refine lv_goto (tgt := 3069) hx hb dL_law__1188 (by decide) ?_
    refine W.widen (k := cells + 60) (n := slots + 360) (by omega) (by omega) ?_
    exact kk _ _ _ _ _ _ hR1 hZ (lv_sub hl [2, 3, 4, 5, 6] rfl)
def zs_anew (Rel Rel' : zM → zM → Prop) : Prop := ∀ (M N : zM), Rel M N → ∀ x1 : Int32, zsT Rel' (f_X10_anew M x1) (f_X11_anew N x1) (fun k => k = 0) (fun _ => 1)
set_option maxRecDepth 100000 in
set_option maxHeartbeats 4000000 in
theorem lc_anew (C : zLC p l s m args c gx gr cO qo b L xs Ts) (hz : zs_anew Rel Rel') (hR : Rel M N) (hZ : zLS gx gr cO qo s H locs M N v) (hl : lv_has ls 7 (zLl b gx gr qo i)) (hi1 : vp_in (i + 1) L) (hi2 : vp_in (i + 2) L) (hi3 : vp_in (i + 3) L) (hi4 : vp_in (i + 4) L) (hi5 : vp_in (i + 5) L) (hc : cells + 60 ≤ 601024) (hsl : slots + 360 ≤ 7293033) (kk : zLK p l e s m args below meth c Q Rel' gx gr cO qo b i cells slots) : W p l e room_1 s m args below meth c H locs cells slots Q (F0 m 1191 ls []) := by
  obtain ⟨hst, E, Er, hT, S, hKo, hNc, A, hX, hbl⟩ := C
  have hx := E.1.1
  have hb := E.1.2.1
  have hl : lv_has ls 7 [(0, .ref b), (1, .ref (gx.2.2 0)), (2, .ref (gr.2.2 0)), (3, .ref qo), (4, .int i)] := hl
  obtain ⟨M1, b9, N1, hfr, hR1, hcc⟩ := hz M N hR (xs (i + 1).toNatClampNeg) 
  rcases hcc with ⟨k0, hfx, hk0, ht⟩ | ⟨hfx, ht⟩
  · refine lv_aload_n hx hb dL_law__1191 rfl (lv_at hl 1 rfl) ?_
    refine lv_aload_n hx hb dL_law__1192 rfl (lv_at hl 0 rfl) ?_
    refine lv_iload hx hb dL_law__1193 (lv_at hl 4 rfl) ?_
    refine lv_iconst (v := 1) hx hb dL_law__1195 (by decide) ?_
    refine lv_iadd hx hb dL_law__1196 ?_
    refine va_sld hx hb hX hbl (Nat.not_le.mpr hbl) hZ.2.2.2 hi1 dL_law__1197 ?_
    refine lv_aload_n hx hb dL_law__1198 rfl (lv_at hl 3 rfl) ?_
    refine lw_i (lrunW (n := 3) (As := [.ref (gx.2.2 0), .int (xs (i + 1).toNatClampNeg), .ref qo]) (rest := []) E hT hKo hNc A hZ kw_1009 kw_0 kw_1008 ⟨by decide, by decide, by decide +kernel⟩ kw_1007 (cw_L_anew l hst gx cO qo M v (xs (i + 1).toNatClampNeg) hfx (fun _ _ h => by cases h; exact hk0)) rfl hl.1 rfl (Nat.le_of_ble_eq_true rfl) ⟨by decide, by decide⟩ ⟨by show cells + 1 ≤ 601024; omega, by show slots + 6 ≤ 7293033; omega⟩ dL_law__1199) A hZ (fun H locs hZ => ?_)
    have hZ : zLS gx gr cO qo s H locs M1 N v := hZ
    refine W.widen (k := cells + 48) (n := slots + 288) (by omega) (by omega) ?_
    refine lv_istore (lv' := [(5, .int ((fun _ => 1) k0)), (0, .ref b), (1, .ref (gx.2.2 0)), (2, .ref (gr.2.2 0)), (3, .ref qo), (4, .int i)]) hx hb dL_law__1202 hl (by decide) rfl (fun ls hl => ?_)
    refine lv_aload_n hx hb dL_law__1204 rfl (lv_at hl 3 rfl) ?_
    refine lv_aload_n hx hb dL_law__1205 rfl (lv_at hl 1 rfl) ?_
    refine lv_iload hx hb dL_law__1206 (lv_at hl 5 rfl) ?_
    refine lv_iconst (v := 1) hx hb dL_law__1208 (by decide) ?_
    refine lv_iadd hx hb dL_law__1209 ?_
    refine va_sld hx hb hX hbl (Nat.not_le.mpr hbl) hZ.2.2.2 hi1 dL_law__1210 ?_
    refine lr_i (zrunV (As := [.int (xs (i + 1).toNatClampNeg)]) (rest := []) Er (hZ.r A) (by decide) (re_0 _) rfl rfl v_X11_anew kw_1824 (c_X11_anew l gr N (xs (i + 1).toNatClampNeg) hfr _) rfl hl.1 rfl (Nat.le_of_ble_eq_true rfl) ⟨by decide, by decide⟩ ⟨by show _ ≤ 601024; omega, by show _ ≤ 7293033; omega⟩ dL_law__1211) A hZ (fun x9 N9 H locs hp hZ => ?_)
    obtain ⟨rfl, rfl⟩ := Prod.mk.inj hp
    refine lv_istore (lv' := [(6, .int b9), (5, .int ((fun _ => 1) k0)), (0, .ref b), (1, .ref (gx.2.2 0)), (2, .ref (gr.2.2 0)), (3, .ref qo), (4, .int i)]) hx hb dL_law__1214 hl (by decide) rfl (fun ls hl => ?_)
    refine lv_aload_n hx hb dL_law__1216 rfl (lv_at hl 4 rfl) ?_
    refine lr_i (zrunV (As := []) (rest := []) Er (hZ.r A) (by decide) (re_0 _) rfl rfl v_X11_thrown kw_1358 (c_X11_thrown l gr N1 (r := N1 0 0) rfl _) rfl hl.1 rfl (Nat.le_of_ble_eq_true rfl) ⟨by decide, by decide⟩ ⟨by show _ ≤ 601024; omega, by show _ ≤ 7293033; omega⟩ dL_law__1217) A hZ (fun x9 N9 H locs hp hZ => ?_)
    obtain ⟨e1, e2⟩ := hp
    rw [e2] at hZ
    rw [e1]
    refine lv_iload hx hb dL_law__1220 (lv_at hl 1 rfl) ?_
    refine lv_icmp_eq (tgt := 1227) hx hb dL_law__1222 (by decide) (fun _ => ?_) (fun hne => absurd ht hne)
    refine lv_iload hx hb dL_law__1227 (lv_at hl 1 rfl) ?_
    refine lv_if_ne (tgt := 1251) hx hb dL_law__1229 (by decide) (fun _ => ?_) (fun h0 => absurd h0 (by show ¬ (1 : Int32) = 0; decide))
    refine lv_goto (tgt := 3069) hx hb dL_law__1251 (by decide) ?_
    refine W.widen (k := cells + 60) (n := slots + 360) (by omega) (by omega) ?_
    exact kk _ _ _ _ _ _ hR1 hZ (lv_sub hl [2, 3, 4, 5, 6] rfl)
  · refine lv_aload_n hx hb dL_law__1191 rfl (lv_at hl 1 rfl) ?_
    refine lv_aload_n hx hb dL_law__1192 rfl (lv_at hl 0 rfl) ?_
    refine lv_iload hx hb dL_law__1193 (lv_at hl 4 rfl) ?_
    refine lv_iconst (v := 1) hx hb dL_law__1195 (by decide) ?_
    refine lv_iadd hx hb dL_law__1196 ?_
    refine va_sld hx hb hX hbl (Nat.not_le.mpr hbl) hZ.2.2.2 hi1 dL_law__1197 ?_
    refine lv_aload_n hx hb dL_law__1198 rfl (lv_at hl 3 rfl) ?_
    refine lw_i (lrunW (n := 3) (As := [.ref (gx.2.2 0), .int (xs (i + 1).toNatClampNeg), .ref qo]) (rest := []) E hT hKo hNc A hZ kw_1009 kw_0 kw_1008 ⟨by decide, by decide, by decide +kernel⟩ kw_1007 (cw_L_anew l hst gx cO qo M v (xs (i + 1).toNatClampNeg) hfx (fun _ _ h => by cases h)) rfl hl.1 rfl (Nat.le_of_ble_eq_true rfl) ⟨by decide, by decide⟩ ⟨by show cells + 1 ≤ 601024; omega, by show slots + 6 ≤ 7293033; omega⟩ dL_law__1199) A hZ (fun H locs hZ => ?_)
    have hZ : zLS gx gr cO qo s H locs M1 N (if b9 = 0 then (0 : Int64) else 1) := hZ
    refine W.widen (k := cells + 48) (n := slots + 288) (by omega) (by omega) ?_
    refine lv_istore (lv' := [(5, .int 0), (0, .ref b), (1, .ref (gx.2.2 0)), (2, .ref (gr.2.2 0)), (3, .ref qo), (4, .int i)]) hx hb dL_law__1202 hl (by decide) rfl (fun ls hl => ?_)
    refine lv_aload_n hx hb dL_law__1204 rfl (lv_at hl 3 rfl) ?_
    refine lv_aload_n hx hb dL_law__1205 rfl (lv_at hl 1 rfl) ?_
    refine lv_iload hx hb dL_law__1206 (lv_at hl 5 rfl) ?_
    refine lv_iconst (v := 1) hx hb dL_law__1208 (by decide) ?_
    refine lv_iadd hx hb dL_law__1209 ?_
    refine va_sld hx hb hX hbl (Nat.not_le.mpr hbl) hZ.2.2.2 hi1 dL_law__1210 ?_
    refine lr_i (zrunV (As := [.int (xs (i + 1).toNatClampNeg)]) (rest := []) Er (hZ.r A) (by decide) (re_0 _) rfl rfl v_X11_anew kw_1824 (c_X11_anew l gr N (xs (i + 1).toNatClampNeg) hfr _) rfl hl.1 rfl (Nat.le_of_ble_eq_true rfl) ⟨by decide, by decide⟩ ⟨by show _ ≤ 601024; omega, by show _ ≤ 7293033; omega⟩ dL_law__1211) A hZ (fun x9 N9 H locs hp hZ => ?_)
    obtain ⟨rfl, rfl⟩ := Prod.mk.inj hp
    refine lv_istore (lv' := [(6, .int b9), (5, .int 0), (0, .ref b), (1, .ref (gx.2.2 0)), (2, .ref (gr.2.2 0)), (3, .ref qo), (4, .int i)]) hx hb dL_law__1214 hl (by decide) rfl (fun ls hl => ?_)
    refine lv_aload_n hx hb dL_law__1216 rfl (lv_at hl 4 rfl) ?_
    refine lr_i (zrunV (As := []) (rest := []) Er (hZ.r A) (by decide) (re_0 _) rfl rfl v_X11_thrown kw_1358 (c_X11_thrown l gr N1 (r := N1 0 0) rfl _) rfl hl.1 rfl (Nat.le_of_ble_eq_true rfl) ⟨by decide, by decide⟩ ⟨by show _ ≤ 601024; omega, by show _ ≤ 7293033; omega⟩ dL_law__1217) A hZ (fun x9 N9 H locs hp hZ => ?_)
    obtain ⟨e1, e2⟩ := hp
    rw [e2] at hZ
    rw [e1]
    refine lv_iload hx hb dL_law__1220 (lv_at hl 1 rfl) ?_
    refine lv_icmp_eq (tgt := 1227) hx hb dL_law__1222 (by decide) (fun _ => ?_) (fun hne => absurd ht hne)
    refine lv_iload hx hb dL_law__1227 (lv_at hl 1 rfl) ?_
    refine lv_if_ne (tgt := 1251) hx hb dL_law__1229 (by decide) (fun hne => absurd rfl hne) (fun _ => ?_)
    refine lv_aload_n hx hb dL_law__1232 rfl (lv_at hl 5 rfl) ?_
    refine lv_iconst (v := 0) hx hb dL_law__1233 (by decide) ?_
    refine va_lald hx hb hKo hZ.2.2.1 0 0 rfl rfl (zin_of (by decide)) dL_law__1234 ?_
    refine lv_iload hx hb dL_law__1235 (lv_at hl 0 rfl) ?_
    by_cases hq : b9 = 0
    · refine lv_if_eq (tgt := 1244) hx hb dL_law__1237 (by decide) (fun _ => ?_) (fun hne => absurd hq hne)
      refine lv_lconst (v := 0) hx hb dL_law__1244 (by decide) ?_
      refine W.lcmp hx hb dL_law__1245 ?_
      refine lv_if_eq (tgt := 1251) hx hb dL_law__1246 (by decide) (fun _ => ?_) (fun hne => absurd (by simp [hq, zcmp_self]) hne)
      refine lv_goto (tgt := 3069) hx hb dL_law__1251 (by decide) ?_
      refine W.widen (k := cells + 60) (n := slots + 360) (by omega) (by omega) ?_
      exact kk _ _ _ _ _ _ hR1 hZ (lv_sub hl [2, 3, 4, 5, 6] rfl)
    · refine lv_if_eq (tgt := 1244) hx hb dL_law__1237 (by decide) (fun he => absurd he hq) (fun _ => ?_)
      refine lv_lconst (v := 1) hx hb dL_law__1240 (by decide) ?_
      refine lv_goto (tgt := 1245) hx hb dL_law__1241 (by decide) ?_
      refine W.lcmp hx hb dL_law__1245 ?_
      refine lv_if_eq (tgt := 1251) hx hb dL_law__1246 (by decide) (fun _ => ?_) (fun hne => absurd (by simp [hq, zcmp_self]) hne)
      refine lv_goto (tgt := 3069) hx hb dL_law__1251 (by decide) ?_
      refine W.widen (k := cells + 60) (n := slots + 360) (by omega) (by omega) ?_
      exact kk _ _ _ _ _ _ hR1 hZ (lv_sub hl [2, 3, 4, 5, 6] rfl)
def zs_hours (Rel Rel' : zM → zM → Prop) : Prop := ∀ (M N : zM), Rel M N → ∀ x1 : Int32, zsT Rel' (f_X10_hours M x1) (f_X11_hours N x1) (fun k => k = 1) (fun _ => 1)
set_option maxRecDepth 100000 in
set_option maxHeartbeats 4000000 in
theorem lc_hours (C : zLC p l s m args c gx gr cO qo b L xs Ts) (hz : zs_hours Rel Rel') (hR : Rel M N) (hZ : zLS gx gr cO qo s H locs M N v) (hl : lv_has ls 7 (zLl b gx gr qo i)) (hi1 : vp_in (i + 1) L) (hi2 : vp_in (i + 2) L) (hi3 : vp_in (i + 3) L) (hi4 : vp_in (i + 4) L) (hi5 : vp_in (i + 5) L) (hc : cells + 60 ≤ 601024) (hsl : slots + 360 ≤ 7293033) (kk : zLK p l e s m args below meth c Q Rel' gx gr cO qo b i cells slots) : W p l e room_1 s m args below meth c H locs cells slots Q (F0 m 1254 ls []) := by
  obtain ⟨hst, E, Er, hT, S, hKo, hNc, A, hX, hbl⟩ := C
  have hx := E.1.1
  have hb := E.1.2.1
  have hl : lv_has ls 7 [(0, .ref b), (1, .ref (gx.2.2 0)), (2, .ref (gr.2.2 0)), (3, .ref qo), (4, .int i)] := hl
  obtain ⟨M1, b9, N1, hfr, hR1, hcc⟩ := hz M N hR (xs (i + 1).toNatClampNeg) 
  rcases hcc with ⟨k0, hfx, hk0, ht⟩ | ⟨hfx, ht⟩
  · refine lv_aload_n hx hb dL_law__1254 rfl (lv_at hl 1 rfl) ?_
    refine lv_aload_n hx hb dL_law__1255 rfl (lv_at hl 0 rfl) ?_
    refine lv_iload hx hb dL_law__1256 (lv_at hl 4 rfl) ?_
    refine lv_iconst (v := 1) hx hb dL_law__1258 (by decide) ?_
    refine lv_iadd hx hb dL_law__1259 ?_
    refine va_sld hx hb hX hbl (Nat.not_le.mpr hbl) hZ.2.2.2 hi1 dL_law__1260 ?_
    refine lv_aload_n hx hb dL_law__1261 rfl (lv_at hl 3 rfl) ?_
    refine lw_i (lrunW (n := 3) (As := [.ref (gx.2.2 0), .int (xs (i + 1).toNatClampNeg), .ref qo]) (rest := []) E hT hKo hNc A hZ kw_1016 kw_0 kw_1015 ⟨by decide, by decide, by decide +kernel⟩ kw_1014 (cw_L_hours l hst gx cO qo M v (xs (i + 1).toNatClampNeg) hfx (fun _ _ h => by cases h; exact hk0)) rfl hl.1 rfl (Nat.le_of_ble_eq_true rfl) ⟨by decide, by decide⟩ ⟨by show cells + 1 ≤ 601024; omega, by show slots + 6 ≤ 7293033; omega⟩ dL_law__1262) A hZ (fun H locs hZ => ?_)
    have hZ : zLS gx gr cO qo s H locs M1 N v := hZ
    refine W.widen (k := cells + 48) (n := slots + 288) (by omega) (by omega) ?_
    refine lv_istore (lv' := [(5, .int ((fun _ => 1) k0)), (0, .ref b), (1, .ref (gx.2.2 0)), (2, .ref (gr.2.2 0)), (3, .ref qo), (4, .int i)]) hx hb dL_law__1265 hl (by decide) rfl (fun ls hl => ?_)
    refine lv_aload_n hx hb dL_law__1267 rfl (lv_at hl 3 rfl) ?_
    refine lv_aload_n hx hb dL_law__1268 rfl (lv_at hl 1 rfl) ?_
    refine lv_iload hx hb dL_law__1269 (lv_at hl 5 rfl) ?_
    refine lv_iconst (v := 1) hx hb dL_law__1271 (by decide) ?_
    refine lv_iadd hx hb dL_law__1272 ?_
    refine va_sld hx hb hX hbl (Nat.not_le.mpr hbl) hZ.2.2.2 hi1 dL_law__1273 ?_
    refine lr_i (zrunV (As := [.int (xs (i + 1).toNatClampNeg)]) (rest := []) Er (hZ.r A) (by decide) (re_0 _) rfl rfl v_X11_hours kw_1832 (c_X11_hours l gr N (xs (i + 1).toNatClampNeg) hfr _) rfl hl.1 rfl (Nat.le_of_ble_eq_true rfl) ⟨by decide, by decide⟩ ⟨by show _ ≤ 601024; omega, by show _ ≤ 7293033; omega⟩ dL_law__1274) A hZ (fun x9 N9 H locs hp hZ => ?_)
    obtain ⟨rfl, rfl⟩ := Prod.mk.inj hp
    refine lv_istore (lv' := [(6, .int b9), (5, .int ((fun _ => 1) k0)), (0, .ref b), (1, .ref (gx.2.2 0)), (2, .ref (gr.2.2 0)), (3, .ref qo), (4, .int i)]) hx hb dL_law__1277 hl (by decide) rfl (fun ls hl => ?_)
    refine lv_aload_n hx hb dL_law__1279 rfl (lv_at hl 4 rfl) ?_
    refine lr_i (zrunV (As := []) (rest := []) Er (hZ.r A) (by decide) (re_0 _) rfl rfl v_X11_thrown kw_1358 (c_X11_thrown l gr N1 (r := N1 0 0) rfl _) rfl hl.1 rfl (Nat.le_of_ble_eq_true rfl) ⟨by decide, by decide⟩ ⟨by show _ ≤ 601024; omega, by show _ ≤ 7293033; omega⟩ dL_law__1280) A hZ (fun x9 N9 H locs hp hZ => ?_)
    obtain ⟨e1, e2⟩ := hp
    rw [e2] at hZ
    rw [e1]
    refine lv_iload hx hb dL_law__1283 (lv_at hl 1 rfl) ?_
    refine lv_icmp_eq (tgt := 1290) hx hb dL_law__1285 (by decide) (fun _ => ?_) (fun hne => absurd ht hne)
    refine lv_iload hx hb dL_law__1290 (lv_at hl 1 rfl) ?_
    refine lv_if_ne (tgt := 1307) hx hb dL_law__1292 (by decide) (fun _ => ?_) (fun h0 => absurd h0 (by show ¬ (1 : Int32) = 0; decide))
    refine lv_goto (tgt := 3069) hx hb dL_law__1307 (by decide) ?_
    refine W.widen (k := cells + 60) (n := slots + 360) (by omega) (by omega) ?_
    exact kk _ _ _ _ _ _ hR1 hZ (lv_sub hl [2, 3, 4, 5, 6] rfl)
  · refine lv_aload_n hx hb dL_law__1254 rfl (lv_at hl 1 rfl) ?_
    refine lv_aload_n hx hb dL_law__1255 rfl (lv_at hl 0 rfl) ?_
    refine lv_iload hx hb dL_law__1256 (lv_at hl 4 rfl) ?_
    refine lv_iconst (v := 1) hx hb dL_law__1258 (by decide) ?_
    refine lv_iadd hx hb dL_law__1259 ?_
    refine va_sld hx hb hX hbl (Nat.not_le.mpr hbl) hZ.2.2.2 hi1 dL_law__1260 ?_
    refine lv_aload_n hx hb dL_law__1261 rfl (lv_at hl 3 rfl) ?_
    refine lw_i (lrunW (n := 3) (As := [.ref (gx.2.2 0), .int (xs (i + 1).toNatClampNeg), .ref qo]) (rest := []) E hT hKo hNc A hZ kw_1016 kw_0 kw_1015 ⟨by decide, by decide, by decide +kernel⟩ kw_1014 (cw_L_hours l hst gx cO qo M v (xs (i + 1).toNatClampNeg) hfx (fun _ _ h => by cases h)) rfl hl.1 rfl (Nat.le_of_ble_eq_true rfl) ⟨by decide, by decide⟩ ⟨by show cells + 1 ≤ 601024; omega, by show slots + 6 ≤ 7293033; omega⟩ dL_law__1262) A hZ (fun H locs hZ => ?_)
    have hZ : zLS gx gr cO qo s H locs M1 N (b9.toInt64) := hZ
    refine W.widen (k := cells + 48) (n := slots + 288) (by omega) (by omega) ?_
    refine lv_istore (lv' := [(5, .int 0), (0, .ref b), (1, .ref (gx.2.2 0)), (2, .ref (gr.2.2 0)), (3, .ref qo), (4, .int i)]) hx hb dL_law__1265 hl (by decide) rfl (fun ls hl => ?_)
    refine lv_aload_n hx hb dL_law__1267 rfl (lv_at hl 3 rfl) ?_
    refine lv_aload_n hx hb dL_law__1268 rfl (lv_at hl 1 rfl) ?_
    refine lv_iload hx hb dL_law__1269 (lv_at hl 5 rfl) ?_
    refine lv_iconst (v := 1) hx hb dL_law__1271 (by decide) ?_
    refine lv_iadd hx hb dL_law__1272 ?_
    refine va_sld hx hb hX hbl (Nat.not_le.mpr hbl) hZ.2.2.2 hi1 dL_law__1273 ?_
    refine lr_i (zrunV (As := [.int (xs (i + 1).toNatClampNeg)]) (rest := []) Er (hZ.r A) (by decide) (re_0 _) rfl rfl v_X11_hours kw_1832 (c_X11_hours l gr N (xs (i + 1).toNatClampNeg) hfr _) rfl hl.1 rfl (Nat.le_of_ble_eq_true rfl) ⟨by decide, by decide⟩ ⟨by show _ ≤ 601024; omega, by show _ ≤ 7293033; omega⟩ dL_law__1274) A hZ (fun x9 N9 H locs hp hZ => ?_)
    obtain ⟨rfl, rfl⟩ := Prod.mk.inj hp
    refine lv_istore (lv' := [(6, .int b9), (5, .int 0), (0, .ref b), (1, .ref (gx.2.2 0)), (2, .ref (gr.2.2 0)), (3, .ref qo), (4, .int i)]) hx hb dL_law__1277 hl (by decide) rfl (fun ls hl => ?_)
    refine lv_aload_n hx hb dL_law__1279 rfl (lv_at hl 4 rfl) ?_
    refine lr_i (zrunV (As := []) (rest := []) Er (hZ.r A) (by decide) (re_0 _) rfl rfl v_X11_thrown kw_1358 (c_X11_thrown l gr N1 (r := N1 0 0) rfl _) rfl hl.1 rfl (Nat.le_of_ble_eq_true rfl) ⟨by decide, by decide⟩ ⟨by show _ ≤ 601024; omega, by show _ ≤ 7293033; omega⟩ dL_law__1280) A hZ (fun x9 N9 H locs hp hZ => ?_)
    obtain ⟨e1, e2⟩ := hp
    rw [e2] at hZ
    rw [e1]
    refine lv_iload hx hb dL_law__1283 (lv_at hl 1 rfl) ?_
    refine lv_icmp_eq (tgt := 1290) hx hb dL_law__1285 (by decide) (fun _ => ?_) (fun hne => absurd ht hne)
    refine lv_iload hx hb dL_law__1290 (lv_at hl 1 rfl) ?_
    refine lv_if_ne (tgt := 1307) hx hb dL_law__1292 (by decide) (fun hne => absurd rfl hne) (fun _ => ?_)
    refine lv_aload_n hx hb dL_law__1295 rfl (lv_at hl 5 rfl) ?_
    refine lv_iconst (v := 0) hx hb dL_law__1296 (by decide) ?_
    refine va_lald hx hb hKo hZ.2.2.1 0 0 rfl rfl (zin_of (by decide)) dL_law__1297 ?_
    refine lv_iload hx hb dL_law__1298 (lv_at hl 0 rfl) ?_
    refine lv_i2l hx hb dL_law__1300 rfl ?_
    refine W.lcmp hx hb dL_law__1301 ?_
    refine lv_if_eq (tgt := 1307) hx hb dL_law__1302 (by decide) (fun _ => ?_) (fun hne => absurd (zcmp_self _) hne)
    refine lv_goto (tgt := 3069) hx hb dL_law__1307 (by decide) ?_
    refine W.widen (k := cells + 60) (n := slots + 360) (by omega) (by omega) ?_
    exact kk _ _ _ _ _ _ hR1 hZ (lv_sub hl [2, 3, 4, 5, 6] rfl)
def zs_high (Rel Rel' : zM → zM → Prop) : Prop := ∀ (M N : zM), Rel M N → ∀ x1 : Int32, zsT Rel' (f_X10_high M x1) (f_X11_high N x1) (fun k => k = 1) (fun _ => 1)
set_option maxRecDepth 100000 in
set_option maxHeartbeats 4000000 in
theorem lc_high (C : zLC p l s m args c gx gr cO qo b L xs Ts) (hz : zs_high Rel Rel') (hR : Rel M N) (hZ : zLS gx gr cO qo s H locs M N v) (hl : lv_has ls 7 (zLl b gx gr qo i)) (hi1 : vp_in (i + 1) L) (hi2 : vp_in (i + 2) L) (hi3 : vp_in (i + 3) L) (hi4 : vp_in (i + 4) L) (hi5 : vp_in (i + 5) L) (hc : cells + 60 ≤ 601024) (hsl : slots + 360 ≤ 7293033) (kk : zLK p l e s m args below meth c Q Rel' gx gr cO qo b i cells slots) : W p l e room_1 s m args below meth c H locs cells slots Q (F0 m 1310 ls []) := by
  obtain ⟨hst, E, Er, hT, S, hKo, hNc, A, hX, hbl⟩ := C
  have hx := E.1.1
  have hb := E.1.2.1
  have hl : lv_has ls 7 [(0, .ref b), (1, .ref (gx.2.2 0)), (2, .ref (gr.2.2 0)), (3, .ref qo), (4, .int i)] := hl
  obtain ⟨M1, b9, N1, hfr, hR1, hcc⟩ := hz M N hR (xs (i + 1).toNatClampNeg) 
  rcases hcc with ⟨k0, hfx, hk0, ht⟩ | ⟨hfx, ht⟩
  · refine lv_aload_n hx hb dL_law__1310 rfl (lv_at hl 1 rfl) ?_
    refine lv_aload_n hx hb dL_law__1311 rfl (lv_at hl 0 rfl) ?_
    refine lv_iload hx hb dL_law__1312 (lv_at hl 4 rfl) ?_
    refine lv_iconst (v := 1) hx hb dL_law__1314 (by decide) ?_
    refine lv_iadd hx hb dL_law__1315 ?_
    refine va_sld hx hb hX hbl (Nat.not_le.mpr hbl) hZ.2.2.2 hi1 dL_law__1316 ?_
    refine lv_aload_n hx hb dL_law__1317 rfl (lv_at hl 3 rfl) ?_
    refine lw_i (lrunW (n := 3) (As := [.ref (gx.2.2 0), .int (xs (i + 1).toNatClampNeg), .ref qo]) (rest := []) E hT hKo hNc A hZ kw_1070 kw_0 kw_1069 ⟨by decide, by decide, by decide +kernel⟩ kw_1068 (cw_L_high l hst gx cO qo M v (xs (i + 1).toNatClampNeg) hfx (fun _ _ h => by cases h; exact hk0)) rfl hl.1 rfl (Nat.le_of_ble_eq_true rfl) ⟨by decide, by decide⟩ ⟨by show cells + 1 ≤ 601024; omega, by show slots + 6 ≤ 7293033; omega⟩ dL_law__1318) A hZ (fun H locs hZ => ?_)
    have hZ : zLS gx gr cO qo s H locs M1 N v := hZ
    refine W.widen (k := cells + 48) (n := slots + 288) (by omega) (by omega) ?_
    refine lv_istore (lv' := [(5, .int ((fun _ => 1) k0)), (0, .ref b), (1, .ref (gx.2.2 0)), (2, .ref (gr.2.2 0)), (3, .ref qo), (4, .int i)]) hx hb dL_law__1321 hl (by decide) rfl (fun ls hl => ?_)
    refine lv_aload_n hx hb dL_law__1323 rfl (lv_at hl 3 rfl) ?_
    refine lv_aload_n hx hb dL_law__1324 rfl (lv_at hl 1 rfl) ?_
    refine lv_iload hx hb dL_law__1325 (lv_at hl 5 rfl) ?_
    refine lv_iconst (v := 1) hx hb dL_law__1327 (by decide) ?_
    refine lv_iadd hx hb dL_law__1328 ?_
    refine va_sld hx hb hX hbl (Nat.not_le.mpr hbl) hZ.2.2.2 hi1 dL_law__1329 ?_
    refine lr_i (zrunV (As := [.int (xs (i + 1).toNatClampNeg)]) (rest := []) Er (hZ.r A) (by decide) (re_0 _) rfl rfl v_X11_high kw_1714 (c_X11_high l gr N (xs (i + 1).toNatClampNeg) hfr _) rfl hl.1 rfl (Nat.le_of_ble_eq_true rfl) ⟨by decide, by decide⟩ ⟨by show _ ≤ 601024; omega, by show _ ≤ 7293033; omega⟩ dL_law__1330) A hZ (fun x9 N9 H locs hp hZ => ?_)
    obtain ⟨rfl, rfl⟩ := Prod.mk.inj hp
    refine lv_istore (lv' := [(6, .int b9), (5, .int ((fun _ => 1) k0)), (0, .ref b), (1, .ref (gx.2.2 0)), (2, .ref (gr.2.2 0)), (3, .ref qo), (4, .int i)]) hx hb dL_law__1333 hl (by decide) rfl (fun ls hl => ?_)
    refine lv_aload_n hx hb dL_law__1335 rfl (lv_at hl 4 rfl) ?_
    refine lr_i (zrunV (As := []) (rest := []) Er (hZ.r A) (by decide) (re_0 _) rfl rfl v_X11_thrown kw_1358 (c_X11_thrown l gr N1 (r := N1 0 0) rfl _) rfl hl.1 rfl (Nat.le_of_ble_eq_true rfl) ⟨by decide, by decide⟩ ⟨by show _ ≤ 601024; omega, by show _ ≤ 7293033; omega⟩ dL_law__1336) A hZ (fun x9 N9 H locs hp hZ => ?_)
    obtain ⟨e1, e2⟩ := hp
    rw [e2] at hZ
    rw [e1]
    refine lv_iload hx hb dL_law__1339 (lv_at hl 1 rfl) ?_
    refine lv_icmp_eq (tgt := 1346) hx hb dL_law__1341 (by decide) (fun _ => ?_) (fun hne => absurd ht hne)
    refine lv_iload hx hb dL_law__1346 (lv_at hl 1 rfl) ?_
    refine lv_if_ne (tgt := 1363) hx hb dL_law__1348 (by decide) (fun _ => ?_) (fun h0 => absurd h0 (by show ¬ (1 : Int32) = 0; decide))
    refine lv_goto (tgt := 3069) hx hb dL_law__1363 (by decide) ?_
    refine W.widen (k := cells + 60) (n := slots + 360) (by omega) (by omega) ?_
    exact kk _ _ _ _ _ _ hR1 hZ (lv_sub hl [2, 3, 4, 5, 6] rfl)
  · refine lv_aload_n hx hb dL_law__1310 rfl (lv_at hl 1 rfl) ?_
    refine lv_aload_n hx hb dL_law__1311 rfl (lv_at hl 0 rfl) ?_
    refine lv_iload hx hb dL_law__1312 (lv_at hl 4 rfl) ?_
    refine lv_iconst (v := 1) hx hb dL_law__1314 (by decide) ?_
    refine lv_iadd hx hb dL_law__1315 ?_
    refine va_sld hx hb hX hbl (Nat.not_le.mpr hbl) hZ.2.2.2 hi1 dL_law__1316 ?_
    refine lv_aload_n hx hb dL_law__1317 rfl (lv_at hl 3 rfl) ?_
    refine lw_i (lrunW (n := 3) (As := [.ref (gx.2.2 0), .int (xs (i + 1).toNatClampNeg), .ref qo]) (rest := []) E hT hKo hNc A hZ kw_1070 kw_0 kw_1069 ⟨by decide, by decide, by decide +kernel⟩ kw_1068 (cw_L_high l hst gx cO qo M v (xs (i + 1).toNatClampNeg) hfx (fun _ _ h => by cases h)) rfl hl.1 rfl (Nat.le_of_ble_eq_true rfl) ⟨by decide, by decide⟩ ⟨by show cells + 1 ≤ 601024; omega, by show slots + 6 ≤ 7293033; omega⟩ dL_law__1318) A hZ (fun H locs hZ => ?_)
    have hZ : zLS gx gr cO qo s H locs M1 N (b9.toInt64) := hZ
    refine W.widen (k := cells + 48) (n := slots + 288) (by omega) (by omega) ?_
    refine lv_istore (lv' := [(5, .int 0), (0, .ref b), (1, .ref (gx.2.2 0)), (2, .ref (gr.2.2 0)), (3, .ref qo), (4, .int i)]) hx hb dL_law__1321 hl (by decide) rfl (fun ls hl => ?_)
    refine lv_aload_n hx hb dL_law__1323 rfl (lv_at hl 3 rfl) ?_
    refine lv_aload_n hx hb dL_law__1324 rfl (lv_at hl 1 rfl) ?_
    refine lv_iload hx hb dL_law__1325 (lv_at hl 5 rfl) ?_
    refine lv_iconst (v := 1) hx hb dL_law__1327 (by decide) ?_
    refine lv_iadd hx hb dL_law__1328 ?_
    refine va_sld hx hb hX hbl (Nat.not_le.mpr hbl) hZ.2.2.2 hi1 dL_law__1329 ?_
    refine lr_i (zrunV (As := [.int (xs (i + 1).toNatClampNeg)]) (rest := []) Er (hZ.r A) (by decide) (re_0 _) rfl rfl v_X11_high kw_1714 (c_X11_high l gr N (xs (i + 1).toNatClampNeg) hfr _) rfl hl.1 rfl (Nat.le_of_ble_eq_true rfl) ⟨by decide, by decide⟩ ⟨by show _ ≤ 601024; omega, by show _ ≤ 7293033; omega⟩ dL_law__1330) A hZ (fun x9 N9 H locs hp hZ => ?_)
    obtain ⟨rfl, rfl⟩ := Prod.mk.inj hp
    refine lv_istore (lv' := [(6, .int b9), (5, .int 0), (0, .ref b), (1, .ref (gx.2.2 0)), (2, .ref (gr.2.2 0)), (3, .ref qo), (4, .int i)]) hx hb dL_law__1333 hl (by decide) rfl (fun ls hl => ?_)
    refine lv_aload_n hx hb dL_law__1335 rfl (lv_at hl 4 rfl) ?_
    refine lr_i (zrunV (As := []) (rest := []) Er (hZ.r A) (by decide) (re_0 _) rfl rfl v_X11_thrown kw_1358 (c_X11_thrown l gr N1 (r := N1 0 0) rfl _) rfl hl.1 rfl (Nat.le_of_ble_eq_true rfl) ⟨by decide, by decide⟩ ⟨by show _ ≤ 601024; omega, by show _ ≤ 7293033; omega⟩ dL_law__1336) A hZ (fun x9 N9 H locs hp hZ => ?_)
    obtain ⟨e1, e2⟩ := hp
    rw [e2] at hZ
    rw [e1]
    refine lv_iload hx hb dL_law__1339 (lv_at hl 1 rfl) ?_
    refine lv_icmp_eq (tgt := 1346) hx hb dL_law__1341 (by decide) (fun _ => ?_) (fun hne => absurd ht hne)
    refine lv_iload hx hb dL_law__1346 (lv_at hl 1 rfl) ?_
    refine lv_if_ne (tgt := 1363) hx hb dL_law__1348 (by decide) (fun hne => absurd rfl hne) (fun _ => ?_)
    refine lv_aload_n hx hb dL_law__1351 rfl (lv_at hl 5 rfl) ?_
    refine lv_iconst (v := 0) hx hb dL_law__1352 (by decide) ?_
    refine va_lald hx hb hKo hZ.2.2.1 0 0 rfl rfl (zin_of (by decide)) dL_law__1353 ?_
    refine lv_iload hx hb dL_law__1354 (lv_at hl 0 rfl) ?_
    refine lv_i2l hx hb dL_law__1356 rfl ?_
    refine W.lcmp hx hb dL_law__1357 ?_
    refine lv_if_eq (tgt := 1363) hx hb dL_law__1358 (by decide) (fun _ => ?_) (fun hne => absurd (zcmp_self _) hne)
    refine lv_goto (tgt := 3069) hx hb dL_law__1363 (by decide) ?_
    refine W.widen (k := cells + 60) (n := slots + 360) (by omega) (by omega) ?_
    exact kk _ _ _ _ _ _ hR1 hZ (lv_sub hl [2, 3, 4, 5, 6] rfl)
def zs_low (Rel Rel' : zM → zM → Prop) : Prop := ∀ (M N : zM), Rel M N → ∀ x1 : Int32, zsT Rel' (f_X10_low M x1) (f_X11_low N x1) (fun k => k = 1) (fun _ => 1)
set_option maxRecDepth 100000 in
set_option maxHeartbeats 4000000 in
theorem lc_low (C : zLC p l s m args c gx gr cO qo b L xs Ts) (hz : zs_low Rel Rel') (hR : Rel M N) (hZ : zLS gx gr cO qo s H locs M N v) (hl : lv_has ls 7 (zLl b gx gr qo i)) (hi1 : vp_in (i + 1) L) (hi2 : vp_in (i + 2) L) (hi3 : vp_in (i + 3) L) (hi4 : vp_in (i + 4) L) (hi5 : vp_in (i + 5) L) (hc : cells + 60 ≤ 601024) (hsl : slots + 360 ≤ 7293033) (kk : zLK p l e s m args below meth c Q Rel' gx gr cO qo b i cells slots) : W p l e room_1 s m args below meth c H locs cells slots Q (F0 m 1366 ls []) := by
  obtain ⟨hst, E, Er, hT, S, hKo, hNc, A, hX, hbl⟩ := C
  have hx := E.1.1
  have hb := E.1.2.1
  have hl : lv_has ls 7 [(0, .ref b), (1, .ref (gx.2.2 0)), (2, .ref (gr.2.2 0)), (3, .ref qo), (4, .int i)] := hl
  obtain ⟨M1, b9, N1, hfr, hR1, hcc⟩ := hz M N hR (xs (i + 1).toNatClampNeg) 
  rcases hcc with ⟨k0, hfx, hk0, ht⟩ | ⟨hfx, ht⟩
  · refine lv_aload_n hx hb dL_law__1366 rfl (lv_at hl 1 rfl) ?_
    refine lv_aload_n hx hb dL_law__1367 rfl (lv_at hl 0 rfl) ?_
    refine lv_iload hx hb dL_law__1368 (lv_at hl 4 rfl) ?_
    refine lv_iconst (v := 1) hx hb dL_law__1370 (by decide) ?_
    refine lv_iadd hx hb dL_law__1371 ?_
    refine va_sld hx hb hX hbl (Nat.not_le.mpr hbl) hZ.2.2.2 hi1 dL_law__1372 ?_
    refine lv_aload_n hx hb dL_law__1373 rfl (lv_at hl 3 rfl) ?_
    refine lw_i (lrunW (n := 3) (As := [.ref (gx.2.2 0), .int (xs (i + 1).toNatClampNeg), .ref qo]) (rest := []) E hT hKo hNc A hZ kw_1078 kw_0 kw_1077 ⟨by decide, by decide, by decide +kernel⟩ kw_1076 (cw_L_low l hst gx cO qo M v (xs (i + 1).toNatClampNeg) hfx (fun _ _ h => by cases h; exact hk0)) rfl hl.1 rfl (Nat.le_of_ble_eq_true rfl) ⟨by decide, by decide⟩ ⟨by show cells + 1 ≤ 601024; omega, by show slots + 6 ≤ 7293033; omega⟩ dL_law__1374) A hZ (fun H locs hZ => ?_)
    have hZ : zLS gx gr cO qo s H locs M1 N v := hZ
    refine W.widen (k := cells + 48) (n := slots + 288) (by omega) (by omega) ?_
    refine lv_istore (lv' := [(5, .int ((fun _ => 1) k0)), (0, .ref b), (1, .ref (gx.2.2 0)), (2, .ref (gr.2.2 0)), (3, .ref qo), (4, .int i)]) hx hb dL_law__1377 hl (by decide) rfl (fun ls hl => ?_)
    refine lv_aload_n hx hb dL_law__1379 rfl (lv_at hl 3 rfl) ?_
    refine lv_aload_n hx hb dL_law__1380 rfl (lv_at hl 1 rfl) ?_
    refine lv_iload hx hb dL_law__1381 (lv_at hl 5 rfl) ?_
    refine lv_iconst (v := 1) hx hb dL_law__1383 (by decide) ?_
    refine lv_iadd hx hb dL_law__1384 ?_
    refine va_sld hx hb hX hbl (Nat.not_le.mpr hbl) hZ.2.2.2 hi1 dL_law__1385 ?_
    refine lr_i (zrunV (As := [.int (xs (i + 1).toNatClampNeg)]) (rest := []) Er (hZ.r A) (by decide) (re_0 _) rfl rfl v_X11_low kw_1718 (c_X11_low l gr N (xs (i + 1).toNatClampNeg) hfr _) rfl hl.1 rfl (Nat.le_of_ble_eq_true rfl) ⟨by decide, by decide⟩ ⟨by show _ ≤ 601024; omega, by show _ ≤ 7293033; omega⟩ dL_law__1386) A hZ (fun x9 N9 H locs hp hZ => ?_)
    obtain ⟨rfl, rfl⟩ := Prod.mk.inj hp
    refine lv_istore (lv' := [(6, .int b9), (5, .int ((fun _ => 1) k0)), (0, .ref b), (1, .ref (gx.2.2 0)), (2, .ref (gr.2.2 0)), (3, .ref qo), (4, .int i)]) hx hb dL_law__1389 hl (by decide) rfl (fun ls hl => ?_)
    refine lv_aload_n hx hb dL_law__1391 rfl (lv_at hl 4 rfl) ?_
    refine lr_i (zrunV (As := []) (rest := []) Er (hZ.r A) (by decide) (re_0 _) rfl rfl v_X11_thrown kw_1358 (c_X11_thrown l gr N1 (r := N1 0 0) rfl _) rfl hl.1 rfl (Nat.le_of_ble_eq_true rfl) ⟨by decide, by decide⟩ ⟨by show _ ≤ 601024; omega, by show _ ≤ 7293033; omega⟩ dL_law__1392) A hZ (fun x9 N9 H locs hp hZ => ?_)
    obtain ⟨e1, e2⟩ := hp
    rw [e2] at hZ
    rw [e1]
    refine lv_iload hx hb dL_law__1395 (lv_at hl 1 rfl) ?_
    refine lv_icmp_eq (tgt := 1402) hx hb dL_law__1397 (by decide) (fun _ => ?_) (fun hne => absurd ht hne)
    refine lv_iload hx hb dL_law__1402 (lv_at hl 1 rfl) ?_
    refine lv_if_ne (tgt := 1419) hx hb dL_law__1404 (by decide) (fun _ => ?_) (fun h0 => absurd h0 (by show ¬ (1 : Int32) = 0; decide))
    refine lv_goto (tgt := 3069) hx hb dL_law__1419 (by decide) ?_
    refine W.widen (k := cells + 60) (n := slots + 360) (by omega) (by omega) ?_
    exact kk _ _ _ _ _ _ hR1 hZ (lv_sub hl [2, 3, 4, 5, 6] rfl)
  · refine lv_aload_n hx hb dL_law__1366 rfl (lv_at hl 1 rfl) ?_
    refine lv_aload_n hx hb dL_law__1367 rfl (lv_at hl 0 rfl) ?_
    refine lv_iload hx hb dL_law__1368 (lv_at hl 4 rfl) ?_
    refine lv_iconst (v := 1) hx hb dL_law__1370 (by decide) ?_
    refine lv_iadd hx hb dL_law__1371 ?_
    refine va_sld hx hb hX hbl (Nat.not_le.mpr hbl) hZ.2.2.2 hi1 dL_law__1372 ?_
    refine lv_aload_n hx hb dL_law__1373 rfl (lv_at hl 3 rfl) ?_
    refine lw_i (lrunW (n := 3) (As := [.ref (gx.2.2 0), .int (xs (i + 1).toNatClampNeg), .ref qo]) (rest := []) E hT hKo hNc A hZ kw_1078 kw_0 kw_1077 ⟨by decide, by decide, by decide +kernel⟩ kw_1076 (cw_L_low l hst gx cO qo M v (xs (i + 1).toNatClampNeg) hfx (fun _ _ h => by cases h)) rfl hl.1 rfl (Nat.le_of_ble_eq_true rfl) ⟨by decide, by decide⟩ ⟨by show cells + 1 ≤ 601024; omega, by show slots + 6 ≤ 7293033; omega⟩ dL_law__1374) A hZ (fun H locs hZ => ?_)
    have hZ : zLS gx gr cO qo s H locs M1 N (b9.toInt64) := hZ
    refine W.widen (k := cells + 48) (n := slots + 288) (by omega) (by omega) ?_
    refine lv_istore (lv' := [(5, .int 0), (0, .ref b), (1, .ref (gx.2.2 0)), (2, .ref (gr.2.2 0)), (3, .ref qo), (4, .int i)]) hx hb dL_law__1377 hl (by decide) rfl (fun ls hl => ?_)
    refine lv_aload_n hx hb dL_law__1379 rfl (lv_at hl 3 rfl) ?_
    refine lv_aload_n hx hb dL_law__1380 rfl (lv_at hl 1 rfl) ?_
    refine lv_iload hx hb dL_law__1381 (lv_at hl 5 rfl) ?_
    refine lv_iconst (v := 1) hx hb dL_law__1383 (by decide) ?_
    refine lv_iadd hx hb dL_law__1384 ?_
    refine va_sld hx hb hX hbl (Nat.not_le.mpr hbl) hZ.2.2.2 hi1 dL_law__1385 ?_
    refine lr_i (zrunV (As := [.int (xs (i + 1).toNatClampNeg)]) (rest := []) Er (hZ.r A) (by decide) (re_0 _) rfl rfl v_X11_low kw_1718 (c_X11_low l gr N (xs (i + 1).toNatClampNeg) hfr _) rfl hl.1 rfl (Nat.le_of_ble_eq_true rfl) ⟨by decide, by decide⟩ ⟨by show _ ≤ 601024; omega, by show _ ≤ 7293033; omega⟩ dL_law__1386) A hZ (fun x9 N9 H locs hp hZ => ?_)
    obtain ⟨rfl, rfl⟩ := Prod.mk.inj hp
    refine lv_istore (lv' := [(6, .int b9), (5, .int 0), (0, .ref b), (1, .ref (gx.2.2 0)), (2, .ref (gr.2.2 0)), (3, .ref qo), (4, .int i)]) hx hb dL_law__1389 hl (by decide) rfl (fun ls hl => ?_)
    refine lv_aload_n hx hb dL_law__1391 rfl (lv_at hl 4 rfl) ?_
    refine lr_i (zrunV (As := []) (rest := []) Er (hZ.r A) (by decide) (re_0 _) rfl rfl v_X11_thrown kw_1358 (c_X11_thrown l gr N1 (r := N1 0 0) rfl _) rfl hl.1 rfl (Nat.le_of_ble_eq_true rfl) ⟨by decide, by decide⟩ ⟨by show _ ≤ 601024; omega, by show _ ≤ 7293033; omega⟩ dL_law__1392) A hZ (fun x9 N9 H locs hp hZ => ?_)
    obtain ⟨e1, e2⟩ := hp
    rw [e2] at hZ
    rw [e1]
    refine lv_iload hx hb dL_law__1395 (lv_at hl 1 rfl) ?_
    refine lv_icmp_eq (tgt := 1402) hx hb dL_law__1397 (by decide) (fun _ => ?_) (fun hne => absurd ht hne)
    refine lv_iload hx hb dL_law__1402 (lv_at hl 1 rfl) ?_
    refine lv_if_ne (tgt := 1419) hx hb dL_law__1404 (by decide) (fun hne => absurd rfl hne) (fun _ => ?_)
    refine lv_aload_n hx hb dL_law__1407 rfl (lv_at hl 5 rfl) ?_
    refine lv_iconst (v := 0) hx hb dL_law__1408 (by decide) ?_
    refine va_lald hx hb hKo hZ.2.2.1 0 0 rfl rfl (zin_of (by decide)) dL_law__1409 ?_
    refine lv_iload hx hb dL_law__1410 (lv_at hl 0 rfl) ?_
    refine lv_i2l hx hb dL_law__1412 rfl ?_
    refine W.lcmp hx hb dL_law__1413 ?_
    refine lv_if_eq (tgt := 1419) hx hb dL_law__1414 (by decide) (fun _ => ?_) (fun hne => absurd (zcmp_self _) hne)
    refine lv_goto (tgt := 3069) hx hb dL_law__1419 (by decide) ?_
    refine W.widen (k := cells + 60) (n := slots + 360) (by omega) (by omega) ?_
    exact kk _ _ _ _ _ _ hR1 hZ (lv_sub hl [2, 3, 4, 5, 6] rfl)
def zs_dry (Rel Rel' : zM → zM → Prop) : Prop := ∀ (M N : zM), Rel M N → ∀ x1 x2 : Int32, zsT Rel' (f_X10_dry M x1 x2) (f_X11_dry N x1 x2) (fun k => k = 0 ∨ k = 1) (fun k => if k = 0 then 1 else 2)
set_option maxRecDepth 100000 in
set_option maxHeartbeats 4000000 in
theorem lc_dry (C : zLC p l s m args c gx gr cO qo b L xs Ts) (hz : zs_dry Rel Rel') (hR : Rel M N) (hZ : zLS gx gr cO qo s H locs M N v) (hl : lv_has ls 7 (zLl b gx gr qo i)) (hi1 : vp_in (i + 1) L) (hi2 : vp_in (i + 2) L) (hi3 : vp_in (i + 3) L) (hi4 : vp_in (i + 4) L) (hi5 : vp_in (i + 5) L) (hc : cells + 60 ≤ 601024) (hsl : slots + 360 ≤ 7293033) (kk : zLK p l e s m args below meth c Q Rel' gx gr cO qo b i cells slots) : W p l e room_1 s m args below meth c H locs cells slots Q (F0 m 1422 ls []) := by
  obtain ⟨hst, E, Er, hT, S, hKo, hNc, A, hX, hbl⟩ := C
  have hx := E.1.1
  have hb := E.1.2.1
  have hl : lv_has ls 7 [(0, .ref b), (1, .ref (gx.2.2 0)), (2, .ref (gr.2.2 0)), (3, .ref qo), (4, .int i)] := hl
  obtain ⟨M1, b9, N1, hfr, hR1, hcc⟩ := hz M N hR (xs (i + 1).toNatClampNeg) (xs (i + 2).toNatClampNeg) 
  rcases hcc with ⟨k0, hfx, hk0, ht⟩ | ⟨hfx, ht⟩
  · refine lv_aload_n hx hb dL_law__1422 rfl (lv_at hl 1 rfl) ?_
    refine lv_aload_n hx hb dL_law__1423 rfl (lv_at hl 0 rfl) ?_
    refine lv_iload hx hb dL_law__1424 (lv_at hl 4 rfl) ?_
    refine lv_iconst (v := 1) hx hb dL_law__1426 (by decide) ?_
    refine lv_iadd hx hb dL_law__1427 ?_
    refine va_sld hx hb hX hbl (Nat.not_le.mpr hbl) hZ.2.2.2 hi1 dL_law__1428 ?_
    refine lv_aload_n hx hb dL_law__1429 rfl (lv_at hl 0 rfl) ?_
    refine lv_iload hx hb dL_law__1430 (lv_at hl 4 rfl) ?_
    refine lv_iconst (v := 2) hx hb dL_law__1432 (by decide) ?_
    refine lv_iadd hx hb dL_law__1433 ?_
    refine va_sld hx hb hX hbl (Nat.not_le.mpr hbl) hZ.2.2.2 hi2 dL_law__1434 ?_
    refine lv_aload_n hx hb dL_law__1435 rfl (lv_at hl 3 rfl) ?_
    refine lw_i (lrunW (n := 4) (As := [.ref (gx.2.2 0), .int (xs (i + 1).toNatClampNeg), .int (xs (i + 2).toNatClampNeg), .ref qo]) (rest := []) E hT hKo hNc A hZ kw_1085 kw_0 kw_1084 ⟨by decide, by decide, by decide +kernel⟩ kw_1083 (cw_L_dry l hst gx cO qo M v (xs (i + 1).toNatClampNeg) (xs (i + 2).toNatClampNeg) hfx (fun _ _ h => by cases h; exact hk0)) rfl hl.1 rfl (Nat.le_of_ble_eq_true rfl) ⟨by decide, by decide⟩ ⟨by show cells + 2 ≤ 601024; omega, by show slots + 12 ≤ 7293033; omega⟩ dL_law__1436) A hZ (fun H locs hZ => ?_)
    have hZ : zLS gx gr cO qo s H locs M1 N v := hZ
    refine W.widen (k := cells + 48) (n := slots + 288) (by omega) (by omega) ?_
    refine lv_istore (lv' := [(5, .int ((fun k => if k = 0 then 1 else 2) k0)), (0, .ref b), (1, .ref (gx.2.2 0)), (2, .ref (gr.2.2 0)), (3, .ref qo), (4, .int i)]) hx hb dL_law__1439 hl (by decide) rfl (fun ls hl => ?_)
    refine lv_aload_n hx hb dL_law__1441 rfl (lv_at hl 3 rfl) ?_
    refine lv_aload_n hx hb dL_law__1442 rfl (lv_at hl 1 rfl) ?_
    refine lv_iload hx hb dL_law__1443 (lv_at hl 5 rfl) ?_
    refine lv_iconst (v := 1) hx hb dL_law__1445 (by decide) ?_
    refine lv_iadd hx hb dL_law__1446 ?_
    refine va_sld hx hb hX hbl (Nat.not_le.mpr hbl) hZ.2.2.2 hi1 dL_law__1447 ?_
    refine lv_aload_n hx hb dL_law__1448 rfl (lv_at hl 1 rfl) ?_
    refine lv_iload hx hb dL_law__1449 (lv_at hl 5 rfl) ?_
    refine lv_iconst (v := 2) hx hb dL_law__1451 (by decide) ?_
    refine lv_iadd hx hb dL_law__1452 ?_
    refine va_sld hx hb hX hbl (Nat.not_le.mpr hbl) hZ.2.2.2 hi2 dL_law__1453 ?_
    refine lr_i (zrunV (As := [.int (xs (i + 1).toNatClampNeg), .int (xs (i + 2).toNatClampNeg)]) (rest := []) Er (hZ.r A) (by decide) (re_0 _) rfl rfl v_X11_dry kw_1725 (c_X11_dry l gr N (xs (i + 1).toNatClampNeg) (xs (i + 2).toNatClampNeg) hfr _) rfl hl.1 rfl (Nat.le_of_ble_eq_true rfl) ⟨by decide, by decide⟩ ⟨by show _ ≤ 601024; omega, by show _ ≤ 7293033; omega⟩ dL_law__1454) A hZ (fun x9 N9 H locs hp hZ => ?_)
    obtain ⟨rfl, rfl⟩ := Prod.mk.inj hp
    refine lv_istore (lv' := [(6, .int b9), (5, .int ((fun k => if k = 0 then 1 else 2) k0)), (0, .ref b), (1, .ref (gx.2.2 0)), (2, .ref (gr.2.2 0)), (3, .ref qo), (4, .int i)]) hx hb dL_law__1457 hl (by decide) rfl (fun ls hl => ?_)
    refine lv_aload_n hx hb dL_law__1459 rfl (lv_at hl 4 rfl) ?_
    refine lr_i (zrunV (As := []) (rest := []) Er (hZ.r A) (by decide) (re_0 _) rfl rfl v_X11_thrown kw_1358 (c_X11_thrown l gr N1 (r := N1 0 0) rfl _) rfl hl.1 rfl (Nat.le_of_ble_eq_true rfl) ⟨by decide, by decide⟩ ⟨by show _ ≤ 601024; omega, by show _ ≤ 7293033; omega⟩ dL_law__1460) A hZ (fun x9 N9 H locs hp hZ => ?_)
    obtain ⟨e1, e2⟩ := hp
    rw [e2] at hZ
    rw [e1]
    refine lv_iload hx hb dL_law__1463 (lv_at hl 1 rfl) ?_
    refine lv_icmp_eq (tgt := 1470) hx hb dL_law__1465 (by decide) (fun _ => ?_) (fun hne => absurd ht hne)
    refine lv_iload hx hb dL_law__1470 (lv_at hl 1 rfl) ?_
    refine lv_if_ne (tgt := 1487) hx hb dL_law__1472 (by decide) (fun _ => ?_) (fun h0 => absurd h0 (by show ¬ (if k0 = 0 then (1 : Int32) else 2) = 0; split <;> decide))
    refine lv_goto (tgt := 3069) hx hb dL_law__1487 (by decide) ?_
    refine W.widen (k := cells + 60) (n := slots + 360) (by omega) (by omega) ?_
    exact kk _ _ _ _ _ _ hR1 hZ (lv_sub hl [2, 3, 4, 5, 6] rfl)
  · refine lv_aload_n hx hb dL_law__1422 rfl (lv_at hl 1 rfl) ?_
    refine lv_aload_n hx hb dL_law__1423 rfl (lv_at hl 0 rfl) ?_
    refine lv_iload hx hb dL_law__1424 (lv_at hl 4 rfl) ?_
    refine lv_iconst (v := 1) hx hb dL_law__1426 (by decide) ?_
    refine lv_iadd hx hb dL_law__1427 ?_
    refine va_sld hx hb hX hbl (Nat.not_le.mpr hbl) hZ.2.2.2 hi1 dL_law__1428 ?_
    refine lv_aload_n hx hb dL_law__1429 rfl (lv_at hl 0 rfl) ?_
    refine lv_iload hx hb dL_law__1430 (lv_at hl 4 rfl) ?_
    refine lv_iconst (v := 2) hx hb dL_law__1432 (by decide) ?_
    refine lv_iadd hx hb dL_law__1433 ?_
    refine va_sld hx hb hX hbl (Nat.not_le.mpr hbl) hZ.2.2.2 hi2 dL_law__1434 ?_
    refine lv_aload_n hx hb dL_law__1435 rfl (lv_at hl 3 rfl) ?_
    refine lw_i (lrunW (n := 4) (As := [.ref (gx.2.2 0), .int (xs (i + 1).toNatClampNeg), .int (xs (i + 2).toNatClampNeg), .ref qo]) (rest := []) E hT hKo hNc A hZ kw_1085 kw_0 kw_1084 ⟨by decide, by decide, by decide +kernel⟩ kw_1083 (cw_L_dry l hst gx cO qo M v (xs (i + 1).toNatClampNeg) (xs (i + 2).toNatClampNeg) hfx (fun _ _ h => by cases h)) rfl hl.1 rfl (Nat.le_of_ble_eq_true rfl) ⟨by decide, by decide⟩ ⟨by show cells + 2 ≤ 601024; omega, by show slots + 12 ≤ 7293033; omega⟩ dL_law__1436) A hZ (fun H locs hZ => ?_)
    have hZ : zLS gx gr cO qo s H locs M1 N (b9.toInt64) := hZ
    refine W.widen (k := cells + 48) (n := slots + 288) (by omega) (by omega) ?_
    refine lv_istore (lv' := [(5, .int 0), (0, .ref b), (1, .ref (gx.2.2 0)), (2, .ref (gr.2.2 0)), (3, .ref qo), (4, .int i)]) hx hb dL_law__1439 hl (by decide) rfl (fun ls hl => ?_)
    refine lv_aload_n hx hb dL_law__1441 rfl (lv_at hl 3 rfl) ?_
    refine lv_aload_n hx hb dL_law__1442 rfl (lv_at hl 1 rfl) ?_
    refine lv_iload hx hb dL_law__1443 (lv_at hl 5 rfl) ?_
    refine lv_iconst (v := 1) hx hb dL_law__1445 (by decide) ?_
    refine lv_iadd hx hb dL_law__1446 ?_
    refine va_sld hx hb hX hbl (Nat.not_le.mpr hbl) hZ.2.2.2 hi1 dL_law__1447 ?_
    refine lv_aload_n hx hb dL_law__1448 rfl (lv_at hl 1 rfl) ?_
    refine lv_iload hx hb dL_law__1449 (lv_at hl 5 rfl) ?_
    refine lv_iconst (v := 2) hx hb dL_law__1451 (by decide) ?_
    refine lv_iadd hx hb dL_law__1452 ?_
    refine va_sld hx hb hX hbl (Nat.not_le.mpr hbl) hZ.2.2.2 hi2 dL_law__1453 ?_
    refine lr_i (zrunV (As := [.int (xs (i + 1).toNatClampNeg), .int (xs (i + 2).toNatClampNeg)]) (rest := []) Er (hZ.r A) (by decide) (re_0 _) rfl rfl v_X11_dry kw_1725 (c_X11_dry l gr N (xs (i + 1).toNatClampNeg) (xs (i + 2).toNatClampNeg) hfr _) rfl hl.1 rfl (Nat.le_of_ble_eq_true rfl) ⟨by decide, by decide⟩ ⟨by show _ ≤ 601024; omega, by show _ ≤ 7293033; omega⟩ dL_law__1454) A hZ (fun x9 N9 H locs hp hZ => ?_)
    obtain ⟨rfl, rfl⟩ := Prod.mk.inj hp
    refine lv_istore (lv' := [(6, .int b9), (5, .int 0), (0, .ref b), (1, .ref (gx.2.2 0)), (2, .ref (gr.2.2 0)), (3, .ref qo), (4, .int i)]) hx hb dL_law__1457 hl (by decide) rfl (fun ls hl => ?_)
    refine lv_aload_n hx hb dL_law__1459 rfl (lv_at hl 4 rfl) ?_
    refine lr_i (zrunV (As := []) (rest := []) Er (hZ.r A) (by decide) (re_0 _) rfl rfl v_X11_thrown kw_1358 (c_X11_thrown l gr N1 (r := N1 0 0) rfl _) rfl hl.1 rfl (Nat.le_of_ble_eq_true rfl) ⟨by decide, by decide⟩ ⟨by show _ ≤ 601024; omega, by show _ ≤ 7293033; omega⟩ dL_law__1460) A hZ (fun x9 N9 H locs hp hZ => ?_)
    obtain ⟨e1, e2⟩ := hp
    rw [e2] at hZ
    rw [e1]
    refine lv_iload hx hb dL_law__1463 (lv_at hl 1 rfl) ?_
    refine lv_icmp_eq (tgt := 1470) hx hb dL_law__1465 (by decide) (fun _ => ?_) (fun hne => absurd ht hne)
    refine lv_iload hx hb dL_law__1470 (lv_at hl 1 rfl) ?_
    refine lv_if_ne (tgt := 1487) hx hb dL_law__1472 (by decide) (fun hne => absurd rfl hne) (fun _ => ?_)
    refine lv_aload_n hx hb dL_law__1475 rfl (lv_at hl 5 rfl) ?_
    refine lv_iconst (v := 0) hx hb dL_law__1476 (by decide) ?_
    refine va_lald hx hb hKo hZ.2.2.1 0 0 rfl rfl (zin_of (by decide)) dL_law__1477 ?_
    refine lv_iload hx hb dL_law__1478 (lv_at hl 0 rfl) ?_
    refine lv_i2l hx hb dL_law__1480 rfl ?_
    refine W.lcmp hx hb dL_law__1481 ?_
    refine lv_if_eq (tgt := 1487) hx hb dL_law__1482 (by decide) (fun _ => ?_) (fun hne => absurd (zcmp_self _) hne)
    refine lv_goto (tgt := 3069) hx hb dL_law__1487 (by decide) ?_
    refine W.widen (k := cells + 60) (n := slots + 360) (by omega) (by omega) ?_
    exact kk _ _ _ _ _ _ hR1 hZ (lv_sub hl [2, 3, 4, 5, 6] rfl)
def zs_highest (Rel Rel' : zM → zM → Prop) : Prop := ∀ (M N : zM), Rel M N → ∀ x1 : Int32, zsT Rel' (f_X10_highest M x1) (f_X11_highest N x1) (fun k => k = 1) (fun _ => 1)
set_option maxRecDepth 100000 in
set_option maxHeartbeats 4000000 in
theorem lc_highest (C : zLC p l s m args c gx gr cO qo b L xs Ts) (hz : zs_highest Rel Rel') (hR : Rel M N) (hZ : zLS gx gr cO qo s H locs M N v) (hl : lv_has ls 7 (zLl b gx gr qo i)) (hi1 : vp_in (i + 1) L) (hi2 : vp_in (i + 2) L) (hi3 : vp_in (i + 3) L) (hi4 : vp_in (i + 4) L) (hi5 : vp_in (i + 5) L) (hc : cells + 60 ≤ 601024) (hsl : slots + 360 ≤ 7293033) (kk : zLK p l e s m args below meth c Q Rel' gx gr cO qo b i cells slots) : W p l e room_1 s m args below meth c H locs cells slots Q (F0 m 1490 ls []) := by
  obtain ⟨hst, E, Er, hT, S, hKo, hNc, A, hX, hbl⟩ := C
  have hx := E.1.1
  have hb := E.1.2.1
  have hl : lv_has ls 7 [(0, .ref b), (1, .ref (gx.2.2 0)), (2, .ref (gr.2.2 0)), (3, .ref qo), (4, .int i)] := hl
  obtain ⟨M1, b9, N1, hfr, hR1, hcc⟩ := hz M N hR (xs (i + 1).toNatClampNeg) 
  rcases hcc with ⟨k0, hfx, hk0, ht⟩ | ⟨hfx, ht⟩
  · refine lv_aload_n hx hb dL_law__1490 rfl (lv_at hl 1 rfl) ?_
    refine lv_aload_n hx hb dL_law__1491 rfl (lv_at hl 0 rfl) ?_
    refine lv_iload hx hb dL_law__1492 (lv_at hl 4 rfl) ?_
    refine lv_iconst (v := 1) hx hb dL_law__1494 (by decide) ?_
    refine lv_iadd hx hb dL_law__1495 ?_
    refine va_sld hx hb hX hbl (Nat.not_le.mpr hbl) hZ.2.2.2 hi1 dL_law__1496 ?_
    refine lv_aload_n hx hb dL_law__1497 rfl (lv_at hl 3 rfl) ?_
    refine lw_i (lrunW (n := 3) (As := [.ref (gx.2.2 0), .int (xs (i + 1).toNatClampNeg), .ref qo]) (rest := []) E hT hKo hNc A hZ kw_1108 kw_0 kw_1107 ⟨by decide, by decide, by decide +kernel⟩ kw_1106 (cw_L_highest l hst gx cO qo M v (xs (i + 1).toNatClampNeg) hfx (fun _ _ h => by cases h; exact hk0)) rfl hl.1 rfl (Nat.le_of_ble_eq_true rfl) ⟨by decide, by decide⟩ ⟨by show cells + 1 ≤ 601024; omega, by show slots + 6 ≤ 7293033; omega⟩ dL_law__1498) A hZ (fun H locs hZ => ?_)
    have hZ : zLS gx gr cO qo s H locs M1 N v := hZ
    refine W.widen (k := cells + 48) (n := slots + 288) (by omega) (by omega) ?_
    refine lv_istore (lv' := [(5, .int ((fun _ => 1) k0)), (0, .ref b), (1, .ref (gx.2.2 0)), (2, .ref (gr.2.2 0)), (3, .ref qo), (4, .int i)]) hx hb dL_law__1501 hl (by decide) rfl (fun ls hl => ?_)
    refine lv_aload_n hx hb dL_law__1503 rfl (lv_at hl 3 rfl) ?_
    refine lv_aload_n hx hb dL_law__1504 rfl (lv_at hl 1 rfl) ?_
    refine lv_iload hx hb dL_law__1505 (lv_at hl 5 rfl) ?_
    refine lv_iconst (v := 1) hx hb dL_law__1507 (by decide) ?_
    refine lv_iadd hx hb dL_law__1508 ?_
    refine va_sld hx hb hX hbl (Nat.not_le.mpr hbl) hZ.2.2.2 hi1 dL_law__1509 ?_
    refine lr_i (zrunV (As := [.int (xs (i + 1).toNatClampNeg)]) (rest := []) Er (hZ.r A) (by decide) (re_0 _) rfl rfl v_X11_highest kw_1729 (c_X11_highest l gr N (xs (i + 1).toNatClampNeg) hfr _) rfl hl.1 rfl (Nat.le_of_ble_eq_true rfl) ⟨by decide, by decide⟩ ⟨by show _ ≤ 601024; omega, by show _ ≤ 7293033; omega⟩ dL_law__1510) A hZ (fun x9 N9 H locs hp hZ => ?_)
    obtain ⟨rfl, rfl⟩ := Prod.mk.inj hp
    refine lv_istore (lv' := [(6, .int b9), (5, .int ((fun _ => 1) k0)), (0, .ref b), (1, .ref (gx.2.2 0)), (2, .ref (gr.2.2 0)), (3, .ref qo), (4, .int i)]) hx hb dL_law__1513 hl (by decide) rfl (fun ls hl => ?_)
    refine lv_aload_n hx hb dL_law__1515 rfl (lv_at hl 4 rfl) ?_
    refine lr_i (zrunV (As := []) (rest := []) Er (hZ.r A) (by decide) (re_0 _) rfl rfl v_X11_thrown kw_1358 (c_X11_thrown l gr N1 (r := N1 0 0) rfl _) rfl hl.1 rfl (Nat.le_of_ble_eq_true rfl) ⟨by decide, by decide⟩ ⟨by show _ ≤ 601024; omega, by show _ ≤ 7293033; omega⟩ dL_law__1516) A hZ (fun x9 N9 H locs hp hZ => ?_)
    obtain ⟨e1, e2⟩ := hp
    rw [e2] at hZ
    rw [e1]
    refine lv_iload hx hb dL_law__1519 (lv_at hl 1 rfl) ?_
    refine lv_icmp_eq (tgt := 1526) hx hb dL_law__1521 (by decide) (fun _ => ?_) (fun hne => absurd ht hne)
    refine lv_iload hx hb dL_law__1526 (lv_at hl 1 rfl) ?_
    refine lv_if_ne (tgt := 1543) hx hb dL_law__1528 (by decide) (fun _ => ?_) (fun h0 => absurd h0 (by show ¬ (1 : Int32) = 0; decide))
    refine lv_goto (tgt := 3069) hx hb dL_law__1543 (by decide) ?_
    refine W.widen (k := cells + 60) (n := slots + 360) (by omega) (by omega) ?_
    exact kk _ _ _ _ _ _ hR1 hZ (lv_sub hl [2, 3, 4, 5, 6] rfl)
  · refine lv_aload_n hx hb dL_law__1490 rfl (lv_at hl 1 rfl) ?_
    refine lv_aload_n hx hb dL_law__1491 rfl (lv_at hl 0 rfl) ?_
    refine lv_iload hx hb dL_law__1492 (lv_at hl 4 rfl) ?_
    refine lv_iconst (v := 1) hx hb dL_law__1494 (by decide) ?_
    refine lv_iadd hx hb dL_law__1495 ?_
    refine va_sld hx hb hX hbl (Nat.not_le.mpr hbl) hZ.2.2.2 hi1 dL_law__1496 ?_
    refine lv_aload_n hx hb dL_law__1497 rfl (lv_at hl 3 rfl) ?_
    refine lw_i (lrunW (n := 3) (As := [.ref (gx.2.2 0), .int (xs (i + 1).toNatClampNeg), .ref qo]) (rest := []) E hT hKo hNc A hZ kw_1108 kw_0 kw_1107 ⟨by decide, by decide, by decide +kernel⟩ kw_1106 (cw_L_highest l hst gx cO qo M v (xs (i + 1).toNatClampNeg) hfx (fun _ _ h => by cases h)) rfl hl.1 rfl (Nat.le_of_ble_eq_true rfl) ⟨by decide, by decide⟩ ⟨by show cells + 1 ≤ 601024; omega, by show slots + 6 ≤ 7293033; omega⟩ dL_law__1498) A hZ (fun H locs hZ => ?_)
    have hZ : zLS gx gr cO qo s H locs M1 N (b9.toInt64) := hZ
    refine W.widen (k := cells + 48) (n := slots + 288) (by omega) (by omega) ?_
    refine lv_istore (lv' := [(5, .int 0), (0, .ref b), (1, .ref (gx.2.2 0)), (2, .ref (gr.2.2 0)), (3, .ref qo), (4, .int i)]) hx hb dL_law__1501 hl (by decide) rfl (fun ls hl => ?_)
    refine lv_aload_n hx hb dL_law__1503 rfl (lv_at hl 3 rfl) ?_
    refine lv_aload_n hx hb dL_law__1504 rfl (lv_at hl 1 rfl) ?_
    refine lv_iload hx hb dL_law__1505 (lv_at hl 5 rfl) ?_
    refine lv_iconst (v := 1) hx hb dL_law__1507 (by decide) ?_
    refine lv_iadd hx hb dL_law__1508 ?_
    refine va_sld hx hb hX hbl (Nat.not_le.mpr hbl) hZ.2.2.2 hi1 dL_law__1509 ?_
    refine lr_i (zrunV (As := [.int (xs (i + 1).toNatClampNeg)]) (rest := []) Er (hZ.r A) (by decide) (re_0 _) rfl rfl v_X11_highest kw_1729 (c_X11_highest l gr N (xs (i + 1).toNatClampNeg) hfr _) rfl hl.1 rfl (Nat.le_of_ble_eq_true rfl) ⟨by decide, by decide⟩ ⟨by show _ ≤ 601024; omega, by show _ ≤ 7293033; omega⟩ dL_law__1510) A hZ (fun x9 N9 H locs hp hZ => ?_)
    obtain ⟨rfl, rfl⟩ := Prod.mk.inj hp
    refine lv_istore (lv' := [(6, .int b9), (5, .int 0), (0, .ref b), (1, .ref (gx.2.2 0)), (2, .ref (gr.2.2 0)), (3, .ref qo), (4, .int i)]) hx hb dL_law__1513 hl (by decide) rfl (fun ls hl => ?_)
    refine lv_aload_n hx hb dL_law__1515 rfl (lv_at hl 4 rfl) ?_
    refine lr_i (zrunV (As := []) (rest := []) Er (hZ.r A) (by decide) (re_0 _) rfl rfl v_X11_thrown kw_1358 (c_X11_thrown l gr N1 (r := N1 0 0) rfl _) rfl hl.1 rfl (Nat.le_of_ble_eq_true rfl) ⟨by decide, by decide⟩ ⟨by show _ ≤ 601024; omega, by show _ ≤ 7293033; omega⟩ dL_law__1516) A hZ (fun x9 N9 H locs hp hZ => ?_)
    obtain ⟨e1, e2⟩ := hp
    rw [e2] at hZ
    rw [e1]
    refine lv_iload hx hb dL_law__1519 (lv_at hl 1 rfl) ?_
    refine lv_icmp_eq (tgt := 1526) hx hb dL_law__1521 (by decide) (fun _ => ?_) (fun hne => absurd ht hne)
    refine lv_iload hx hb dL_law__1526 (lv_at hl 1 rfl) ?_
    refine lv_if_ne (tgt := 1543) hx hb dL_law__1528 (by decide) (fun hne => absurd rfl hne) (fun _ => ?_)
    refine lv_aload_n hx hb dL_law__1531 rfl (lv_at hl 5 rfl) ?_
    refine lv_iconst (v := 0) hx hb dL_law__1532 (by decide) ?_
    refine va_lald hx hb hKo hZ.2.2.1 0 0 rfl rfl (zin_of (by decide)) dL_law__1533 ?_
    refine lv_iload hx hb dL_law__1534 (lv_at hl 0 rfl) ?_
    refine lv_i2l hx hb dL_law__1536 rfl ?_
    refine W.lcmp hx hb dL_law__1537 ?_
    refine lv_if_eq (tgt := 1543) hx hb dL_law__1538 (by decide) (fun _ => ?_) (fun hne => absurd (zcmp_self _) hne)
    refine lv_goto (tgt := 3069) hx hb dL_law__1543 (by decide) ?_
    refine W.widen (k := cells + 60) (n := slots + 360) (by omega) (by omega) ?_
    exact kk _ _ _ _ _ _ hR1 hZ (lv_sub hl [2, 3, 4, 5, 6] rfl)
def zs_way (Rel Rel' : zM → zM → Prop) : Prop := ∀ (M N : zM), Rel M N → ∀ x1 x2 x3 x4 x5 : Int32, zsT Rel' (f_X10_way M x1 x2 x3 x4 x5) (f_X11_way N x1 x2 x3 x4 x5) (fun k => k = 0 ∨ k = 1) (fun k => if k = 0 then 1 else 2)
set_option maxRecDepth 100000 in
set_option maxHeartbeats 4000000 in
theorem lc_way (C : zLC p l s m args c gx gr cO qo b L xs Ts) (hz : zs_way Rel Rel') (hR : Rel M N) (hZ : zLS gx gr cO qo s H locs M N v) (hl : lv_has ls 7 (zLl b gx gr qo i)) (hi1 : vp_in (i + 1) L) (hi2 : vp_in (i + 2) L) (hi3 : vp_in (i + 3) L) (hi4 : vp_in (i + 4) L) (hi5 : vp_in (i + 5) L) (hc : cells + 60 ≤ 601024) (hsl : slots + 360 ≤ 7293033) (kk : zLK p l e s m args below meth c Q Rel' gx gr cO qo b i cells slots) : W p l e room_1 s m args below meth c H locs cells slots Q (F0 m 1546 ls []) := by
  obtain ⟨hst, E, Er, hT, S, hKo, hNc, A, hX, hbl⟩ := C
  have hx := E.1.1
  have hb := E.1.2.1
  have hl : lv_has ls 7 [(0, .ref b), (1, .ref (gx.2.2 0)), (2, .ref (gr.2.2 0)), (3, .ref qo), (4, .int i)] := hl
  obtain ⟨M1, b9, N1, hfr, hR1, hcc⟩ := hz M N hR (xs (i + 1).toNatClampNeg) (xs (i + 2).toNatClampNeg) (xs (i + 3).toNatClampNeg) (xs (i + 4).toNatClampNeg) (xs (i + 5).toNatClampNeg) 
  rcases hcc with ⟨k0, hfx, hk0, ht⟩ | ⟨hfx, ht⟩
  · refine lv_aload_n hx hb dL_law__1546 rfl (lv_at hl 1 rfl) ?_
    refine lv_aload_n hx hb dL_law__1547 rfl (lv_at hl 0 rfl) ?_
    refine lv_iload hx hb dL_law__1548 (lv_at hl 4 rfl) ?_
    refine lv_iconst (v := 1) hx hb dL_law__1550 (by decide) ?_
    refine lv_iadd hx hb dL_law__1551 ?_
    refine va_sld hx hb hX hbl (Nat.not_le.mpr hbl) hZ.2.2.2 hi1 dL_law__1552 ?_
    refine lv_aload_n hx hb dL_law__1553 rfl (lv_at hl 0 rfl) ?_
    refine lv_iload hx hb dL_law__1554 (lv_at hl 4 rfl) ?_
    refine lv_iconst (v := 2) hx hb dL_law__1556 (by decide) ?_
    refine lv_iadd hx hb dL_law__1557 ?_
    refine va_sld hx hb hX hbl (Nat.not_le.mpr hbl) hZ.2.2.2 hi2 dL_law__1558 ?_
    refine lv_aload_n hx hb dL_law__1559 rfl (lv_at hl 0 rfl) ?_
    refine lv_iload hx hb dL_law__1560 (lv_at hl 4 rfl) ?_
    refine lv_iconst (v := 3) hx hb dL_law__1562 (by decide) ?_
    refine lv_iadd hx hb dL_law__1563 ?_
    refine va_sld hx hb hX hbl (Nat.not_le.mpr hbl) hZ.2.2.2 hi3 dL_law__1564 ?_
    refine lv_aload_n hx hb dL_law__1565 rfl (lv_at hl 0 rfl) ?_
    refine lv_iload hx hb dL_law__1566 (lv_at hl 4 rfl) ?_
    refine lv_iconst (v := 4) hx hb dL_law__1568 (by decide) ?_
    refine lv_iadd hx hb dL_law__1569 ?_
    refine va_sld hx hb hX hbl (Nat.not_le.mpr hbl) hZ.2.2.2 hi4 dL_law__1570 ?_
    refine lv_aload_n hx hb dL_law__1571 rfl (lv_at hl 0 rfl) ?_
    refine lv_iload hx hb dL_law__1572 (lv_at hl 4 rfl) ?_
    refine lv_iconst (v := 5) hx hb dL_law__1574 (by decide) ?_
    refine lv_iadd hx hb dL_law__1575 ?_
    refine va_sld hx hb hX hbl (Nat.not_le.mpr hbl) hZ.2.2.2 hi5 dL_law__1576 ?_
    refine lv_aload_n hx hb dL_law__1577 rfl (lv_at hl 3 rfl) ?_
    refine lw_i (lrunW (n := 7) (As := [.ref (gx.2.2 0), .int (xs (i + 1).toNatClampNeg), .int (xs (i + 2).toNatClampNeg), .int (xs (i + 3).toNatClampNeg), .int (xs (i + 4).toNatClampNeg), .int (xs (i + 5).toNatClampNeg), .ref qo]) (rest := []) E hT hKo hNc A hZ kw_1115 kw_0 kw_1114 ⟨by decide, by decide, by decide +kernel⟩ kw_1113 (cw_L_way l hst gx cO qo M v (xs (i + 1).toNatClampNeg) (xs (i + 2).toNatClampNeg) (xs (i + 3).toNatClampNeg) (xs (i + 4).toNatClampNeg) (xs (i + 5).toNatClampNeg) hfx (fun _ _ h => by cases h; exact hk0)) rfl hl.1 rfl (Nat.le_of_ble_eq_true rfl) ⟨by decide, by decide⟩ ⟨by show cells + 5 ≤ 601024; omega, by show slots + 30 ≤ 7293033; omega⟩ dL_law__1578) A hZ (fun H locs hZ => ?_)
    have hZ : zLS gx gr cO qo s H locs M1 N v := hZ
    refine W.widen (k := cells + 48) (n := slots + 288) (by omega) (by omega) ?_
    refine lv_istore (lv' := [(5, .int ((fun k => if k = 0 then 1 else 2) k0)), (0, .ref b), (1, .ref (gx.2.2 0)), (2, .ref (gr.2.2 0)), (3, .ref qo), (4, .int i)]) hx hb dL_law__1581 hl (by decide) rfl (fun ls hl => ?_)
    refine lv_aload_n hx hb dL_law__1583 rfl (lv_at hl 3 rfl) ?_
    refine lv_aload_n hx hb dL_law__1584 rfl (lv_at hl 1 rfl) ?_
    refine lv_iload hx hb dL_law__1585 (lv_at hl 5 rfl) ?_
    refine lv_iconst (v := 1) hx hb dL_law__1587 (by decide) ?_
    refine lv_iadd hx hb dL_law__1588 ?_
    refine va_sld hx hb hX hbl (Nat.not_le.mpr hbl) hZ.2.2.2 hi1 dL_law__1589 ?_
    refine lv_aload_n hx hb dL_law__1590 rfl (lv_at hl 1 rfl) ?_
    refine lv_iload hx hb dL_law__1591 (lv_at hl 5 rfl) ?_
    refine lv_iconst (v := 2) hx hb dL_law__1593 (by decide) ?_
    refine lv_iadd hx hb dL_law__1594 ?_
    refine va_sld hx hb hX hbl (Nat.not_le.mpr hbl) hZ.2.2.2 hi2 dL_law__1595 ?_
    refine lv_aload_n hx hb dL_law__1596 rfl (lv_at hl 1 rfl) ?_
    refine lv_iload hx hb dL_law__1597 (lv_at hl 5 rfl) ?_
    refine lv_iconst (v := 3) hx hb dL_law__1599 (by decide) ?_
    refine lv_iadd hx hb dL_law__1600 ?_
    refine va_sld hx hb hX hbl (Nat.not_le.mpr hbl) hZ.2.2.2 hi3 dL_law__1601 ?_
    refine lv_aload_n hx hb dL_law__1602 rfl (lv_at hl 1 rfl) ?_
    refine lv_iload hx hb dL_law__1603 (lv_at hl 5 rfl) ?_
    refine lv_iconst (v := 4) hx hb dL_law__1605 (by decide) ?_
    refine lv_iadd hx hb dL_law__1606 ?_
    refine va_sld hx hb hX hbl (Nat.not_le.mpr hbl) hZ.2.2.2 hi4 dL_law__1607 ?_
    refine lv_aload_n hx hb dL_law__1608 rfl (lv_at hl 1 rfl) ?_
    refine lv_iload hx hb dL_law__1609 (lv_at hl 5 rfl) ?_
    refine lv_iconst (v := 5) hx hb dL_law__1611 (by decide) ?_
    refine lv_iadd hx hb dL_law__1612 ?_
    refine va_sld hx hb hX hbl (Nat.not_le.mpr hbl) hZ.2.2.2 hi5 dL_law__1613 ?_
    refine lr_i (zrunV (As := [.int (xs (i + 1).toNatClampNeg), .int (xs (i + 2).toNatClampNeg), .int (xs (i + 3).toNatClampNeg), .int (xs (i + 4).toNatClampNeg), .int (xs (i + 5).toNatClampNeg)]) (rest := []) Er (hZ.r A) (by decide) (re_0 _) rfl rfl v_X11_way kw_1911 (c_X11_way l gr N (xs (i + 1).toNatClampNeg) (xs (i + 2).toNatClampNeg) (xs (i + 3).toNatClampNeg) (xs (i + 4).toNatClampNeg) (xs (i + 5).toNatClampNeg) hfr _) rfl hl.1 rfl (Nat.le_of_ble_eq_true rfl) ⟨by decide, by decide⟩ ⟨by show _ ≤ 601024; omega, by show _ ≤ 7293033; omega⟩ dL_law__1614) A hZ (fun x9 N9 H locs hp hZ => ?_)
    obtain ⟨rfl, rfl⟩ := Prod.mk.inj hp
    refine lv_istore (lv' := [(6, .int b9), (5, .int ((fun k => if k = 0 then 1 else 2) k0)), (0, .ref b), (1, .ref (gx.2.2 0)), (2, .ref (gr.2.2 0)), (3, .ref qo), (4, .int i)]) hx hb dL_law__1617 hl (by decide) rfl (fun ls hl => ?_)
    refine lv_aload_n hx hb dL_law__1619 rfl (lv_at hl 4 rfl) ?_
    refine lr_i (zrunV (As := []) (rest := []) Er (hZ.r A) (by decide) (re_0 _) rfl rfl v_X11_thrown kw_1358 (c_X11_thrown l gr N1 (r := N1 0 0) rfl _) rfl hl.1 rfl (Nat.le_of_ble_eq_true rfl) ⟨by decide, by decide⟩ ⟨by show _ ≤ 601024; omega, by show _ ≤ 7293033; omega⟩ dL_law__1620) A hZ (fun x9 N9 H locs hp hZ => ?_)
    obtain ⟨e1, e2⟩ := hp
    rw [e2] at hZ
    rw [e1]
    refine lv_iload hx hb dL_law__1623 (lv_at hl 1 rfl) ?_
    refine lv_icmp_eq (tgt := 1630) hx hb dL_law__1625 (by decide) (fun _ => ?_) (fun hne => absurd ht hne)
    refine lv_iload hx hb dL_law__1630 (lv_at hl 1 rfl) ?_
    refine lv_if_ne (tgt := 1647) hx hb dL_law__1632 (by decide) (fun _ => ?_) (fun h0 => absurd h0 (by show ¬ (if k0 = 0 then (1 : Int32) else 2) = 0; split <;> decide))
    refine lv_goto (tgt := 3069) hx hb dL_law__1647 (by decide) ?_
    refine W.widen (k := cells + 60) (n := slots + 360) (by omega) (by omega) ?_
    exact kk _ _ _ _ _ _ hR1 hZ (lv_sub hl [2, 3, 4, 5, 6] rfl)
  · refine lv_aload_n hx hb dL_law__1546 rfl (lv_at hl 1 rfl) ?_
    refine lv_aload_n hx hb dL_law__1547 rfl (lv_at hl 0 rfl) ?_
    refine lv_iload hx hb dL_law__1548 (lv_at hl 4 rfl) ?_
    refine lv_iconst (v := 1) hx hb dL_law__1550 (by decide) ?_
    refine lv_iadd hx hb dL_law__1551 ?_
    refine va_sld hx hb hX hbl (Nat.not_le.mpr hbl) hZ.2.2.2 hi1 dL_law__1552 ?_
    refine lv_aload_n hx hb dL_law__1553 rfl (lv_at hl 0 rfl) ?_
    refine lv_iload hx hb dL_law__1554 (lv_at hl 4 rfl) ?_
    refine lv_iconst (v := 2) hx hb dL_law__1556 (by decide) ?_
    refine lv_iadd hx hb dL_law__1557 ?_
    refine va_sld hx hb hX hbl (Nat.not_le.mpr hbl) hZ.2.2.2 hi2 dL_law__1558 ?_
    refine lv_aload_n hx hb dL_law__1559 rfl (lv_at hl 0 rfl) ?_
    refine lv_iload hx hb dL_law__1560 (lv_at hl 4 rfl) ?_
    refine lv_iconst (v := 3) hx hb dL_law__1562 (by decide) ?_
    refine lv_iadd hx hb dL_law__1563 ?_
    refine va_sld hx hb hX hbl (Nat.not_le.mpr hbl) hZ.2.2.2 hi3 dL_law__1564 ?_
    refine lv_aload_n hx hb dL_law__1565 rfl (lv_at hl 0 rfl) ?_
    refine lv_iload hx hb dL_law__1566 (lv_at hl 4 rfl) ?_
    refine lv_iconst (v := 4) hx hb dL_law__1568 (by decide) ?_
    refine lv_iadd hx hb dL_law__1569 ?_
    refine va_sld hx hb hX hbl (Nat.not_le.mpr hbl) hZ.2.2.2 hi4 dL_law__1570 ?_
    refine lv_aload_n hx hb dL_law__1571 rfl (lv_at hl 0 rfl) ?_
    refine lv_iload hx hb dL_law__1572 (lv_at hl 4 rfl) ?_
    refine lv_iconst (v := 5) hx hb dL_law__1574 (by decide) ?_
    refine lv_iadd hx hb dL_law__1575 ?_
    refine va_sld hx hb hX hbl (Nat.not_le.mpr hbl) hZ.2.2.2 hi5 dL_law__1576 ?_
    refine lv_aload_n hx hb dL_law__1577 rfl (lv_at hl 3 rfl) ?_
    refine lw_i (lrunW (n := 7) (As := [.ref (gx.2.2 0), .int (xs (i + 1).toNatClampNeg), .int (xs (i + 2).toNatClampNeg), .int (xs (i + 3).toNatClampNeg), .int (xs (i + 4).toNatClampNeg), .int (xs (i + 5).toNatClampNeg), .ref qo]) (rest := []) E hT hKo hNc A hZ kw_1115 kw_0 kw_1114 ⟨by decide, by decide, by decide +kernel⟩ kw_1113 (cw_L_way l hst gx cO qo M v (xs (i + 1).toNatClampNeg) (xs (i + 2).toNatClampNeg) (xs (i + 3).toNatClampNeg) (xs (i + 4).toNatClampNeg) (xs (i + 5).toNatClampNeg) hfx (fun _ _ h => by cases h)) rfl hl.1 rfl (Nat.le_of_ble_eq_true rfl) ⟨by decide, by decide⟩ ⟨by show cells + 5 ≤ 601024; omega, by show slots + 30 ≤ 7293033; omega⟩ dL_law__1578) A hZ (fun H locs hZ => ?_)
    have hZ : zLS gx gr cO qo s H locs M1 N (b9.toInt64) := hZ
    refine W.widen (k := cells + 48) (n := slots + 288) (by omega) (by omega) ?_
    refine lv_istore (lv' := [(5, .int 0), (0, .ref b), (1, .ref (gx.2.2 0)), (2, .ref (gr.2.2 0)), (3, .ref qo), (4, .int i)]) hx hb dL_law__1581 hl (by decide) rfl (fun ls hl => ?_)
    refine lv_aload_n hx hb dL_law__1583 rfl (lv_at hl 3 rfl) ?_
    refine lv_aload_n hx hb dL_law__1584 rfl (lv_at hl 1 rfl) ?_
    refine lv_iload hx hb dL_law__1585 (lv_at hl 5 rfl) ?_
    refine lv_iconst (v := 1) hx hb dL_law__1587 (by decide) ?_
    refine lv_iadd hx hb dL_law__1588 ?_
    refine va_sld hx hb hX hbl (Nat.not_le.mpr hbl) hZ.2.2.2 hi1 dL_law__1589 ?_
    refine lv_aload_n hx hb dL_law__1590 rfl (lv_at hl 1 rfl) ?_
    refine lv_iload hx hb dL_law__1591 (lv_at hl 5 rfl) ?_
    refine lv_iconst (v := 2) hx hb dL_law__1593 (by decide) ?_
    refine lv_iadd hx hb dL_law__1594 ?_
    refine va_sld hx hb hX hbl (Nat.not_le.mpr hbl) hZ.2.2.2 hi2 dL_law__1595 ?_
    refine lv_aload_n hx hb dL_law__1596 rfl (lv_at hl 1 rfl) ?_
    refine lv_iload hx hb dL_law__1597 (lv_at hl 5 rfl) ?_
    refine lv_iconst (v := 3) hx hb dL_law__1599 (by decide) ?_
    refine lv_iadd hx hb dL_law__1600 ?_
    refine va_sld hx hb hX hbl (Nat.not_le.mpr hbl) hZ.2.2.2 hi3 dL_law__1601 ?_
    refine lv_aload_n hx hb dL_law__1602 rfl (lv_at hl 1 rfl) ?_
    refine lv_iload hx hb dL_law__1603 (lv_at hl 5 rfl) ?_
    refine lv_iconst (v := 4) hx hb dL_law__1605 (by decide) ?_
    refine lv_iadd hx hb dL_law__1606 ?_
    refine va_sld hx hb hX hbl (Nat.not_le.mpr hbl) hZ.2.2.2 hi4 dL_law__1607 ?_
    refine lv_aload_n hx hb dL_law__1608 rfl (lv_at hl 1 rfl) ?_
    refine lv_iload hx hb dL_law__1609 (lv_at hl 5 rfl) ?_
    refine lv_iconst (v := 5) hx hb dL_law__1611 (by decide) ?_
    refine lv_iadd hx hb dL_law__1612 ?_
    refine va_sld hx hb hX hbl (Nat.not_le.mpr hbl) hZ.2.2.2 hi5 dL_law__1613 ?_
    refine lr_i (zrunV (As := [.int (xs (i + 1).toNatClampNeg), .int (xs (i + 2).toNatClampNeg), .int (xs (i + 3).toNatClampNeg), .int (xs (i + 4).toNatClampNeg), .int (xs (i + 5).toNatClampNeg)]) (rest := []) Er (hZ.r A) (by decide) (re_0 _) rfl rfl v_X11_way kw_1911 (c_X11_way l gr N (xs (i + 1).toNatClampNeg) (xs (i + 2).toNatClampNeg) (xs (i + 3).toNatClampNeg) (xs (i + 4).toNatClampNeg) (xs (i + 5).toNatClampNeg) hfr _) rfl hl.1 rfl (Nat.le_of_ble_eq_true rfl) ⟨by decide, by decide⟩ ⟨by show _ ≤ 601024; omega, by show _ ≤ 7293033; omega⟩ dL_law__1614) A hZ (fun x9 N9 H locs hp hZ => ?_)
    obtain ⟨rfl, rfl⟩ := Prod.mk.inj hp
    refine lv_istore (lv' := [(6, .int b9), (5, .int 0), (0, .ref b), (1, .ref (gx.2.2 0)), (2, .ref (gr.2.2 0)), (3, .ref qo), (4, .int i)]) hx hb dL_law__1617 hl (by decide) rfl (fun ls hl => ?_)
    refine lv_aload_n hx hb dL_law__1619 rfl (lv_at hl 4 rfl) ?_
    refine lr_i (zrunV (As := []) (rest := []) Er (hZ.r A) (by decide) (re_0 _) rfl rfl v_X11_thrown kw_1358 (c_X11_thrown l gr N1 (r := N1 0 0) rfl _) rfl hl.1 rfl (Nat.le_of_ble_eq_true rfl) ⟨by decide, by decide⟩ ⟨by show _ ≤ 601024; omega, by show _ ≤ 7293033; omega⟩ dL_law__1620) A hZ (fun x9 N9 H locs hp hZ => ?_)
    obtain ⟨e1, e2⟩ := hp
    rw [e2] at hZ
    rw [e1]
    refine lv_iload hx hb dL_law__1623 (lv_at hl 1 rfl) ?_
    refine lv_icmp_eq (tgt := 1630) hx hb dL_law__1625 (by decide) (fun _ => ?_) (fun hne => absurd ht hne)
    refine lv_iload hx hb dL_law__1630 (lv_at hl 1 rfl) ?_
    refine lv_if_ne (tgt := 1647) hx hb dL_law__1632 (by decide) (fun hne => absurd rfl hne) (fun _ => ?_)
    refine lv_aload_n hx hb dL_law__1635 rfl (lv_at hl 5 rfl) ?_
    refine lv_iconst (v := 0) hx hb dL_law__1636 (by decide) ?_
    refine va_lald hx hb hKo hZ.2.2.1 0 0 rfl rfl (zin_of (by decide)) dL_law__1637 ?_
    refine lv_iload hx hb dL_law__1638 (lv_at hl 0 rfl) ?_
    refine lv_i2l hx hb dL_law__1640 rfl ?_
    refine W.lcmp hx hb dL_law__1641 ?_
    refine lv_if_eq (tgt := 1647) hx hb dL_law__1642 (by decide) (fun _ => ?_) (fun hne => absurd (zcmp_self _) hne)
    refine lv_goto (tgt := 3069) hx hb dL_law__1647 (by decide) ?_
    refine W.widen (k := cells + 60) (n := slots + 360) (by omega) (by omega) ?_
    exact kk _ _ _ _ _ _ hR1 hZ (lv_sub hl [2, 3, 4, 5, 6] rfl)
def zs_start (Rel Rel' : zM → zM → Prop) : Prop := ∀ (M N : zM), Rel M N → ∀ x1 x2 x3 x4 x5 : Int32, zsT Rel' (f_X10_start M x1 x2 x3 x4 x5) (f_X11_start N x1 x2 x3 x4 x5) (fun k => k = 0 ∨ k = 1) (fun k => if k = 0 then 1 else 2)
set_option maxRecDepth 100000 in
set_option maxHeartbeats 4000000 in
theorem lc_start (C : zLC p l s m args c gx gr cO qo b L xs Ts) (hz : zs_start Rel Rel') (hR : Rel M N) (hZ : zLS gx gr cO qo s H locs M N v) (hl : lv_has ls 7 (zLl b gx gr qo i)) (hi1 : vp_in (i + 1) L) (hi2 : vp_in (i + 2) L) (hi3 : vp_in (i + 3) L) (hi4 : vp_in (i + 4) L) (hi5 : vp_in (i + 5) L) (hc : cells + 60 ≤ 601024) (hsl : slots + 360 ≤ 7293033) (kk : zLK p l e s m args below meth c Q Rel' gx gr cO qo b i cells slots) : W p l e room_1 s m args below meth c H locs cells slots Q (F0 m 1650 ls []) := by
  obtain ⟨hst, E, Er, hT, S, hKo, hNc, A, hX, hbl⟩ := C
  have hx := E.1.1
  have hb := E.1.2.1
  have hl : lv_has ls 7 [(0, .ref b), (1, .ref (gx.2.2 0)), (2, .ref (gr.2.2 0)), (3, .ref qo), (4, .int i)] := hl
  obtain ⟨M1, b9, N1, hfr, hR1, hcc⟩ := hz M N hR (xs (i + 1).toNatClampNeg) (xs (i + 2).toNatClampNeg) (xs (i + 3).toNatClampNeg) (xs (i + 4).toNatClampNeg) (xs (i + 5).toNatClampNeg) 
  rcases hcc with ⟨k0, hfx, hk0, ht⟩ | ⟨hfx, ht⟩
  · refine lv_aload_n hx hb dL_law__1650 rfl (lv_at hl 1 rfl) ?_
    refine lv_aload_n hx hb dL_law__1651 rfl (lv_at hl 0 rfl) ?_
    refine lv_iload hx hb dL_law__1652 (lv_at hl 4 rfl) ?_
    refine lv_iconst (v := 1) hx hb dL_law__1654 (by decide) ?_
    refine lv_iadd hx hb dL_law__1655 ?_
    refine va_sld hx hb hX hbl (Nat.not_le.mpr hbl) hZ.2.2.2 hi1 dL_law__1656 ?_
    refine lv_aload_n hx hb dL_law__1657 rfl (lv_at hl 0 rfl) ?_
    refine lv_iload hx hb dL_law__1658 (lv_at hl 4 rfl) ?_
    refine lv_iconst (v := 2) hx hb dL_law__1660 (by decide) ?_
    refine lv_iadd hx hb dL_law__1661 ?_
    refine va_sld hx hb hX hbl (Nat.not_le.mpr hbl) hZ.2.2.2 hi2 dL_law__1662 ?_
    refine lv_aload_n hx hb dL_law__1663 rfl (lv_at hl 0 rfl) ?_
    refine lv_iload hx hb dL_law__1664 (lv_at hl 4 rfl) ?_
    refine lv_iconst (v := 3) hx hb dL_law__1666 (by decide) ?_
    refine lv_iadd hx hb dL_law__1667 ?_
    refine va_sld hx hb hX hbl (Nat.not_le.mpr hbl) hZ.2.2.2 hi3 dL_law__1668 ?_
    refine lv_aload_n hx hb dL_law__1669 rfl (lv_at hl 0 rfl) ?_
    refine lv_iload hx hb dL_law__1670 (lv_at hl 4 rfl) ?_
    refine lv_iconst (v := 4) hx hb dL_law__1672 (by decide) ?_
    refine lv_iadd hx hb dL_law__1673 ?_
    refine va_sld hx hb hX hbl (Nat.not_le.mpr hbl) hZ.2.2.2 hi4 dL_law__1674 ?_
    refine lv_aload_n hx hb dL_law__1675 rfl (lv_at hl 0 rfl) ?_
    refine lv_iload hx hb dL_law__1676 (lv_at hl 4 rfl) ?_
    refine lv_iconst (v := 5) hx hb dL_law__1678 (by decide) ?_
    refine lv_iadd hx hb dL_law__1679 ?_
    refine va_sld hx hb hX hbl (Nat.not_le.mpr hbl) hZ.2.2.2 hi5 dL_law__1680 ?_
    refine lv_aload_n hx hb dL_law__1681 rfl (lv_at hl 3 rfl) ?_
    refine lw_i (lrunW (n := 7) (As := [.ref (gx.2.2 0), .int (xs (i + 1).toNatClampNeg), .int (xs (i + 2).toNatClampNeg), .int (xs (i + 3).toNatClampNeg), .int (xs (i + 4).toNatClampNeg), .int (xs (i + 5).toNatClampNeg), .ref qo]) (rest := []) E hT hKo hNc A hZ kw_1128 kw_0 kw_1127 ⟨by decide, by decide, by decide +kernel⟩ kw_1126 (cw_L_start l hst gx cO qo M v (xs (i + 1).toNatClampNeg) (xs (i + 2).toNatClampNeg) (xs (i + 3).toNatClampNeg) (xs (i + 4).toNatClampNeg) (xs (i + 5).toNatClampNeg) hfx (fun _ _ h => by cases h; exact hk0)) rfl hl.1 rfl (Nat.le_of_ble_eq_true rfl) ⟨by decide, by decide⟩ ⟨by show cells + 5 ≤ 601024; omega, by show slots + 30 ≤ 7293033; omega⟩ dL_law__1682) A hZ (fun H locs hZ => ?_)
    have hZ : zLS gx gr cO qo s H locs M1 N v := hZ
    refine W.widen (k := cells + 48) (n := slots + 288) (by omega) (by omega) ?_
    refine lv_istore (lv' := [(5, .int ((fun k => if k = 0 then 1 else 2) k0)), (0, .ref b), (1, .ref (gx.2.2 0)), (2, .ref (gr.2.2 0)), (3, .ref qo), (4, .int i)]) hx hb dL_law__1685 hl (by decide) rfl (fun ls hl => ?_)
    refine lv_aload_n hx hb dL_law__1687 rfl (lv_at hl 3 rfl) ?_
    refine lv_aload_n hx hb dL_law__1688 rfl (lv_at hl 1 rfl) ?_
    refine lv_iload hx hb dL_law__1689 (lv_at hl 5 rfl) ?_
    refine lv_iconst (v := 1) hx hb dL_law__1691 (by decide) ?_
    refine lv_iadd hx hb dL_law__1692 ?_
    refine va_sld hx hb hX hbl (Nat.not_le.mpr hbl) hZ.2.2.2 hi1 dL_law__1693 ?_
    refine lv_aload_n hx hb dL_law__1694 rfl (lv_at hl 1 rfl) ?_
    refine lv_iload hx hb dL_law__1695 (lv_at hl 5 rfl) ?_
    refine lv_iconst (v := 2) hx hb dL_law__1697 (by decide) ?_
    refine lv_iadd hx hb dL_law__1698 ?_
    refine va_sld hx hb hX hbl (Nat.not_le.mpr hbl) hZ.2.2.2 hi2 dL_law__1699 ?_
    refine lv_aload_n hx hb dL_law__1700 rfl (lv_at hl 1 rfl) ?_
    refine lv_iload hx hb dL_law__1701 (lv_at hl 5 rfl) ?_
    refine lv_iconst (v := 3) hx hb dL_law__1703 (by decide) ?_
    refine lv_iadd hx hb dL_law__1704 ?_
    refine va_sld hx hb hX hbl (Nat.not_le.mpr hbl) hZ.2.2.2 hi3 dL_law__1705 ?_
    refine lv_aload_n hx hb dL_law__1706 rfl (lv_at hl 1 rfl) ?_
    refine lv_iload hx hb dL_law__1707 (lv_at hl 5 rfl) ?_
    refine lv_iconst (v := 4) hx hb dL_law__1709 (by decide) ?_
    refine lv_iadd hx hb dL_law__1710 ?_
    refine va_sld hx hb hX hbl (Nat.not_le.mpr hbl) hZ.2.2.2 hi4 dL_law__1711 ?_
    refine lv_aload_n hx hb dL_law__1712 rfl (lv_at hl 1 rfl) ?_
    refine lv_iload hx hb dL_law__1713 (lv_at hl 5 rfl) ?_
    refine lv_iconst (v := 5) hx hb dL_law__1715 (by decide) ?_
    refine lv_iadd hx hb dL_law__1716 ?_
    refine va_sld hx hb hX hbl (Nat.not_le.mpr hbl) hZ.2.2.2 hi5 dL_law__1717 ?_
    refine lr_i (zrunV (As := [.int (xs (i + 1).toNatClampNeg), .int (xs (i + 2).toNatClampNeg), .int (xs (i + 3).toNatClampNeg), .int (xs (i + 4).toNatClampNeg), .int (xs (i + 5).toNatClampNeg)]) (rest := []) Er (hZ.r A) (by decide) (re_0 _) rfl rfl v_X11_start kw_1934 (c_X11_start l gr N (xs (i + 1).toNatClampNeg) (xs (i + 2).toNatClampNeg) (xs (i + 3).toNatClampNeg) (xs (i + 4).toNatClampNeg) (xs (i + 5).toNatClampNeg) hfr _) rfl hl.1 rfl (Nat.le_of_ble_eq_true rfl) ⟨by decide, by decide⟩ ⟨by show _ ≤ 601024; omega, by show _ ≤ 7293033; omega⟩ dL_law__1718) A hZ (fun x9 N9 H locs hp hZ => ?_)
    obtain ⟨rfl, rfl⟩ := Prod.mk.inj hp
    refine lv_istore (lv' := [(6, .int b9), (5, .int ((fun k => if k = 0 then 1 else 2) k0)), (0, .ref b), (1, .ref (gx.2.2 0)), (2, .ref (gr.2.2 0)), (3, .ref qo), (4, .int i)]) hx hb dL_law__1721 hl (by decide) rfl (fun ls hl => ?_)
    refine lv_aload_n hx hb dL_law__1723 rfl (lv_at hl 4 rfl) ?_
    refine lr_i (zrunV (As := []) (rest := []) Er (hZ.r A) (by decide) (re_0 _) rfl rfl v_X11_thrown kw_1358 (c_X11_thrown l gr N1 (r := N1 0 0) rfl _) rfl hl.1 rfl (Nat.le_of_ble_eq_true rfl) ⟨by decide, by decide⟩ ⟨by show _ ≤ 601024; omega, by show _ ≤ 7293033; omega⟩ dL_law__1724) A hZ (fun x9 N9 H locs hp hZ => ?_)
    obtain ⟨e1, e2⟩ := hp
    rw [e2] at hZ
    rw [e1]
    refine lv_iload hx hb dL_law__1727 (lv_at hl 1 rfl) ?_
    refine lv_icmp_eq (tgt := 1734) hx hb dL_law__1729 (by decide) (fun _ => ?_) (fun hne => absurd ht hne)
    refine lv_iload hx hb dL_law__1734 (lv_at hl 1 rfl) ?_
    refine lv_if_ne (tgt := 1751) hx hb dL_law__1736 (by decide) (fun _ => ?_) (fun h0 => absurd h0 (by show ¬ (if k0 = 0 then (1 : Int32) else 2) = 0; split <;> decide))
    refine lv_goto (tgt := 3069) hx hb dL_law__1751 (by decide) ?_
    refine W.widen (k := cells + 60) (n := slots + 360) (by omega) (by omega) ?_
    exact kk _ _ _ _ _ _ hR1 hZ (lv_sub hl [2, 3, 4, 5, 6] rfl)
  · refine lv_aload_n hx hb dL_law__1650 rfl (lv_at hl 1 rfl) ?_
    refine lv_aload_n hx hb dL_law__1651 rfl (lv_at hl 0 rfl) ?_
    refine lv_iload hx hb dL_law__1652 (lv_at hl 4 rfl) ?_
    refine lv_iconst (v := 1) hx hb dL_law__1654 (by decide) ?_
    refine lv_iadd hx hb dL_law__1655 ?_
    refine va_sld hx hb hX hbl (Nat.not_le.mpr hbl) hZ.2.2.2 hi1 dL_law__1656 ?_
    refine lv_aload_n hx hb dL_law__1657 rfl (lv_at hl 0 rfl) ?_
    refine lv_iload hx hb dL_law__1658 (lv_at hl 4 rfl) ?_
    refine lv_iconst (v := 2) hx hb dL_law__1660 (by decide) ?_
    refine lv_iadd hx hb dL_law__1661 ?_
    refine va_sld hx hb hX hbl (Nat.not_le.mpr hbl) hZ.2.2.2 hi2 dL_law__1662 ?_
    refine lv_aload_n hx hb dL_law__1663 rfl (lv_at hl 0 rfl) ?_
    refine lv_iload hx hb dL_law__1664 (lv_at hl 4 rfl) ?_
    refine lv_iconst (v := 3) hx hb dL_law__1666 (by decide) ?_
    refine lv_iadd hx hb dL_law__1667 ?_
    refine va_sld hx hb hX hbl (Nat.not_le.mpr hbl) hZ.2.2.2 hi3 dL_law__1668 ?_
    refine lv_aload_n hx hb dL_law__1669 rfl (lv_at hl 0 rfl) ?_
    refine lv_iload hx hb dL_law__1670 (lv_at hl 4 rfl) ?_
    refine lv_iconst (v := 4) hx hb dL_law__1672 (by decide) ?_
    refine lv_iadd hx hb dL_law__1673 ?_
    refine va_sld hx hb hX hbl (Nat.not_le.mpr hbl) hZ.2.2.2 hi4 dL_law__1674 ?_
    refine lv_aload_n hx hb dL_law__1675 rfl (lv_at hl 0 rfl) ?_
    refine lv_iload hx hb dL_law__1676 (lv_at hl 4 rfl) ?_
    refine lv_iconst (v := 5) hx hb dL_law__1678 (by decide) ?_
    refine lv_iadd hx hb dL_law__1679 ?_
    refine va_sld hx hb hX hbl (Nat.not_le.mpr hbl) hZ.2.2.2 hi5 dL_law__1680 ?_
    refine lv_aload_n hx hb dL_law__1681 rfl (lv_at hl 3 rfl) ?_
    refine lw_i (lrunW (n := 7) (As := [.ref (gx.2.2 0), .int (xs (i + 1).toNatClampNeg), .int (xs (i + 2).toNatClampNeg), .int (xs (i + 3).toNatClampNeg), .int (xs (i + 4).toNatClampNeg), .int (xs (i + 5).toNatClampNeg), .ref qo]) (rest := []) E hT hKo hNc A hZ kw_1128 kw_0 kw_1127 ⟨by decide, by decide, by decide +kernel⟩ kw_1126 (cw_L_start l hst gx cO qo M v (xs (i + 1).toNatClampNeg) (xs (i + 2).toNatClampNeg) (xs (i + 3).toNatClampNeg) (xs (i + 4).toNatClampNeg) (xs (i + 5).toNatClampNeg) hfx (fun _ _ h => by cases h)) rfl hl.1 rfl (Nat.le_of_ble_eq_true rfl) ⟨by decide, by decide⟩ ⟨by show cells + 5 ≤ 601024; omega, by show slots + 30 ≤ 7293033; omega⟩ dL_law__1682) A hZ (fun H locs hZ => ?_)
    have hZ : zLS gx gr cO qo s H locs M1 N (b9.toInt64) := hZ
    refine W.widen (k := cells + 48) (n := slots + 288) (by omega) (by omega) ?_
    refine lv_istore (lv' := [(5, .int 0), (0, .ref b), (1, .ref (gx.2.2 0)), (2, .ref (gr.2.2 0)), (3, .ref qo), (4, .int i)]) hx hb dL_law__1685 hl (by decide) rfl (fun ls hl => ?_)
    refine lv_aload_n hx hb dL_law__1687 rfl (lv_at hl 3 rfl) ?_
    refine lv_aload_n hx hb dL_law__1688 rfl (lv_at hl 1 rfl) ?_
    refine lv_iload hx hb dL_law__1689 (lv_at hl 5 rfl) ?_
    refine lv_iconst (v := 1) hx hb dL_law__1691 (by decide) ?_
    refine lv_iadd hx hb dL_law__1692 ?_
    refine va_sld hx hb hX hbl (Nat.not_le.mpr hbl) hZ.2.2.2 hi1 dL_law__1693 ?_
    refine lv_aload_n hx hb dL_law__1694 rfl (lv_at hl 1 rfl) ?_
    refine lv_iload hx hb dL_law__1695 (lv_at hl 5 rfl) ?_
    refine lv_iconst (v := 2) hx hb dL_law__1697 (by decide) ?_
    refine lv_iadd hx hb dL_law__1698 ?_
    refine va_sld hx hb hX hbl (Nat.not_le.mpr hbl) hZ.2.2.2 hi2 dL_law__1699 ?_
    refine lv_aload_n hx hb dL_law__1700 rfl (lv_at hl 1 rfl) ?_
    refine lv_iload hx hb dL_law__1701 (lv_at hl 5 rfl) ?_
    refine lv_iconst (v := 3) hx hb dL_law__1703 (by decide) ?_
    refine lv_iadd hx hb dL_law__1704 ?_
    refine va_sld hx hb hX hbl (Nat.not_le.mpr hbl) hZ.2.2.2 hi3 dL_law__1705 ?_
    refine lv_aload_n hx hb dL_law__1706 rfl (lv_at hl 1 rfl) ?_
    refine lv_iload hx hb dL_law__1707 (lv_at hl 5 rfl) ?_
    refine lv_iconst (v := 4) hx hb dL_law__1709 (by decide) ?_
    refine lv_iadd hx hb dL_law__1710 ?_
    refine va_sld hx hb hX hbl (Nat.not_le.mpr hbl) hZ.2.2.2 hi4 dL_law__1711 ?_
    refine lv_aload_n hx hb dL_law__1712 rfl (lv_at hl 1 rfl) ?_
    refine lv_iload hx hb dL_law__1713 (lv_at hl 5 rfl) ?_
    refine lv_iconst (v := 5) hx hb dL_law__1715 (by decide) ?_
    refine lv_iadd hx hb dL_law__1716 ?_
    refine va_sld hx hb hX hbl (Nat.not_le.mpr hbl) hZ.2.2.2 hi5 dL_law__1717 ?_
    refine lr_i (zrunV (As := [.int (xs (i + 1).toNatClampNeg), .int (xs (i + 2).toNatClampNeg), .int (xs (i + 3).toNatClampNeg), .int (xs (i + 4).toNatClampNeg), .int (xs (i + 5).toNatClampNeg)]) (rest := []) Er (hZ.r A) (by decide) (re_0 _) rfl rfl v_X11_start kw_1934 (c_X11_start l gr N (xs (i + 1).toNatClampNeg) (xs (i + 2).toNatClampNeg) (xs (i + 3).toNatClampNeg) (xs (i + 4).toNatClampNeg) (xs (i + 5).toNatClampNeg) hfr _) rfl hl.1 rfl (Nat.le_of_ble_eq_true rfl) ⟨by decide, by decide⟩ ⟨by show _ ≤ 601024; omega, by show _ ≤ 7293033; omega⟩ dL_law__1718) A hZ (fun x9 N9 H locs hp hZ => ?_)
    obtain ⟨rfl, rfl⟩ := Prod.mk.inj hp
    refine lv_istore (lv' := [(6, .int b9), (5, .int 0), (0, .ref b), (1, .ref (gx.2.2 0)), (2, .ref (gr.2.2 0)), (3, .ref qo), (4, .int i)]) hx hb dL_law__1721 hl (by decide) rfl (fun ls hl => ?_)
    refine lv_aload_n hx hb dL_law__1723 rfl (lv_at hl 4 rfl) ?_
    refine lr_i (zrunV (As := []) (rest := []) Er (hZ.r A) (by decide) (re_0 _) rfl rfl v_X11_thrown kw_1358 (c_X11_thrown l gr N1 (r := N1 0 0) rfl _) rfl hl.1 rfl (Nat.le_of_ble_eq_true rfl) ⟨by decide, by decide⟩ ⟨by show _ ≤ 601024; omega, by show _ ≤ 7293033; omega⟩ dL_law__1724) A hZ (fun x9 N9 H locs hp hZ => ?_)
    obtain ⟨e1, e2⟩ := hp
    rw [e2] at hZ
    rw [e1]
    refine lv_iload hx hb dL_law__1727 (lv_at hl 1 rfl) ?_
    refine lv_icmp_eq (tgt := 1734) hx hb dL_law__1729 (by decide) (fun _ => ?_) (fun hne => absurd ht hne)
    refine lv_iload hx hb dL_law__1734 (lv_at hl 1 rfl) ?_
    refine lv_if_ne (tgt := 1751) hx hb dL_law__1736 (by decide) (fun hne => absurd rfl hne) (fun _ => ?_)
    refine lv_aload_n hx hb dL_law__1739 rfl (lv_at hl 5 rfl) ?_
    refine lv_iconst (v := 0) hx hb dL_law__1740 (by decide) ?_
    refine va_lald hx hb hKo hZ.2.2.1 0 0 rfl rfl (zin_of (by decide)) dL_law__1741 ?_
    refine lv_iload hx hb dL_law__1742 (lv_at hl 0 rfl) ?_
    refine lv_i2l hx hb dL_law__1744 rfl ?_
    refine W.lcmp hx hb dL_law__1745 ?_
    refine lv_if_eq (tgt := 1751) hx hb dL_law__1746 (by decide) (fun _ => ?_) (fun hne => absurd (zcmp_self _) hne)
    refine lv_goto (tgt := 3069) hx hb dL_law__1751 (by decide) ?_
    refine W.widen (k := cells + 60) (n := slots + 360) (by omega) (by omega) ?_
    exact kk _ _ _ _ _ _ hR1 hZ (lv_sub hl [2, 3, 4, 5, 6] rfl)
def zs_safe (Rel Rel' : zM → zM → Prop) : Prop := ∀ (M N : zM), Rel M N → ∀ x1 x2 x3 x4 : Int32, zsT Rel' (f_X10_safe M x1 x2 x3 x4) (f_X11_safe N x1 x2 x3 x4) (fun k => k = 0 ∨ k = 1) (fun k => if k = 0 then 1 else 2)
set_option maxRecDepth 100000 in
set_option maxHeartbeats 4000000 in
theorem lc_safe (C : zLC p l s m args c gx gr cO qo b L xs Ts) (hz : zs_safe Rel Rel') (hR : Rel M N) (hZ : zLS gx gr cO qo s H locs M N v) (hl : lv_has ls 7 (zLl b gx gr qo i)) (hi1 : vp_in (i + 1) L) (hi2 : vp_in (i + 2) L) (hi3 : vp_in (i + 3) L) (hi4 : vp_in (i + 4) L) (hi5 : vp_in (i + 5) L) (hc : cells + 60 ≤ 601024) (hsl : slots + 360 ≤ 7293033) (kk : zLK p l e s m args below meth c Q Rel' gx gr cO qo b i cells slots) : W p l e room_1 s m args below meth c H locs cells slots Q (F0 m 1754 ls []) := by
  obtain ⟨hst, E, Er, hT, S, hKo, hNc, A, hX, hbl⟩ := C
  have hx := E.1.1
  have hb := E.1.2.1
  have hl : lv_has ls 7 [(0, .ref b), (1, .ref (gx.2.2 0)), (2, .ref (gr.2.2 0)), (3, .ref qo), (4, .int i)] := hl
  obtain ⟨M1, b9, N1, hfr, hR1, hcc⟩ := hz M N hR (xs (i + 1).toNatClampNeg) (xs (i + 2).toNatClampNeg) (xs (i + 3).toNatClampNeg) (xs (i + 4).toNatClampNeg) 
  rcases hcc with ⟨k0, hfx, hk0, ht⟩ | ⟨hfx, ht⟩
  · refine lv_aload_n hx hb dL_law__1754 rfl (lv_at hl 1 rfl) ?_
    refine lv_aload_n hx hb dL_law__1755 rfl (lv_at hl 0 rfl) ?_
    refine lv_iload hx hb dL_law__1756 (lv_at hl 4 rfl) ?_
    refine lv_iconst (v := 1) hx hb dL_law__1758 (by decide) ?_
    refine lv_iadd hx hb dL_law__1759 ?_
    refine va_sld hx hb hX hbl (Nat.not_le.mpr hbl) hZ.2.2.2 hi1 dL_law__1760 ?_
    refine lv_aload_n hx hb dL_law__1761 rfl (lv_at hl 0 rfl) ?_
    refine lv_iload hx hb dL_law__1762 (lv_at hl 4 rfl) ?_
    refine lv_iconst (v := 2) hx hb dL_law__1764 (by decide) ?_
    refine lv_iadd hx hb dL_law__1765 ?_
    refine va_sld hx hb hX hbl (Nat.not_le.mpr hbl) hZ.2.2.2 hi2 dL_law__1766 ?_
    refine lv_aload_n hx hb dL_law__1767 rfl (lv_at hl 0 rfl) ?_
    refine lv_iload hx hb dL_law__1768 (lv_at hl 4 rfl) ?_
    refine lv_iconst (v := 3) hx hb dL_law__1770 (by decide) ?_
    refine lv_iadd hx hb dL_law__1771 ?_
    refine va_sld hx hb hX hbl (Nat.not_le.mpr hbl) hZ.2.2.2 hi3 dL_law__1772 ?_
    refine lv_aload_n hx hb dL_law__1773 rfl (lv_at hl 0 rfl) ?_
    refine lv_iload hx hb dL_law__1774 (lv_at hl 4 rfl) ?_
    refine lv_iconst (v := 4) hx hb dL_law__1776 (by decide) ?_
    refine lv_iadd hx hb dL_law__1777 ?_
    refine va_sld hx hb hX hbl (Nat.not_le.mpr hbl) hZ.2.2.2 hi4 dL_law__1778 ?_
    refine lv_aload_n hx hb dL_law__1779 rfl (lv_at hl 3 rfl) ?_
    refine lw_i (lrunW (n := 6) (As := [.ref (gx.2.2 0), .int (xs (i + 1).toNatClampNeg), .int (xs (i + 2).toNatClampNeg), .int (xs (i + 3).toNatClampNeg), .int (xs (i + 4).toNatClampNeg), .ref qo]) (rest := []) E hT hKo hNc A hZ kw_1135 kw_0 kw_1134 ⟨by decide, by decide, by decide +kernel⟩ kw_1133 (cw_L_safe l hst gx cO qo M v (xs (i + 1).toNatClampNeg) (xs (i + 2).toNatClampNeg) (xs (i + 3).toNatClampNeg) (xs (i + 4).toNatClampNeg) hfx (fun _ _ h => by cases h; exact hk0)) rfl hl.1 rfl (Nat.le_of_ble_eq_true rfl) ⟨by decide, by decide⟩ ⟨by show cells + 5 ≤ 601024; omega, by show slots + 30 ≤ 7293033; omega⟩ dL_law__1780) A hZ (fun H locs hZ => ?_)
    have hZ : zLS gx gr cO qo s H locs M1 N v := hZ
    refine W.widen (k := cells + 48) (n := slots + 288) (by omega) (by omega) ?_
    refine lv_istore (lv' := [(5, .int ((fun k => if k = 0 then 1 else 2) k0)), (0, .ref b), (1, .ref (gx.2.2 0)), (2, .ref (gr.2.2 0)), (3, .ref qo), (4, .int i)]) hx hb dL_law__1783 hl (by decide) rfl (fun ls hl => ?_)
    refine lv_aload_n hx hb dL_law__1785 rfl (lv_at hl 3 rfl) ?_
    refine lv_aload_n hx hb dL_law__1786 rfl (lv_at hl 1 rfl) ?_
    refine lv_iload hx hb dL_law__1787 (lv_at hl 5 rfl) ?_
    refine lv_iconst (v := 1) hx hb dL_law__1789 (by decide) ?_
    refine lv_iadd hx hb dL_law__1790 ?_
    refine va_sld hx hb hX hbl (Nat.not_le.mpr hbl) hZ.2.2.2 hi1 dL_law__1791 ?_
    refine lv_aload_n hx hb dL_law__1792 rfl (lv_at hl 1 rfl) ?_
    refine lv_iload hx hb dL_law__1793 (lv_at hl 5 rfl) ?_
    refine lv_iconst (v := 2) hx hb dL_law__1795 (by decide) ?_
    refine lv_iadd hx hb dL_law__1796 ?_
    refine va_sld hx hb hX hbl (Nat.not_le.mpr hbl) hZ.2.2.2 hi2 dL_law__1797 ?_
    refine lv_aload_n hx hb dL_law__1798 rfl (lv_at hl 1 rfl) ?_
    refine lv_iload hx hb dL_law__1799 (lv_at hl 5 rfl) ?_
    refine lv_iconst (v := 3) hx hb dL_law__1801 (by decide) ?_
    refine lv_iadd hx hb dL_law__1802 ?_
    refine va_sld hx hb hX hbl (Nat.not_le.mpr hbl) hZ.2.2.2 hi3 dL_law__1803 ?_
    refine lv_aload_n hx hb dL_law__1804 rfl (lv_at hl 1 rfl) ?_
    refine lv_iload hx hb dL_law__1805 (lv_at hl 5 rfl) ?_
    refine lv_iconst (v := 4) hx hb dL_law__1807 (by decide) ?_
    refine lv_iadd hx hb dL_law__1808 ?_
    refine va_sld hx hb hX hbl (Nat.not_le.mpr hbl) hZ.2.2.2 hi4 dL_law__1809 ?_
    refine lr_i (zrunV (As := [.int (xs (i + 1).toNatClampNeg), .int (xs (i + 2).toNatClampNeg), .int (xs (i + 3).toNatClampNeg), .int (xs (i + 4).toNatClampNeg)]) (rest := []) Er (hZ.r A) (by decide) (re_0 _) rfl rfl v_X11_safe kw_1938 (c_X11_safe l gr N (xs (i + 1).toNatClampNeg) (xs (i + 2).toNatClampNeg) (xs (i + 3).toNatClampNeg) (xs (i + 4).toNatClampNeg) hfr _) rfl hl.1 rfl (Nat.le_of_ble_eq_true rfl) ⟨by decide, by decide⟩ ⟨by show _ ≤ 601024; omega, by show _ ≤ 7293033; omega⟩ dL_law__1810) A hZ (fun x9 N9 H locs hp hZ => ?_)
    obtain ⟨rfl, rfl⟩ := Prod.mk.inj hp
    refine lv_istore (lv' := [(6, .int b9), (5, .int ((fun k => if k = 0 then 1 else 2) k0)), (0, .ref b), (1, .ref (gx.2.2 0)), (2, .ref (gr.2.2 0)), (3, .ref qo), (4, .int i)]) hx hb dL_law__1813 hl (by decide) rfl (fun ls hl => ?_)
    refine lv_aload_n hx hb dL_law__1815 rfl (lv_at hl 4 rfl) ?_
    refine lr_i (zrunV (As := []) (rest := []) Er (hZ.r A) (by decide) (re_0 _) rfl rfl v_X11_thrown kw_1358 (c_X11_thrown l gr N1 (r := N1 0 0) rfl _) rfl hl.1 rfl (Nat.le_of_ble_eq_true rfl) ⟨by decide, by decide⟩ ⟨by show _ ≤ 601024; omega, by show _ ≤ 7293033; omega⟩ dL_law__1816) A hZ (fun x9 N9 H locs hp hZ => ?_)
    obtain ⟨e1, e2⟩ := hp
    rw [e2] at hZ
    rw [e1]
    refine lv_iload hx hb dL_law__1819 (lv_at hl 1 rfl) ?_
    refine lv_icmp_eq (tgt := 1826) hx hb dL_law__1821 (by decide) (fun _ => ?_) (fun hne => absurd ht hne)
    refine lv_iload hx hb dL_law__1826 (lv_at hl 1 rfl) ?_
    refine lv_if_ne (tgt := 1843) hx hb dL_law__1828 (by decide) (fun _ => ?_) (fun h0 => absurd h0 (by show ¬ (if k0 = 0 then (1 : Int32) else 2) = 0; split <;> decide))
    refine lv_goto (tgt := 3069) hx hb dL_law__1843 (by decide) ?_
    refine W.widen (k := cells + 60) (n := slots + 360) (by omega) (by omega) ?_
    exact kk _ _ _ _ _ _ hR1 hZ (lv_sub hl [2, 3, 4, 5, 6] rfl)
  · refine lv_aload_n hx hb dL_law__1754 rfl (lv_at hl 1 rfl) ?_
    refine lv_aload_n hx hb dL_law__1755 rfl (lv_at hl 0 rfl) ?_
    refine lv_iload hx hb dL_law__1756 (lv_at hl 4 rfl) ?_
    refine lv_iconst (v := 1) hx hb dL_law__1758 (by decide) ?_
    refine lv_iadd hx hb dL_law__1759 ?_
    refine va_sld hx hb hX hbl (Nat.not_le.mpr hbl) hZ.2.2.2 hi1 dL_law__1760 ?_
    refine lv_aload_n hx hb dL_law__1761 rfl (lv_at hl 0 rfl) ?_
    refine lv_iload hx hb dL_law__1762 (lv_at hl 4 rfl) ?_
    refine lv_iconst (v := 2) hx hb dL_law__1764 (by decide) ?_
    refine lv_iadd hx hb dL_law__1765 ?_
    refine va_sld hx hb hX hbl (Nat.not_le.mpr hbl) hZ.2.2.2 hi2 dL_law__1766 ?_
    refine lv_aload_n hx hb dL_law__1767 rfl (lv_at hl 0 rfl) ?_
    refine lv_iload hx hb dL_law__1768 (lv_at hl 4 rfl) ?_
    refine lv_iconst (v := 3) hx hb dL_law__1770 (by decide) ?_
    refine lv_iadd hx hb dL_law__1771 ?_
    refine va_sld hx hb hX hbl (Nat.not_le.mpr hbl) hZ.2.2.2 hi3 dL_law__1772 ?_
    refine lv_aload_n hx hb dL_law__1773 rfl (lv_at hl 0 rfl) ?_
    refine lv_iload hx hb dL_law__1774 (lv_at hl 4 rfl) ?_
    refine lv_iconst (v := 4) hx hb dL_law__1776 (by decide) ?_
    refine lv_iadd hx hb dL_law__1777 ?_
    refine va_sld hx hb hX hbl (Nat.not_le.mpr hbl) hZ.2.2.2 hi4 dL_law__1778 ?_
    refine lv_aload_n hx hb dL_law__1779 rfl (lv_at hl 3 rfl) ?_
    refine lw_i (lrunW (n := 6) (As := [.ref (gx.2.2 0), .int (xs (i + 1).toNatClampNeg), .int (xs (i + 2).toNatClampNeg), .int (xs (i + 3).toNatClampNeg), .int (xs (i + 4).toNatClampNeg), .ref qo]) (rest := []) E hT hKo hNc A hZ kw_1135 kw_0 kw_1134 ⟨by decide, by decide, by decide +kernel⟩ kw_1133 (cw_L_safe l hst gx cO qo M v (xs (i + 1).toNatClampNeg) (xs (i + 2).toNatClampNeg) (xs (i + 3).toNatClampNeg) (xs (i + 4).toNatClampNeg) hfx (fun _ _ h => by cases h)) rfl hl.1 rfl (Nat.le_of_ble_eq_true rfl) ⟨by decide, by decide⟩ ⟨by show cells + 5 ≤ 601024; omega, by show slots + 30 ≤ 7293033; omega⟩ dL_law__1780) A hZ (fun H locs hZ => ?_)
    have hZ : zLS gx gr cO qo s H locs M1 N (b9.toInt64) := hZ
    refine W.widen (k := cells + 48) (n := slots + 288) (by omega) (by omega) ?_
    refine lv_istore (lv' := [(5, .int 0), (0, .ref b), (1, .ref (gx.2.2 0)), (2, .ref (gr.2.2 0)), (3, .ref qo), (4, .int i)]) hx hb dL_law__1783 hl (by decide) rfl (fun ls hl => ?_)
    refine lv_aload_n hx hb dL_law__1785 rfl (lv_at hl 3 rfl) ?_
    refine lv_aload_n hx hb dL_law__1786 rfl (lv_at hl 1 rfl) ?_
    refine lv_iload hx hb dL_law__1787 (lv_at hl 5 rfl) ?_
    refine lv_iconst (v := 1) hx hb dL_law__1789 (by decide) ?_
    refine lv_iadd hx hb dL_law__1790 ?_
    refine va_sld hx hb hX hbl (Nat.not_le.mpr hbl) hZ.2.2.2 hi1 dL_law__1791 ?_
    refine lv_aload_n hx hb dL_law__1792 rfl (lv_at hl 1 rfl) ?_
    refine lv_iload hx hb dL_law__1793 (lv_at hl 5 rfl) ?_
    refine lv_iconst (v := 2) hx hb dL_law__1795 (by decide) ?_
    refine lv_iadd hx hb dL_law__1796 ?_
    refine va_sld hx hb hX hbl (Nat.not_le.mpr hbl) hZ.2.2.2 hi2 dL_law__1797 ?_
    refine lv_aload_n hx hb dL_law__1798 rfl (lv_at hl 1 rfl) ?_
    refine lv_iload hx hb dL_law__1799 (lv_at hl 5 rfl) ?_
    refine lv_iconst (v := 3) hx hb dL_law__1801 (by decide) ?_
    refine lv_iadd hx hb dL_law__1802 ?_
    refine va_sld hx hb hX hbl (Nat.not_le.mpr hbl) hZ.2.2.2 hi3 dL_law__1803 ?_
    refine lv_aload_n hx hb dL_law__1804 rfl (lv_at hl 1 rfl) ?_
    refine lv_iload hx hb dL_law__1805 (lv_at hl 5 rfl) ?_
    refine lv_iconst (v := 4) hx hb dL_law__1807 (by decide) ?_
    refine lv_iadd hx hb dL_law__1808 ?_
    refine va_sld hx hb hX hbl (Nat.not_le.mpr hbl) hZ.2.2.2 hi4 dL_law__1809 ?_
    refine lr_i (zrunV (As := [.int (xs (i + 1).toNatClampNeg), .int (xs (i + 2).toNatClampNeg), .int (xs (i + 3).toNatClampNeg), .int (xs (i + 4).toNatClampNeg)]) (rest := []) Er (hZ.r A) (by decide) (re_0 _) rfl rfl v_X11_safe kw_1938 (c_X11_safe l gr N (xs (i + 1).toNatClampNeg) (xs (i + 2).toNatClampNeg) (xs (i + 3).toNatClampNeg) (xs (i + 4).toNatClampNeg) hfr _) rfl hl.1 rfl (Nat.le_of_ble_eq_true rfl) ⟨by decide, by decide⟩ ⟨by show _ ≤ 601024; omega, by show _ ≤ 7293033; omega⟩ dL_law__1810) A hZ (fun x9 N9 H locs hp hZ => ?_)
    obtain ⟨rfl, rfl⟩ := Prod.mk.inj hp
    refine lv_istore (lv' := [(6, .int b9), (5, .int 0), (0, .ref b), (1, .ref (gx.2.2 0)), (2, .ref (gr.2.2 0)), (3, .ref qo), (4, .int i)]) hx hb dL_law__1813 hl (by decide) rfl (fun ls hl => ?_)
    refine lv_aload_n hx hb dL_law__1815 rfl (lv_at hl 4 rfl) ?_
    refine lr_i (zrunV (As := []) (rest := []) Er (hZ.r A) (by decide) (re_0 _) rfl rfl v_X11_thrown kw_1358 (c_X11_thrown l gr N1 (r := N1 0 0) rfl _) rfl hl.1 rfl (Nat.le_of_ble_eq_true rfl) ⟨by decide, by decide⟩ ⟨by show _ ≤ 601024; omega, by show _ ≤ 7293033; omega⟩ dL_law__1816) A hZ (fun x9 N9 H locs hp hZ => ?_)
    obtain ⟨e1, e2⟩ := hp
    rw [e2] at hZ
    rw [e1]
    refine lv_iload hx hb dL_law__1819 (lv_at hl 1 rfl) ?_
    refine lv_icmp_eq (tgt := 1826) hx hb dL_law__1821 (by decide) (fun _ => ?_) (fun hne => absurd ht hne)
    refine lv_iload hx hb dL_law__1826 (lv_at hl 1 rfl) ?_
    refine lv_if_ne (tgt := 1843) hx hb dL_law__1828 (by decide) (fun hne => absurd rfl hne) (fun _ => ?_)
    refine lv_aload_n hx hb dL_law__1831 rfl (lv_at hl 5 rfl) ?_
    refine lv_iconst (v := 0) hx hb dL_law__1832 (by decide) ?_
    refine va_lald hx hb hKo hZ.2.2.1 0 0 rfl rfl (zin_of (by decide)) dL_law__1833 ?_
    refine lv_iload hx hb dL_law__1834 (lv_at hl 0 rfl) ?_
    refine lv_i2l hx hb dL_law__1836 rfl ?_
    refine W.lcmp hx hb dL_law__1837 ?_
    refine lv_if_eq (tgt := 1843) hx hb dL_law__1838 (by decide) (fun _ => ?_) (fun hne => absurd (zcmp_self _) hne)
    refine lv_goto (tgt := 3069) hx hb dL_law__1843 (by decide) ?_
    refine W.widen (k := cells + 60) (n := slots + 360) (by omega) (by omega) ?_
    exact kk _ _ _ _ _ _ hR1 hZ (lv_sub hl [2, 3, 4, 5, 6] rfl)
end LAWC
