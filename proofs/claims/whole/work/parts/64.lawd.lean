section LAWC
variable {p : Program} {l : Launch} {e : Env} {s : State} {m : MethodId} {args : Array Value} {below : List Frame} {meth : Method} {c : Code} {H : Heap} {locs : List Loc} {cells slots : Nat} {Q : State → Prop}
variable {ls : Array Slot} {gx gr : zG} {cO : ClassId} {qo b L : Nat} {xs : Nat → Int32} {M N : zM} {v : Int64} {Ts : List Cond} {i : Int32} {Rel Rel' : zM → zM → Prop}
def zs_fetch (Rel Rel' : zM → zM → Prop) : Prop := ∀ (M N : zM), Rel M N → ∀ x1 : Int32, zsT Rel' (f_X10_fetch M x1) (f_X11_fetch N x1) (fun k => k = 0) (fun _ => 1)
set_option maxRecDepth 100000 in
set_option maxHeartbeats 4000000 in
theorem lc_fetch (C : zLC p l s m args c gx gr cO qo b L xs Ts) (hz : zs_fetch Rel Rel') (hR : Rel M N) (hZ : zLS gx gr cO qo s H locs M N v) (hl : lv_has ls 7 (zLl b gx gr qo i)) (hi1 : vp_in (i + 1) L) (hi2 : vp_in (i + 2) L) (hi3 : vp_in (i + 3) L) (hi4 : vp_in (i + 4) L) (hi5 : vp_in (i + 5) L) (hc : cells + 60 ≤ 601024) (hsl : slots + 360 ≤ 7293033) (kk : zLK p l e s m args below meth c Q Rel' gx gr cO qo b i cells slots) : W p l e room_1 s m args below meth c H locs cells slots Q (F0 m 1846 ls []) := by
  obtain ⟨hst, E, Er, hT, S, hKo, hNc, A, hX, hbl⟩ := C
  have hx := E.1.1
  have hb := E.1.2.1
  have hl : lv_has ls 7 [(0, .ref b), (1, .ref (gx.2.2 0)), (2, .ref (gr.2.2 0)), (3, .ref qo), (4, .int i)] := hl
  obtain ⟨M1, b9, N1, hfr, hR1, hcc⟩ := hz M N hR (xs (i + 1).toNatClampNeg) 
  rcases hcc with ⟨k0, hfx, hk0, ht⟩ | ⟨hfx, ht⟩
  · refine lv_aload_n hx hb dL_law__1846 rfl (lv_at hl 1 rfl) ?_
    refine lv_aload_n hx hb dL_law__1847 rfl (lv_at hl 0 rfl) ?_
    refine lv_iload hx hb dL_law__1848 (lv_at hl 4 rfl) ?_
    refine lv_iconst (v := 1) hx hb dL_law__1850 (by decide) ?_
    refine lv_iadd hx hb dL_law__1851 ?_
    refine va_sld hx hb hX hbl (Nat.not_le.mpr hbl) hZ.2.2.2 hi1 dL_law__1852 ?_
    refine lv_aload_n hx hb dL_law__1853 rfl (lv_at hl 3 rfl) ?_
    refine lw_i (lrunW (n := 3) (As := [.ref (gx.2.2 0), .int (xs (i + 1).toNatClampNeg), .ref qo]) (rest := []) E hT hKo hNc A hZ kw_1142 kw_0 kw_1141 ⟨by decide, by decide, by decide +kernel⟩ kw_1140 (cw_L_fetch l hst gx cO qo M v (xs (i + 1).toNatClampNeg) hfx (fun _ _ h => by cases h; exact hk0)) rfl hl.1 rfl (Nat.le_of_ble_eq_true rfl) ⟨by decide, by decide⟩ ⟨by show cells + 1 ≤ 601024; omega, by show slots + 6 ≤ 7293033; omega⟩ dL_law__1854) A hZ (fun H locs hZ => ?_)
    have hZ : zLS gx gr cO qo s H locs M1 N v := hZ
    refine W.widen (k := cells + 48) (n := slots + 288) (by omega) (by omega) ?_
    refine lv_istore (lv' := [(5, .int ((fun _ => 1) k0)), (0, .ref b), (1, .ref (gx.2.2 0)), (2, .ref (gr.2.2 0)), (3, .ref qo), (4, .int i)]) hx hb dL_law__1857 hl (by decide) rfl (fun ls hl => ?_)
    refine lv_aload_n hx hb dL_law__1859 rfl (lv_at hl 3 rfl) ?_
    refine lv_aload_n hx hb dL_law__1860 rfl (lv_at hl 1 rfl) ?_
    refine lv_iload hx hb dL_law__1861 (lv_at hl 5 rfl) ?_
    refine lv_iconst (v := 1) hx hb dL_law__1863 (by decide) ?_
    refine lv_iadd hx hb dL_law__1864 ?_
    refine va_sld hx hb hX hbl (Nat.not_le.mpr hbl) hZ.2.2.2 hi1 dL_law__1865 ?_
    refine lr_i (zrunV (As := [.int (xs (i + 1).toNatClampNeg)]) (rest := []) Er (hZ.r A) (by decide) (re_0 _) rfl rfl v_X11_fetch kw_1942 (c_X11_fetch l gr N (xs (i + 1).toNatClampNeg) hfr _) rfl hl.1 rfl (Nat.le_of_ble_eq_true rfl) ⟨by decide, by decide⟩ ⟨by show _ ≤ 601024; omega, by show _ ≤ 7293033; omega⟩ dL_law__1866) A hZ (fun x9 N9 H locs hp hZ => ?_)
    obtain ⟨rfl, rfl⟩ := Prod.mk.inj hp
    refine lv_istore (lv' := [(6, .int b9), (5, .int ((fun _ => 1) k0)), (0, .ref b), (1, .ref (gx.2.2 0)), (2, .ref (gr.2.2 0)), (3, .ref qo), (4, .int i)]) hx hb dL_law__1869 hl (by decide) rfl (fun ls hl => ?_)
    refine lv_aload_n hx hb dL_law__1871 rfl (lv_at hl 4 rfl) ?_
    refine lr_i (zrunV (As := []) (rest := []) Er (hZ.r A) (by decide) (re_0 _) rfl rfl v_X11_thrown kw_1358 (c_X11_thrown l gr N1 (r := N1 0 0) rfl _) rfl hl.1 rfl (Nat.le_of_ble_eq_true rfl) ⟨by decide, by decide⟩ ⟨by show _ ≤ 601024; omega, by show _ ≤ 7293033; omega⟩ dL_law__1872) A hZ (fun x9 N9 H locs hp hZ => ?_)
    obtain ⟨e1, e2⟩ := hp
    rw [e2] at hZ
    rw [e1]
    refine lv_iload hx hb dL_law__1875 (lv_at hl 1 rfl) ?_
    refine lv_icmp_eq (tgt := 1882) hx hb dL_law__1877 (by decide) (fun _ => ?_) (fun hne => absurd ht hne)
    refine lv_iload hx hb dL_law__1882 (lv_at hl 1 rfl) ?_
    refine lv_if_ne (tgt := 1899) hx hb dL_law__1884 (by decide) (fun _ => ?_) (fun h0 => absurd h0 (by show ¬ (1 : Int32) = 0; decide))
    refine lv_goto (tgt := 3069) hx hb dL_law__1899 (by decide) ?_
    refine W.widen (k := cells + 60) (n := slots + 360) (by omega) (by omega) ?_
    exact kk _ _ _ _ _ _ hR1 hZ (lv_sub hl [2, 3, 4, 5, 6] rfl)
  · refine lv_aload_n hx hb dL_law__1846 rfl (lv_at hl 1 rfl) ?_
    refine lv_aload_n hx hb dL_law__1847 rfl (lv_at hl 0 rfl) ?_
    refine lv_iload hx hb dL_law__1848 (lv_at hl 4 rfl) ?_
    refine lv_iconst (v := 1) hx hb dL_law__1850 (by decide) ?_
    refine lv_iadd hx hb dL_law__1851 ?_
    refine va_sld hx hb hX hbl (Nat.not_le.mpr hbl) hZ.2.2.2 hi1 dL_law__1852 ?_
    refine lv_aload_n hx hb dL_law__1853 rfl (lv_at hl 3 rfl) ?_
    refine lw_i (lrunW (n := 3) (As := [.ref (gx.2.2 0), .int (xs (i + 1).toNatClampNeg), .ref qo]) (rest := []) E hT hKo hNc A hZ kw_1142 kw_0 kw_1141 ⟨by decide, by decide, by decide +kernel⟩ kw_1140 (cw_L_fetch l hst gx cO qo M v (xs (i + 1).toNatClampNeg) hfx (fun _ _ h => by cases h)) rfl hl.1 rfl (Nat.le_of_ble_eq_true rfl) ⟨by decide, by decide⟩ ⟨by show cells + 1 ≤ 601024; omega, by show slots + 6 ≤ 7293033; omega⟩ dL_law__1854) A hZ (fun H locs hZ => ?_)
    have hZ : zLS gx gr cO qo s H locs M1 N (b9.toInt64) := hZ
    refine W.widen (k := cells + 48) (n := slots + 288) (by omega) (by omega) ?_
    refine lv_istore (lv' := [(5, .int 0), (0, .ref b), (1, .ref (gx.2.2 0)), (2, .ref (gr.2.2 0)), (3, .ref qo), (4, .int i)]) hx hb dL_law__1857 hl (by decide) rfl (fun ls hl => ?_)
    refine lv_aload_n hx hb dL_law__1859 rfl (lv_at hl 3 rfl) ?_
    refine lv_aload_n hx hb dL_law__1860 rfl (lv_at hl 1 rfl) ?_
    refine lv_iload hx hb dL_law__1861 (lv_at hl 5 rfl) ?_
    refine lv_iconst (v := 1) hx hb dL_law__1863 (by decide) ?_
    refine lv_iadd hx hb dL_law__1864 ?_
    refine va_sld hx hb hX hbl (Nat.not_le.mpr hbl) hZ.2.2.2 hi1 dL_law__1865 ?_
    refine lr_i (zrunV (As := [.int (xs (i + 1).toNatClampNeg)]) (rest := []) Er (hZ.r A) (by decide) (re_0 _) rfl rfl v_X11_fetch kw_1942 (c_X11_fetch l gr N (xs (i + 1).toNatClampNeg) hfr _) rfl hl.1 rfl (Nat.le_of_ble_eq_true rfl) ⟨by decide, by decide⟩ ⟨by show _ ≤ 601024; omega, by show _ ≤ 7293033; omega⟩ dL_law__1866) A hZ (fun x9 N9 H locs hp hZ => ?_)
    obtain ⟨rfl, rfl⟩ := Prod.mk.inj hp
    refine lv_istore (lv' := [(6, .int b9), (5, .int 0), (0, .ref b), (1, .ref (gx.2.2 0)), (2, .ref (gr.2.2 0)), (3, .ref qo), (4, .int i)]) hx hb dL_law__1869 hl (by decide) rfl (fun ls hl => ?_)
    refine lv_aload_n hx hb dL_law__1871 rfl (lv_at hl 4 rfl) ?_
    refine lr_i (zrunV (As := []) (rest := []) Er (hZ.r A) (by decide) (re_0 _) rfl rfl v_X11_thrown kw_1358 (c_X11_thrown l gr N1 (r := N1 0 0) rfl _) rfl hl.1 rfl (Nat.le_of_ble_eq_true rfl) ⟨by decide, by decide⟩ ⟨by show _ ≤ 601024; omega, by show _ ≤ 7293033; omega⟩ dL_law__1872) A hZ (fun x9 N9 H locs hp hZ => ?_)
    obtain ⟨e1, e2⟩ := hp
    rw [e2] at hZ
    rw [e1]
    refine lv_iload hx hb dL_law__1875 (lv_at hl 1 rfl) ?_
    refine lv_icmp_eq (tgt := 1882) hx hb dL_law__1877 (by decide) (fun _ => ?_) (fun hne => absurd ht hne)
    refine lv_iload hx hb dL_law__1882 (lv_at hl 1 rfl) ?_
    refine lv_if_ne (tgt := 1899) hx hb dL_law__1884 (by decide) (fun hne => absurd rfl hne) (fun _ => ?_)
    refine lv_aload_n hx hb dL_law__1887 rfl (lv_at hl 5 rfl) ?_
    refine lv_iconst (v := 0) hx hb dL_law__1888 (by decide) ?_
    refine va_lald hx hb hKo hZ.2.2.1 0 0 rfl rfl (zin_of (by decide)) dL_law__1889 ?_
    refine lv_iload hx hb dL_law__1890 (lv_at hl 0 rfl) ?_
    refine lv_i2l hx hb dL_law__1892 rfl ?_
    refine W.lcmp hx hb dL_law__1893 ?_
    refine lv_if_eq (tgt := 1899) hx hb dL_law__1894 (by decide) (fun _ => ?_) (fun hne => absurd (zcmp_self _) hne)
    refine lv_goto (tgt := 3069) hx hb dL_law__1899 (by decide) ?_
    refine W.widen (k := cells + 60) (n := slots + 360) (by omega) (by omega) ?_
    exact kk _ _ _ _ _ _ hR1 hZ (lv_sub hl [2, 3, 4, 5, 6] rfl)
def zs_send (Rel Rel' : zM → zM → Prop) : Prop := ∀ (M N : zM), Rel M N → ∀ x1 : Int32, zsT Rel' (f_X10_send M x1) (f_X11_send N x1) (fun k => k = 0 ∨ k = 1) (fun k => if k = 0 then 1 else 2)
set_option maxRecDepth 100000 in
set_option maxHeartbeats 4000000 in
theorem lc_send (C : zLC p l s m args c gx gr cO qo b L xs Ts) (hz : zs_send Rel Rel') (hR : Rel M N) (hZ : zLS gx gr cO qo s H locs M N v) (hl : lv_has ls 7 (zLl b gx gr qo i)) (hi1 : vp_in (i + 1) L) (hi2 : vp_in (i + 2) L) (hi3 : vp_in (i + 3) L) (hi4 : vp_in (i + 4) L) (hi5 : vp_in (i + 5) L) (hc : cells + 60 ≤ 601024) (hsl : slots + 360 ≤ 7293033) (kk : zLK p l e s m args below meth c Q Rel' gx gr cO qo b i cells slots) : W p l e room_1 s m args below meth c H locs cells slots Q (F0 m 1902 ls []) := by
  obtain ⟨hst, E, Er, hT, S, hKo, hNc, A, hX, hbl⟩ := C
  have hx := E.1.1
  have hb := E.1.2.1
  have hl : lv_has ls 7 [(0, .ref b), (1, .ref (gx.2.2 0)), (2, .ref (gr.2.2 0)), (3, .ref qo), (4, .int i)] := hl
  obtain ⟨M1, b9, N1, hfr, hR1, hcc⟩ := hz M N hR (xs (i + 1).toNatClampNeg) 
  rcases hcc with ⟨k0, hfx, hk0, ht⟩ | ⟨hfx, ht⟩
  · refine lv_aload_n hx hb dL_law__1902 rfl (lv_at hl 1 rfl) ?_
    refine lv_aload_n hx hb dL_law__1903 rfl (lv_at hl 0 rfl) ?_
    refine lv_iload hx hb dL_law__1904 (lv_at hl 4 rfl) ?_
    refine lv_iconst (v := 1) hx hb dL_law__1906 (by decide) ?_
    refine lv_iadd hx hb dL_law__1907 ?_
    refine va_sld hx hb hX hbl (Nat.not_le.mpr hbl) hZ.2.2.2 hi1 dL_law__1908 ?_
    refine lv_aload_n hx hb dL_law__1909 rfl (lv_at hl 3 rfl) ?_
    refine lw_i (lrunW (n := 3) (As := [.ref (gx.2.2 0), .int (xs (i + 1).toNatClampNeg), .ref qo]) (rest := []) E hT hKo hNc A hZ kw_1155 kw_0 kw_1154 ⟨by decide, by decide, by decide +kernel⟩ kw_1153 (cw_L_send l hst gx cO qo M v (xs (i + 1).toNatClampNeg) hfx (fun _ _ h => by cases h; exact hk0)) rfl hl.1 rfl (Nat.le_of_ble_eq_true rfl) ⟨by decide, by decide⟩ ⟨by show cells + 10 ≤ 601024; omega, by show slots + 60 ≤ 7293033; omega⟩ dL_law__1910) A hZ (fun H locs hZ => ?_)
    have hZ : zLS gx gr cO qo s H locs M1 N v := hZ
    refine W.widen (k := cells + 48) (n := slots + 288) (by omega) (by omega) ?_
    refine lv_istore (lv' := [(5, .int ((fun k => if k = 0 then 1 else 2) k0)), (0, .ref b), (1, .ref (gx.2.2 0)), (2, .ref (gr.2.2 0)), (3, .ref qo), (4, .int i)]) hx hb dL_law__1913 hl (by decide) rfl (fun ls hl => ?_)
    refine lv_aload_n hx hb dL_law__1915 rfl (lv_at hl 3 rfl) ?_
    refine lv_aload_n hx hb dL_law__1916 rfl (lv_at hl 1 rfl) ?_
    refine lv_iload hx hb dL_law__1917 (lv_at hl 5 rfl) ?_
    refine lv_iconst (v := 1) hx hb dL_law__1919 (by decide) ?_
    refine lv_iadd hx hb dL_law__1920 ?_
    refine va_sld hx hb hX hbl (Nat.not_le.mpr hbl) hZ.2.2.2 hi1 dL_law__1921 ?_
    refine lr_i (zrunV (As := [.int (xs (i + 1).toNatClampNeg)]) (rest := []) Er (hZ.r A) (by decide) (re_0 _) rfl rfl v_X11_send kw_1950 (c_X11_send l gr N (xs (i + 1).toNatClampNeg) hfr _) rfl hl.1 rfl (Nat.le_of_ble_eq_true rfl) ⟨by decide, by decide⟩ ⟨by show _ ≤ 601024; omega, by show _ ≤ 7293033; omega⟩ dL_law__1922) A hZ (fun x9 N9 H locs hp hZ => ?_)
    obtain ⟨rfl, rfl⟩ := Prod.mk.inj hp
    refine lv_istore (lv' := [(6, .int b9), (5, .int ((fun k => if k = 0 then 1 else 2) k0)), (0, .ref b), (1, .ref (gx.2.2 0)), (2, .ref (gr.2.2 0)), (3, .ref qo), (4, .int i)]) hx hb dL_law__1925 hl (by decide) rfl (fun ls hl => ?_)
    refine lv_aload_n hx hb dL_law__1927 rfl (lv_at hl 4 rfl) ?_
    refine lr_i (zrunV (As := []) (rest := []) Er (hZ.r A) (by decide) (re_0 _) rfl rfl v_X11_thrown kw_1358 (c_X11_thrown l gr N1 (r := N1 0 0) rfl _) rfl hl.1 rfl (Nat.le_of_ble_eq_true rfl) ⟨by decide, by decide⟩ ⟨by show _ ≤ 601024; omega, by show _ ≤ 7293033; omega⟩ dL_law__1928) A hZ (fun x9 N9 H locs hp hZ => ?_)
    obtain ⟨e1, e2⟩ := hp
    rw [e2] at hZ
    rw [e1]
    refine lv_iload hx hb dL_law__1931 (lv_at hl 1 rfl) ?_
    refine lv_icmp_eq (tgt := 1938) hx hb dL_law__1933 (by decide) (fun _ => ?_) (fun hne => absurd ht hne)
    refine lv_iload hx hb dL_law__1938 (lv_at hl 1 rfl) ?_
    refine lv_if_ne (tgt := 1955) hx hb dL_law__1940 (by decide) (fun _ => ?_) (fun h0 => absurd h0 (by show ¬ (if k0 = 0 then (1 : Int32) else 2) = 0; split <;> decide))
    refine lv_goto (tgt := 3069) hx hb dL_law__1955 (by decide) ?_
    refine W.widen (k := cells + 60) (n := slots + 360) (by omega) (by omega) ?_
    exact kk _ _ _ _ _ _ hR1 hZ (lv_sub hl [2, 3, 4, 5, 6] rfl)
  · refine lv_aload_n hx hb dL_law__1902 rfl (lv_at hl 1 rfl) ?_
    refine lv_aload_n hx hb dL_law__1903 rfl (lv_at hl 0 rfl) ?_
    refine lv_iload hx hb dL_law__1904 (lv_at hl 4 rfl) ?_
    refine lv_iconst (v := 1) hx hb dL_law__1906 (by decide) ?_
    refine lv_iadd hx hb dL_law__1907 ?_
    refine va_sld hx hb hX hbl (Nat.not_le.mpr hbl) hZ.2.2.2 hi1 dL_law__1908 ?_
    refine lv_aload_n hx hb dL_law__1909 rfl (lv_at hl 3 rfl) ?_
    refine lw_i (lrunW (n := 3) (As := [.ref (gx.2.2 0), .int (xs (i + 1).toNatClampNeg), .ref qo]) (rest := []) E hT hKo hNc A hZ kw_1155 kw_0 kw_1154 ⟨by decide, by decide, by decide +kernel⟩ kw_1153 (cw_L_send l hst gx cO qo M v (xs (i + 1).toNatClampNeg) hfx (fun _ _ h => by cases h)) rfl hl.1 rfl (Nat.le_of_ble_eq_true rfl) ⟨by decide, by decide⟩ ⟨by show cells + 10 ≤ 601024; omega, by show slots + 60 ≤ 7293033; omega⟩ dL_law__1910) A hZ (fun H locs hZ => ?_)
    have hZ : zLS gx gr cO qo s H locs M1 N (b9.toInt64) := hZ
    refine W.widen (k := cells + 48) (n := slots + 288) (by omega) (by omega) ?_
    refine lv_istore (lv' := [(5, .int 0), (0, .ref b), (1, .ref (gx.2.2 0)), (2, .ref (gr.2.2 0)), (3, .ref qo), (4, .int i)]) hx hb dL_law__1913 hl (by decide) rfl (fun ls hl => ?_)
    refine lv_aload_n hx hb dL_law__1915 rfl (lv_at hl 3 rfl) ?_
    refine lv_aload_n hx hb dL_law__1916 rfl (lv_at hl 1 rfl) ?_
    refine lv_iload hx hb dL_law__1917 (lv_at hl 5 rfl) ?_
    refine lv_iconst (v := 1) hx hb dL_law__1919 (by decide) ?_
    refine lv_iadd hx hb dL_law__1920 ?_
    refine va_sld hx hb hX hbl (Nat.not_le.mpr hbl) hZ.2.2.2 hi1 dL_law__1921 ?_
    refine lr_i (zrunV (As := [.int (xs (i + 1).toNatClampNeg)]) (rest := []) Er (hZ.r A) (by decide) (re_0 _) rfl rfl v_X11_send kw_1950 (c_X11_send l gr N (xs (i + 1).toNatClampNeg) hfr _) rfl hl.1 rfl (Nat.le_of_ble_eq_true rfl) ⟨by decide, by decide⟩ ⟨by show _ ≤ 601024; omega, by show _ ≤ 7293033; omega⟩ dL_law__1922) A hZ (fun x9 N9 H locs hp hZ => ?_)
    obtain ⟨rfl, rfl⟩ := Prod.mk.inj hp
    refine lv_istore (lv' := [(6, .int b9), (5, .int 0), (0, .ref b), (1, .ref (gx.2.2 0)), (2, .ref (gr.2.2 0)), (3, .ref qo), (4, .int i)]) hx hb dL_law__1925 hl (by decide) rfl (fun ls hl => ?_)
    refine lv_aload_n hx hb dL_law__1927 rfl (lv_at hl 4 rfl) ?_
    refine lr_i (zrunV (As := []) (rest := []) Er (hZ.r A) (by decide) (re_0 _) rfl rfl v_X11_thrown kw_1358 (c_X11_thrown l gr N1 (r := N1 0 0) rfl _) rfl hl.1 rfl (Nat.le_of_ble_eq_true rfl) ⟨by decide, by decide⟩ ⟨by show _ ≤ 601024; omega, by show _ ≤ 7293033; omega⟩ dL_law__1928) A hZ (fun x9 N9 H locs hp hZ => ?_)
    obtain ⟨e1, e2⟩ := hp
    rw [e2] at hZ
    rw [e1]
    refine lv_iload hx hb dL_law__1931 (lv_at hl 1 rfl) ?_
    refine lv_icmp_eq (tgt := 1938) hx hb dL_law__1933 (by decide) (fun _ => ?_) (fun hne => absurd ht hne)
    refine lv_iload hx hb dL_law__1938 (lv_at hl 1 rfl) ?_
    refine lv_if_ne (tgt := 1955) hx hb dL_law__1940 (by decide) (fun hne => absurd rfl hne) (fun _ => ?_)
    refine lv_aload_n hx hb dL_law__1943 rfl (lv_at hl 5 rfl) ?_
    refine lv_iconst (v := 0) hx hb dL_law__1944 (by decide) ?_
    refine va_lald hx hb hKo hZ.2.2.1 0 0 rfl rfl (zin_of (by decide)) dL_law__1945 ?_
    refine lv_iload hx hb dL_law__1946 (lv_at hl 0 rfl) ?_
    refine lv_i2l hx hb dL_law__1948 rfl ?_
    refine W.lcmp hx hb dL_law__1949 ?_
    refine lv_if_eq (tgt := 1955) hx hb dL_law__1950 (by decide) (fun _ => ?_) (fun hne => absurd (zcmp_self _) hne)
    refine lv_goto (tgt := 3069) hx hb dL_law__1955 (by decide) ?_
    refine W.widen (k := cells + 60) (n := slots + 360) (by omega) (by omega) ?_
    exact kk _ _ _ _ _ _ hR1 hZ (lv_sub hl [2, 3, 4, 5, 6] rfl)
def zs_most (Rel Rel' : zM → zM → Prop) : Prop := ∀ (M N : zM), Rel M N → ∀ x1 x2 : Int32, zsT Rel' (f_X10_most M x1 x2) (f_X11_most N x1 x2) (fun k => k = 0) (fun _ => 1)
set_option maxRecDepth 100000 in
set_option maxHeartbeats 4000000 in
theorem lc_most (C : zLC p l s m args c gx gr cO qo b L xs Ts) (hz : zs_most Rel Rel') (hR : Rel M N) (hZ : zLS gx gr cO qo s H locs M N v) (hl : lv_has ls 7 (zLl b gx gr qo i)) (hi1 : vp_in (i + 1) L) (hi2 : vp_in (i + 2) L) (hi3 : vp_in (i + 3) L) (hi4 : vp_in (i + 4) L) (hi5 : vp_in (i + 5) L) (hc : cells + 60 ≤ 601024) (hsl : slots + 360 ≤ 7293033) (kk : zLK p l e s m args below meth c Q Rel' gx gr cO qo b i cells slots) : W p l e room_1 s m args below meth c H locs cells slots Q (F0 m 1958 ls []) := by
  obtain ⟨hst, E, Er, hT, S, hKo, hNc, A, hX, hbl⟩ := C
  have hx := E.1.1
  have hb := E.1.2.1
  have hl : lv_has ls 7 [(0, .ref b), (1, .ref (gx.2.2 0)), (2, .ref (gr.2.2 0)), (3, .ref qo), (4, .int i)] := hl
  obtain ⟨M1, b9, N1, hfr, hR1, hcc⟩ := hz M N hR (xs (i + 1).toNatClampNeg) (xs (i + 2).toNatClampNeg) 
  rcases hcc with ⟨k0, hfx, hk0, ht⟩ | ⟨hfx, ht⟩
  · refine lv_aload_n hx hb dL_law__1958 rfl (lv_at hl 1 rfl) ?_
    refine lv_aload_n hx hb dL_law__1959 rfl (lv_at hl 0 rfl) ?_
    refine lv_iload hx hb dL_law__1960 (lv_at hl 4 rfl) ?_
    refine lv_iconst (v := 1) hx hb dL_law__1962 (by decide) ?_
    refine lv_iadd hx hb dL_law__1963 ?_
    refine va_sld hx hb hX hbl (Nat.not_le.mpr hbl) hZ.2.2.2 hi1 dL_law__1964 ?_
    refine lv_aload_n hx hb dL_law__1965 rfl (lv_at hl 0 rfl) ?_
    refine lv_iload hx hb dL_law__1966 (lv_at hl 4 rfl) ?_
    refine lv_iconst (v := 2) hx hb dL_law__1968 (by decide) ?_
    refine lv_iadd hx hb dL_law__1969 ?_
    refine va_sld hx hb hX hbl (Nat.not_le.mpr hbl) hZ.2.2.2 hi2 dL_law__1970 ?_
    refine lv_aload_n hx hb dL_law__1971 rfl (lv_at hl 3 rfl) ?_
    refine lw_i (lrunW (n := 4) (As := [.ref (gx.2.2 0), .int (xs (i + 1).toNatClampNeg), .int (xs (i + 2).toNatClampNeg), .ref qo]) (rest := []) E hT hKo hNc A hZ kw_1200 kw_0 kw_1199 ⟨by decide, by decide, by decide +kernel⟩ kw_1198 (cw_L_most l hst gx cO qo M v (xs (i + 1).toNatClampNeg) (xs (i + 2).toNatClampNeg) hfx (fun _ _ h => by cases h; exact hk0)) rfl hl.1 rfl (Nat.le_of_ble_eq_true rfl) ⟨by decide, by decide⟩ ⟨by show cells + 1 ≤ 601024; omega, by show slots + 6 ≤ 7293033; omega⟩ dL_law__1972) A hZ (fun H locs hZ => ?_)
    have hZ : zLS gx gr cO qo s H locs M1 N v := hZ
    refine W.widen (k := cells + 48) (n := slots + 288) (by omega) (by omega) ?_
    refine lv_istore (lv' := [(5, .int ((fun _ => 1) k0)), (0, .ref b), (1, .ref (gx.2.2 0)), (2, .ref (gr.2.2 0)), (3, .ref qo), (4, .int i)]) hx hb dL_law__1975 hl (by decide) rfl (fun ls hl => ?_)
    refine lv_aload_n hx hb dL_law__1977 rfl (lv_at hl 3 rfl) ?_
    refine lv_aload_n hx hb dL_law__1978 rfl (lv_at hl 1 rfl) ?_
    refine lv_iload hx hb dL_law__1979 (lv_at hl 5 rfl) ?_
    refine lv_iconst (v := 1) hx hb dL_law__1981 (by decide) ?_
    refine lv_iadd hx hb dL_law__1982 ?_
    refine va_sld hx hb hX hbl (Nat.not_le.mpr hbl) hZ.2.2.2 hi1 dL_law__1983 ?_
    refine lv_aload_n hx hb dL_law__1984 rfl (lv_at hl 1 rfl) ?_
    refine lv_iload hx hb dL_law__1985 (lv_at hl 5 rfl) ?_
    refine lv_iconst (v := 2) hx hb dL_law__1987 (by decide) ?_
    refine lv_iadd hx hb dL_law__1988 ?_
    refine va_sld hx hb hX hbl (Nat.not_le.mpr hbl) hZ.2.2.2 hi2 dL_law__1989 ?_
    refine lr_i (zrunV (As := [.int (xs (i + 1).toNatClampNeg), .int (xs (i + 2).toNatClampNeg)]) (rest := []) Er (hZ.r A) (by decide) (re_0 _) rfl rfl v_X11_most kw_1966 (c_X11_most l gr N (xs (i + 1).toNatClampNeg) (xs (i + 2).toNatClampNeg) hfr _) rfl hl.1 rfl (Nat.le_of_ble_eq_true rfl) ⟨by decide, by decide⟩ ⟨by show _ ≤ 601024; omega, by show _ ≤ 7293033; omega⟩ dL_law__1990) A hZ (fun x9 N9 H locs hp hZ => ?_)
    obtain ⟨rfl, rfl⟩ := Prod.mk.inj hp
    refine lv_istore (lv' := [(6, .int b9), (5, .int ((fun _ => 1) k0)), (0, .ref b), (1, .ref (gx.2.2 0)), (2, .ref (gr.2.2 0)), (3, .ref qo), (4, .int i)]) hx hb dL_law__1993 hl (by decide) rfl (fun ls hl => ?_)
    refine lv_aload_n hx hb dL_law__1995 rfl (lv_at hl 4 rfl) ?_
    refine lr_i (zrunV (As := []) (rest := []) Er (hZ.r A) (by decide) (re_0 _) rfl rfl v_X11_thrown kw_1358 (c_X11_thrown l gr N1 (r := N1 0 0) rfl _) rfl hl.1 rfl (Nat.le_of_ble_eq_true rfl) ⟨by decide, by decide⟩ ⟨by show _ ≤ 601024; omega, by show _ ≤ 7293033; omega⟩ dL_law__1996) A hZ (fun x9 N9 H locs hp hZ => ?_)
    obtain ⟨e1, e2⟩ := hp
    rw [e2] at hZ
    rw [e1]
    refine lv_iload hx hb dL_law__1999 (lv_at hl 1 rfl) ?_
    refine lv_icmp_eq (tgt := 2006) hx hb dL_law__2001 (by decide) (fun _ => ?_) (fun hne => absurd ht hne)
    refine lv_iload hx hb dL_law__2006 (lv_at hl 1 rfl) ?_
    refine lv_if_ne (tgt := 2023) hx hb dL_law__2008 (by decide) (fun _ => ?_) (fun h0 => absurd h0 (by show ¬ (1 : Int32) = 0; decide))
    refine lv_goto (tgt := 3069) hx hb dL_law__2023 (by decide) ?_
    refine W.widen (k := cells + 60) (n := slots + 360) (by omega) (by omega) ?_
    exact kk _ _ _ _ _ _ hR1 hZ (lv_sub hl [2, 3, 4, 5, 6] rfl)
  · refine lv_aload_n hx hb dL_law__1958 rfl (lv_at hl 1 rfl) ?_
    refine lv_aload_n hx hb dL_law__1959 rfl (lv_at hl 0 rfl) ?_
    refine lv_iload hx hb dL_law__1960 (lv_at hl 4 rfl) ?_
    refine lv_iconst (v := 1) hx hb dL_law__1962 (by decide) ?_
    refine lv_iadd hx hb dL_law__1963 ?_
    refine va_sld hx hb hX hbl (Nat.not_le.mpr hbl) hZ.2.2.2 hi1 dL_law__1964 ?_
    refine lv_aload_n hx hb dL_law__1965 rfl (lv_at hl 0 rfl) ?_
    refine lv_iload hx hb dL_law__1966 (lv_at hl 4 rfl) ?_
    refine lv_iconst (v := 2) hx hb dL_law__1968 (by decide) ?_
    refine lv_iadd hx hb dL_law__1969 ?_
    refine va_sld hx hb hX hbl (Nat.not_le.mpr hbl) hZ.2.2.2 hi2 dL_law__1970 ?_
    refine lv_aload_n hx hb dL_law__1971 rfl (lv_at hl 3 rfl) ?_
    refine lw_i (lrunW (n := 4) (As := [.ref (gx.2.2 0), .int (xs (i + 1).toNatClampNeg), .int (xs (i + 2).toNatClampNeg), .ref qo]) (rest := []) E hT hKo hNc A hZ kw_1200 kw_0 kw_1199 ⟨by decide, by decide, by decide +kernel⟩ kw_1198 (cw_L_most l hst gx cO qo M v (xs (i + 1).toNatClampNeg) (xs (i + 2).toNatClampNeg) hfx (fun _ _ h => by cases h)) rfl hl.1 rfl (Nat.le_of_ble_eq_true rfl) ⟨by decide, by decide⟩ ⟨by show cells + 1 ≤ 601024; omega, by show slots + 6 ≤ 7293033; omega⟩ dL_law__1972) A hZ (fun H locs hZ => ?_)
    have hZ : zLS gx gr cO qo s H locs M1 N (b9.toInt64) := hZ
    refine W.widen (k := cells + 48) (n := slots + 288) (by omega) (by omega) ?_
    refine lv_istore (lv' := [(5, .int 0), (0, .ref b), (1, .ref (gx.2.2 0)), (2, .ref (gr.2.2 0)), (3, .ref qo), (4, .int i)]) hx hb dL_law__1975 hl (by decide) rfl (fun ls hl => ?_)
    refine lv_aload_n hx hb dL_law__1977 rfl (lv_at hl 3 rfl) ?_
    refine lv_aload_n hx hb dL_law__1978 rfl (lv_at hl 1 rfl) ?_
    refine lv_iload hx hb dL_law__1979 (lv_at hl 5 rfl) ?_
    refine lv_iconst (v := 1) hx hb dL_law__1981 (by decide) ?_
    refine lv_iadd hx hb dL_law__1982 ?_
    refine va_sld hx hb hX hbl (Nat.not_le.mpr hbl) hZ.2.2.2 hi1 dL_law__1983 ?_
    refine lv_aload_n hx hb dL_law__1984 rfl (lv_at hl 1 rfl) ?_
    refine lv_iload hx hb dL_law__1985 (lv_at hl 5 rfl) ?_
    refine lv_iconst (v := 2) hx hb dL_law__1987 (by decide) ?_
    refine lv_iadd hx hb dL_law__1988 ?_
    refine va_sld hx hb hX hbl (Nat.not_le.mpr hbl) hZ.2.2.2 hi2 dL_law__1989 ?_
    refine lr_i (zrunV (As := [.int (xs (i + 1).toNatClampNeg), .int (xs (i + 2).toNatClampNeg)]) (rest := []) Er (hZ.r A) (by decide) (re_0 _) rfl rfl v_X11_most kw_1966 (c_X11_most l gr N (xs (i + 1).toNatClampNeg) (xs (i + 2).toNatClampNeg) hfr _) rfl hl.1 rfl (Nat.le_of_ble_eq_true rfl) ⟨by decide, by decide⟩ ⟨by show _ ≤ 601024; omega, by show _ ≤ 7293033; omega⟩ dL_law__1990) A hZ (fun x9 N9 H locs hp hZ => ?_)
    obtain ⟨rfl, rfl⟩ := Prod.mk.inj hp
    refine lv_istore (lv' := [(6, .int b9), (5, .int 0), (0, .ref b), (1, .ref (gx.2.2 0)), (2, .ref (gr.2.2 0)), (3, .ref qo), (4, .int i)]) hx hb dL_law__1993 hl (by decide) rfl (fun ls hl => ?_)
    refine lv_aload_n hx hb dL_law__1995 rfl (lv_at hl 4 rfl) ?_
    refine lr_i (zrunV (As := []) (rest := []) Er (hZ.r A) (by decide) (re_0 _) rfl rfl v_X11_thrown kw_1358 (c_X11_thrown l gr N1 (r := N1 0 0) rfl _) rfl hl.1 rfl (Nat.le_of_ble_eq_true rfl) ⟨by decide, by decide⟩ ⟨by show _ ≤ 601024; omega, by show _ ≤ 7293033; omega⟩ dL_law__1996) A hZ (fun x9 N9 H locs hp hZ => ?_)
    obtain ⟨e1, e2⟩ := hp
    rw [e2] at hZ
    rw [e1]
    refine lv_iload hx hb dL_law__1999 (lv_at hl 1 rfl) ?_
    refine lv_icmp_eq (tgt := 2006) hx hb dL_law__2001 (by decide) (fun _ => ?_) (fun hne => absurd ht hne)
    refine lv_iload hx hb dL_law__2006 (lv_at hl 1 rfl) ?_
    refine lv_if_ne (tgt := 2023) hx hb dL_law__2008 (by decide) (fun hne => absurd rfl hne) (fun _ => ?_)
    refine lv_aload_n hx hb dL_law__2011 rfl (lv_at hl 5 rfl) ?_
    refine lv_iconst (v := 0) hx hb dL_law__2012 (by decide) ?_
    refine va_lald hx hb hKo hZ.2.2.1 0 0 rfl rfl (zin_of (by decide)) dL_law__2013 ?_
    refine lv_iload hx hb dL_law__2014 (lv_at hl 0 rfl) ?_
    refine lv_i2l hx hb dL_law__2016 rfl ?_
    refine W.lcmp hx hb dL_law__2017 ?_
    refine lv_if_eq (tgt := 2023) hx hb dL_law__2018 (by decide) (fun _ => ?_) (fun hne => absurd (zcmp_self _) hne)
    refine lv_goto (tgt := 3069) hx hb dL_law__2023 (by decide) ?_
    refine W.widen (k := cells + 60) (n := slots + 360) (by omega) (by omega) ?_
    exact kk _ _ _ _ _ _ hR1 hZ (lv_sub hl [2, 3, 4, 5, 6] rfl)
def zs_came (Rel Rel' : zM → zM → Prop) : Prop := ∀ (M N : zM), Rel M N → ∀ x1 : Int32, (x1 = 0 ∨ x1 = 1) → zsT Rel' (f_X10_came M x1) (f_X11_came N x1) (fun k => k = 1) (fun _ => 1)
set_option maxRecDepth 100000 in
set_option maxHeartbeats 4000000 in
theorem lc_came (C : zLC p l s m args c gx gr cO qo b L xs Ts) (hz : zs_came Rel Rel') (hR : Rel M N) (hZ : zLS gx gr cO qo s H locs M N v) (hl : lv_has ls 7 (zLl b gx gr qo i)) (hi1 : vp_in (i + 1) L) (hi2 : vp_in (i + 2) L) (hi3 : vp_in (i + 3) L) (hi4 : vp_in (i + 4) L) (hi5 : vp_in (i + 5) L) (hc : cells + 60 ≤ 601024) (hsl : slots + 360 ≤ 7293033) (kk : zLK p l e s m args below meth c Q Rel' gx gr cO qo b i cells slots) : W p l e room_1 s m args below meth c H locs cells slots Q (F0 m 2026 ls []) := by
  obtain ⟨hst, E, Er, hT, S, hKo, hNc, A, hX, hbl⟩ := C
  have hx := E.1.1
  have hb := E.1.2.1
  have hl : lv_has ls 7 [(0, .ref b), (1, .ref (gx.2.2 0)), (2, .ref (gr.2.2 0)), (3, .ref qo), (4, .int i)] := hl
  by_cases hb1 : (xs (i + 1).toNatClampNeg) = 0
  · obtain ⟨M1, b9, N1, hfr, hR1, hcc⟩ := hz M N hR 0 (Or.inl rfl)
    rcases hcc with ⟨k0, hfx, hk0, ht⟩ | ⟨hfx, ht⟩
    · refine lv_aload_n hx hb dL_law__2026 rfl (lv_at hl 1 rfl) ?_
      refine lv_aload_n hx hb dL_law__2027 rfl (lv_at hl 0 rfl) ?_
      refine lv_iload hx hb dL_law__2028 (lv_at hl 4 rfl) ?_
      refine lv_iconst (v := 1) hx hb dL_law__2030 (by decide) ?_
      refine lv_iadd hx hb dL_law__2031 ?_
      refine va_sld hx hb hX hbl (Nat.not_le.mpr hbl) hZ.2.2.2 hi1 dL_law__2032 ?_
      refine lv_if_eq (tgt := 2040) hx hb dL_law__2033 (by decide) (fun _ => ?_) (fun hne => absurd hb1 hne)
      refine lv_iconst (v := 0) hx hb dL_law__2040 (by decide) ?_
      refine lv_aload_n hx hb dL_law__2041 rfl (lv_at hl 3 rfl) ?_
      refine lw_i (lrunW (n := 3) (As := [.ref (gx.2.2 0), .int 0, .ref qo]) (rest := []) E hT hKo hNc A hZ kw_1224 kw_0 kw_1223 ⟨by decide, by decide, by decide +kernel⟩ kw_1222 (cw_L_came l hst gx cO qo M v 0 hfx (fun _ _ h => by cases h; exact hk0)) rfl hl.1 rfl (Nat.le_of_ble_eq_true rfl) ⟨by decide, by decide⟩ ⟨by show cells + 46 ≤ 601024; omega, by show slots + 276 ≤ 7293033; omega⟩ dL_law__2042) A hZ (fun H locs hZ => ?_)
      have hZ : zLS gx gr cO qo s H locs M1 N v := hZ
      refine W.widen (k := cells + 48) (n := slots + 288) (by omega) (by omega) ?_
      refine lv_istore (lv' := [(5, .int ((fun _ => 1) k0)), (0, .ref b), (1, .ref (gx.2.2 0)), (2, .ref (gr.2.2 0)), (3, .ref qo), (4, .int i)]) hx hb dL_law__2045 hl (by decide) rfl (fun ls hl => ?_)
      refine lv_aload_n hx hb dL_law__2047 rfl (lv_at hl 3 rfl) ?_
      refine lv_aload_n hx hb dL_law__2048 rfl (lv_at hl 1 rfl) ?_
      refine lv_iload hx hb dL_law__2049 (lv_at hl 5 rfl) ?_
      refine lv_iconst (v := 1) hx hb dL_law__2051 (by decide) ?_
      refine lv_iadd hx hb dL_law__2052 ?_
      refine va_sld hx hb hX hbl (Nat.not_le.mpr hbl) hZ.2.2.2 hi1 dL_law__2053 ?_
      refine lv_if_eq (tgt := 2061) hx hb dL_law__2054 (by decide) (fun _ => ?_) (fun hne => absurd hb1 hne)
      refine lv_iconst (v := 0) hx hb dL_law__2061 (by decide) ?_
      refine lr_i (zrunV (As := [.int 0]) (rest := []) Er (hZ.r A) (by decide) (re_0 _) rfl rfl v_X11_came kw_1978 (c_X11_came l gr N 0 hfr _) rfl hl.1 rfl (Nat.le_of_ble_eq_true rfl) ⟨by decide, by decide⟩ ⟨by show _ ≤ 601024; omega, by show _ ≤ 7293033; omega⟩ dL_law__2062) A hZ (fun x9 N9 H locs hp hZ => ?_)
      obtain ⟨rfl, rfl⟩ := Prod.mk.inj hp
      refine lv_istore (lv' := [(6, .int b9), (5, .int ((fun _ => 1) k0)), (0, .ref b), (1, .ref (gx.2.2 0)), (2, .ref (gr.2.2 0)), (3, .ref qo), (4, .int i)]) hx hb dL_law__2065 hl (by decide) rfl (fun ls hl => ?_)
      refine lv_aload_n hx hb dL_law__2067 rfl (lv_at hl 4 rfl) ?_
      refine lr_i (zrunV (As := []) (rest := []) Er (hZ.r A) (by decide) (re_0 _) rfl rfl v_X11_thrown kw_1358 (c_X11_thrown l gr N1 (r := N1 0 0) rfl _) rfl hl.1 rfl (Nat.le_of_ble_eq_true rfl) ⟨by decide, by decide⟩ ⟨by show _ ≤ 601024; omega, by show _ ≤ 7293033; omega⟩ dL_law__2068) A hZ (fun x9 N9 H locs hp hZ => ?_)
      obtain ⟨e1, e2⟩ := hp
      rw [e2] at hZ
      rw [e1]
      refine lv_iload hx hb dL_law__2071 (lv_at hl 1 rfl) ?_
      refine lv_icmp_eq (tgt := 2078) hx hb dL_law__2073 (by decide) (fun _ => ?_) (fun hne => absurd ht hne)
      refine lv_iload hx hb dL_law__2078 (lv_at hl 1 rfl) ?_
      refine lv_if_ne (tgt := 2095) hx hb dL_law__2080 (by decide) (fun _ => ?_) (fun h0 => absurd h0 (by show ¬ (1 : Int32) = 0; decide))
      refine lv_goto (tgt := 3069) hx hb dL_law__2095 (by decide) ?_
      refine W.widen (k := cells + 60) (n := slots + 360) (by omega) (by omega) ?_
      exact kk _ _ _ _ _ _ hR1 hZ (lv_sub hl [2, 3, 4, 5, 6] rfl)
    · refine lv_aload_n hx hb dL_law__2026 rfl (lv_at hl 1 rfl) ?_
      refine lv_aload_n hx hb dL_law__2027 rfl (lv_at hl 0 rfl) ?_
      refine lv_iload hx hb dL_law__2028 (lv_at hl 4 rfl) ?_
      refine lv_iconst (v := 1) hx hb dL_law__2030 (by decide) ?_
      refine lv_iadd hx hb dL_law__2031 ?_
      refine va_sld hx hb hX hbl (Nat.not_le.mpr hbl) hZ.2.2.2 hi1 dL_law__2032 ?_
      refine lv_if_eq (tgt := 2040) hx hb dL_law__2033 (by decide) (fun _ => ?_) (fun hne => absurd hb1 hne)
      refine lv_iconst (v := 0) hx hb dL_law__2040 (by decide) ?_
      refine lv_aload_n hx hb dL_law__2041 rfl (lv_at hl 3 rfl) ?_
      refine lw_i (lrunW (n := 3) (As := [.ref (gx.2.2 0), .int 0, .ref qo]) (rest := []) E hT hKo hNc A hZ kw_1224 kw_0 kw_1223 ⟨by decide, by decide, by decide +kernel⟩ kw_1222 (cw_L_came l hst gx cO qo M v 0 hfx (fun _ _ h => by cases h)) rfl hl.1 rfl (Nat.le_of_ble_eq_true rfl) ⟨by decide, by decide⟩ ⟨by show cells + 46 ≤ 601024; omega, by show slots + 276 ≤ 7293033; omega⟩ dL_law__2042) A hZ (fun H locs hZ => ?_)
      have hZ : zLS gx gr cO qo s H locs M1 N (b9.toInt64) := hZ
      refine W.widen (k := cells + 48) (n := slots + 288) (by omega) (by omega) ?_
      refine lv_istore (lv' := [(5, .int 0), (0, .ref b), (1, .ref (gx.2.2 0)), (2, .ref (gr.2.2 0)), (3, .ref qo), (4, .int i)]) hx hb dL_law__2045 hl (by decide) rfl (fun ls hl => ?_)
      refine lv_aload_n hx hb dL_law__2047 rfl (lv_at hl 3 rfl) ?_
      refine lv_aload_n hx hb dL_law__2048 rfl (lv_at hl 1 rfl) ?_
      refine lv_iload hx hb dL_law__2049 (lv_at hl 5 rfl) ?_
      refine lv_iconst (v := 1) hx hb dL_law__2051 (by decide) ?_
      refine lv_iadd hx hb dL_law__2052 ?_
      refine va_sld hx hb hX hbl (Nat.not_le.mpr hbl) hZ.2.2.2 hi1 dL_law__2053 ?_
      refine lv_if_eq (tgt := 2061) hx hb dL_law__2054 (by decide) (fun _ => ?_) (fun hne => absurd hb1 hne)
      refine lv_iconst (v := 0) hx hb dL_law__2061 (by decide) ?_
      refine lr_i (zrunV (As := [.int 0]) (rest := []) Er (hZ.r A) (by decide) (re_0 _) rfl rfl v_X11_came kw_1978 (c_X11_came l gr N 0 hfr _) rfl hl.1 rfl (Nat.le_of_ble_eq_true rfl) ⟨by decide, by decide⟩ ⟨by show _ ≤ 601024; omega, by show _ ≤ 7293033; omega⟩ dL_law__2062) A hZ (fun x9 N9 H locs hp hZ => ?_)
      obtain ⟨rfl, rfl⟩ := Prod.mk.inj hp
      refine lv_istore (lv' := [(6, .int b9), (5, .int 0), (0, .ref b), (1, .ref (gx.2.2 0)), (2, .ref (gr.2.2 0)), (3, .ref qo), (4, .int i)]) hx hb dL_law__2065 hl (by decide) rfl (fun ls hl => ?_)
      refine lv_aload_n hx hb dL_law__2067 rfl (lv_at hl 4 rfl) ?_
      refine lr_i (zrunV (As := []) (rest := []) Er (hZ.r A) (by decide) (re_0 _) rfl rfl v_X11_thrown kw_1358 (c_X11_thrown l gr N1 (r := N1 0 0) rfl _) rfl hl.1 rfl (Nat.le_of_ble_eq_true rfl) ⟨by decide, by decide⟩ ⟨by show _ ≤ 601024; omega, by show _ ≤ 7293033; omega⟩ dL_law__2068) A hZ (fun x9 N9 H locs hp hZ => ?_)
      obtain ⟨e1, e2⟩ := hp
      rw [e2] at hZ
      rw [e1]
      refine lv_iload hx hb dL_law__2071 (lv_at hl 1 rfl) ?_
      refine lv_icmp_eq (tgt := 2078) hx hb dL_law__2073 (by decide) (fun _ => ?_) (fun hne => absurd ht hne)
      refine lv_iload hx hb dL_law__2078 (lv_at hl 1 rfl) ?_
      refine lv_if_ne (tgt := 2095) hx hb dL_law__2080 (by decide) (fun hne => absurd rfl hne) (fun _ => ?_)
      refine lv_aload_n hx hb dL_law__2083 rfl (lv_at hl 5 rfl) ?_
      refine lv_iconst (v := 0) hx hb dL_law__2084 (by decide) ?_
      refine va_lald hx hb hKo hZ.2.2.1 0 0 rfl rfl (zin_of (by decide)) dL_law__2085 ?_
      refine lv_iload hx hb dL_law__2086 (lv_at hl 0 rfl) ?_
      refine lv_i2l hx hb dL_law__2088 rfl ?_
      refine W.lcmp hx hb dL_law__2089 ?_
      refine lv_if_eq (tgt := 2095) hx hb dL_law__2090 (by decide) (fun _ => ?_) (fun hne => absurd (zcmp_self _) hne)
      refine lv_goto (tgt := 3069) hx hb dL_law__2095 (by decide) ?_
      refine W.widen (k := cells + 60) (n := slots + 360) (by omega) (by omega) ?_
      exact kk _ _ _ _ _ _ hR1 hZ (lv_sub hl [2, 3, 4, 5, 6] rfl)
  · obtain ⟨M1, b9, N1, hfr, hR1, hcc⟩ := hz M N hR 1 (Or.inr rfl)
    rcases hcc with ⟨k0, hfx, hk0, ht⟩ | ⟨hfx, ht⟩
    · refine lv_aload_n hx hb dL_law__2026 rfl (lv_at hl 1 rfl) ?_
      refine lv_aload_n hx hb dL_law__2027 rfl (lv_at hl 0 rfl) ?_
      refine lv_iload hx hb dL_law__2028 (lv_at hl 4 rfl) ?_
      refine lv_iconst (v := 1) hx hb dL_law__2030 (by decide) ?_
      refine lv_iadd hx hb dL_law__2031 ?_
      refine va_sld hx hb hX hbl (Nat.not_le.mpr hbl) hZ.2.2.2 hi1 dL_law__2032 ?_
      refine lv_if_eq (tgt := 2040) hx hb dL_law__2033 (by decide) (fun he => absurd he hb1) (fun _ => ?_)
      refine lv_iconst (v := 1) hx hb dL_law__2036 (by decide) ?_
      refine lv_goto (tgt := 2041) hx hb dL_law__2037 (by decide) ?_
      refine lv_aload_n hx hb dL_law__2041 rfl (lv_at hl 3 rfl) ?_
      refine lw_i (lrunW (n := 3) (As := [.ref (gx.2.2 0), .int 1, .ref qo]) (rest := []) E hT hKo hNc A hZ kw_1224 kw_0 kw_1223 ⟨by decide, by decide, by decide +kernel⟩ kw_1222 (cw_L_came l hst gx cO qo M v 1 hfx (fun _ _ h => by cases h; exact hk0)) rfl hl.1 rfl (Nat.le_of_ble_eq_true rfl) ⟨by decide, by decide⟩ ⟨by show cells + 46 ≤ 601024; omega, by show slots + 276 ≤ 7293033; omega⟩ dL_law__2042) A hZ (fun H locs hZ => ?_)
      have hZ : zLS gx gr cO qo s H locs M1 N v := hZ
      refine W.widen (k := cells + 48) (n := slots + 288) (by omega) (by omega) ?_
      refine lv_istore (lv' := [(5, .int ((fun _ => 1) k0)), (0, .ref b), (1, .ref (gx.2.2 0)), (2, .ref (gr.2.2 0)), (3, .ref qo), (4, .int i)]) hx hb dL_law__2045 hl (by decide) rfl (fun ls hl => ?_)
      refine lv_aload_n hx hb dL_law__2047 rfl (lv_at hl 3 rfl) ?_
      refine lv_aload_n hx hb dL_law__2048 rfl (lv_at hl 1 rfl) ?_
      refine lv_iload hx hb dL_law__2049 (lv_at hl 5 rfl) ?_
      refine lv_iconst (v := 1) hx hb dL_law__2051 (by decide) ?_
      refine lv_iadd hx hb dL_law__2052 ?_
      refine va_sld hx hb hX hbl (Nat.not_le.mpr hbl) hZ.2.2.2 hi1 dL_law__2053 ?_
      refine lv_if_eq (tgt := 2061) hx hb dL_law__2054 (by decide) (fun he => absurd he hb1) (fun _ => ?_)
      refine lv_iconst (v := 1) hx hb dL_law__2057 (by decide) ?_
      refine lv_goto (tgt := 2062) hx hb dL_law__2058 (by decide) ?_
      refine lr_i (zrunV (As := [.int 1]) (rest := []) Er (hZ.r A) (by decide) (re_0 _) rfl rfl v_X11_came kw_1978 (c_X11_came l gr N 1 hfr _) rfl hl.1 rfl (Nat.le_of_ble_eq_true rfl) ⟨by decide, by decide⟩ ⟨by show _ ≤ 601024; omega, by show _ ≤ 7293033; omega⟩ dL_law__2062) A hZ (fun x9 N9 H locs hp hZ => ?_)
      obtain ⟨rfl, rfl⟩ := Prod.mk.inj hp
      refine lv_istore (lv' := [(6, .int b9), (5, .int ((fun _ => 1) k0)), (0, .ref b), (1, .ref (gx.2.2 0)), (2, .ref (gr.2.2 0)), (3, .ref qo), (4, .int i)]) hx hb dL_law__2065 hl (by decide) rfl (fun ls hl => ?_)
      refine lv_aload_n hx hb dL_law__2067 rfl (lv_at hl 4 rfl) ?_
      refine lr_i (zrunV (As := []) (rest := []) Er (hZ.r A) (by decide) (re_0 _) rfl rfl v_X11_thrown kw_1358 (c_X11_thrown l gr N1 (r := N1 0 0) rfl _) rfl hl.1 rfl (Nat.le_of_ble_eq_true rfl) ⟨by decide, by decide⟩ ⟨by show _ ≤ 601024; omega, by show _ ≤ 7293033; omega⟩ dL_law__2068) A hZ (fun x9 N9 H locs hp hZ => ?_)
      obtain ⟨e1, e2⟩ := hp
      rw [e2] at hZ
      rw [e1]
      refine lv_iload hx hb dL_law__2071 (lv_at hl 1 rfl) ?_
      refine lv_icmp_eq (tgt := 2078) hx hb dL_law__2073 (by decide) (fun _ => ?_) (fun hne => absurd ht hne)
      refine lv_iload hx hb dL_law__2078 (lv_at hl 1 rfl) ?_
      refine lv_if_ne (tgt := 2095) hx hb dL_law__2080 (by decide) (fun _ => ?_) (fun h0 => absurd h0 (by show ¬ (1 : Int32) = 0; decide))
      refine lv_goto (tgt := 3069) hx hb dL_law__2095 (by decide) ?_
      refine W.widen (k := cells + 60) (n := slots + 360) (by omega) (by omega) ?_
      exact kk _ _ _ _ _ _ hR1 hZ (lv_sub hl [2, 3, 4, 5, 6] rfl)
    · refine lv_aload_n hx hb dL_law__2026 rfl (lv_at hl 1 rfl) ?_
      refine lv_aload_n hx hb dL_law__2027 rfl (lv_at hl 0 rfl) ?_
      refine lv_iload hx hb dL_law__2028 (lv_at hl 4 rfl) ?_
      refine lv_iconst (v := 1) hx hb dL_law__2030 (by decide) ?_
      refine lv_iadd hx hb dL_law__2031 ?_
      refine va_sld hx hb hX hbl (Nat.not_le.mpr hbl) hZ.2.2.2 hi1 dL_law__2032 ?_
      refine lv_if_eq (tgt := 2040) hx hb dL_law__2033 (by decide) (fun he => absurd he hb1) (fun _ => ?_)
      refine lv_iconst (v := 1) hx hb dL_law__2036 (by decide) ?_
      refine lv_goto (tgt := 2041) hx hb dL_law__2037 (by decide) ?_
      refine lv_aload_n hx hb dL_law__2041 rfl (lv_at hl 3 rfl) ?_
      refine lw_i (lrunW (n := 3) (As := [.ref (gx.2.2 0), .int 1, .ref qo]) (rest := []) E hT hKo hNc A hZ kw_1224 kw_0 kw_1223 ⟨by decide, by decide, by decide +kernel⟩ kw_1222 (cw_L_came l hst gx cO qo M v 1 hfx (fun _ _ h => by cases h)) rfl hl.1 rfl (Nat.le_of_ble_eq_true rfl) ⟨by decide, by decide⟩ ⟨by show cells + 46 ≤ 601024; omega, by show slots + 276 ≤ 7293033; omega⟩ dL_law__2042) A hZ (fun H locs hZ => ?_)
      have hZ : zLS gx gr cO qo s H locs M1 N (b9.toInt64) := hZ
      refine W.widen (k := cells + 48) (n := slots + 288) (by omega) (by omega) ?_
      refine lv_istore (lv' := [(5, .int 0), (0, .ref b), (1, .ref (gx.2.2 0)), (2, .ref (gr.2.2 0)), (3, .ref qo), (4, .int i)]) hx hb dL_law__2045 hl (by decide) rfl (fun ls hl => ?_)
      refine lv_aload_n hx hb dL_law__2047 rfl (lv_at hl 3 rfl) ?_
      refine lv_aload_n hx hb dL_law__2048 rfl (lv_at hl 1 rfl) ?_
      refine lv_iload hx hb dL_law__2049 (lv_at hl 5 rfl) ?_
      refine lv_iconst (v := 1) hx hb dL_law__2051 (by decide) ?_
      refine lv_iadd hx hb dL_law__2052 ?_
      refine va_sld hx hb hX hbl (Nat.not_le.mpr hbl) hZ.2.2.2 hi1 dL_law__2053 ?_
      refine lv_if_eq (tgt := 2061) hx hb dL_law__2054 (by decide) (fun he => absurd he hb1) (fun _ => ?_)
      refine lv_iconst (v := 1) hx hb dL_law__2057 (by decide) ?_
      refine lv_goto (tgt := 2062) hx hb dL_law__2058 (by decide) ?_
      refine lr_i (zrunV (As := [.int 1]) (rest := []) Er (hZ.r A) (by decide) (re_0 _) rfl rfl v_X11_came kw_1978 (c_X11_came l gr N 1 hfr _) rfl hl.1 rfl (Nat.le_of_ble_eq_true rfl) ⟨by decide, by decide⟩ ⟨by show _ ≤ 601024; omega, by show _ ≤ 7293033; omega⟩ dL_law__2062) A hZ (fun x9 N9 H locs hp hZ => ?_)
      obtain ⟨rfl, rfl⟩ := Prod.mk.inj hp
      refine lv_istore (lv' := [(6, .int b9), (5, .int 0), (0, .ref b), (1, .ref (gx.2.2 0)), (2, .ref (gr.2.2 0)), (3, .ref qo), (4, .int i)]) hx hb dL_law__2065 hl (by decide) rfl (fun ls hl => ?_)
      refine lv_aload_n hx hb dL_law__2067 rfl (lv_at hl 4 rfl) ?_
      refine lr_i (zrunV (As := []) (rest := []) Er (hZ.r A) (by decide) (re_0 _) rfl rfl v_X11_thrown kw_1358 (c_X11_thrown l gr N1 (r := N1 0 0) rfl _) rfl hl.1 rfl (Nat.le_of_ble_eq_true rfl) ⟨by decide, by decide⟩ ⟨by show _ ≤ 601024; omega, by show _ ≤ 7293033; omega⟩ dL_law__2068) A hZ (fun x9 N9 H locs hp hZ => ?_)
      obtain ⟨e1, e2⟩ := hp
      rw [e2] at hZ
      rw [e1]
      refine lv_iload hx hb dL_law__2071 (lv_at hl 1 rfl) ?_
      refine lv_icmp_eq (tgt := 2078) hx hb dL_law__2073 (by decide) (fun _ => ?_) (fun hne => absurd ht hne)
      refine lv_iload hx hb dL_law__2078 (lv_at hl 1 rfl) ?_
      refine lv_if_ne (tgt := 2095) hx hb dL_law__2080 (by decide) (fun hne => absurd rfl hne) (fun _ => ?_)
      refine lv_aload_n hx hb dL_law__2083 rfl (lv_at hl 5 rfl) ?_
      refine lv_iconst (v := 0) hx hb dL_law__2084 (by decide) ?_
      refine va_lald hx hb hKo hZ.2.2.1 0 0 rfl rfl (zin_of (by decide)) dL_law__2085 ?_
      refine lv_iload hx hb dL_law__2086 (lv_at hl 0 rfl) ?_
      refine lv_i2l hx hb dL_law__2088 rfl ?_
      refine W.lcmp hx hb dL_law__2089 ?_
      refine lv_if_eq (tgt := 2095) hx hb dL_law__2090 (by decide) (fun _ => ?_) (fun hne => absurd (zcmp_self _) hne)
      refine lv_goto (tgt := 3069) hx hb dL_law__2095 (by decide) ?_
      refine W.widen (k := cells + 60) (n := slots + 360) (by omega) (by omega) ?_
      exact kk _ _ _ _ _ _ hR1 hZ (lv_sub hl [2, 3, 4, 5, 6] rfl)
def zs_amends (Rel Rel' : zM → zM → Prop) : Prop := ∀ (M N : zM), Rel M N → ∀ x1 : Int32, (x1 = 0 ∨ x1 = 1) → zsT Rel' (f_X10_amends M x1) (f_X11_amends N x1) (fun k => k = 1) (fun _ => 1)
set_option maxRecDepth 100000 in
set_option maxHeartbeats 4000000 in
theorem lc_amends (C : zLC p l s m args c gx gr cO qo b L xs Ts) (hz : zs_amends Rel Rel') (hR : Rel M N) (hZ : zLS gx gr cO qo s H locs M N v) (hl : lv_has ls 7 (zLl b gx gr qo i)) (hi1 : vp_in (i + 1) L) (hi2 : vp_in (i + 2) L) (hi3 : vp_in (i + 3) L) (hi4 : vp_in (i + 4) L) (hi5 : vp_in (i + 5) L) (hc : cells + 60 ≤ 601024) (hsl : slots + 360 ≤ 7293033) (kk : zLK p l e s m args below meth c Q Rel' gx gr cO qo b i cells slots) : W p l e room_1 s m args below meth c H locs cells slots Q (F0 m 2098 ls []) := by
  obtain ⟨hst, E, Er, hT, S, hKo, hNc, A, hX, hbl⟩ := C
  have hx := E.1.1
  have hb := E.1.2.1
  have hl : lv_has ls 7 [(0, .ref b), (1, .ref (gx.2.2 0)), (2, .ref (gr.2.2 0)), (3, .ref qo), (4, .int i)] := hl
  by_cases hb1 : (xs (i + 1).toNatClampNeg) = 0
  · obtain ⟨M1, b9, N1, hfr, hR1, hcc⟩ := hz M N hR 0 (Or.inl rfl)
    rcases hcc with ⟨k0, hfx, hk0, ht⟩ | ⟨hfx, ht⟩
    · refine lv_aload_n hx hb dL_law__2098 rfl (lv_at hl 1 rfl) ?_
      refine lv_aload_n hx hb dL_law__2099 rfl (lv_at hl 0 rfl) ?_
      refine lv_iload hx hb dL_law__2100 (lv_at hl 4 rfl) ?_
      refine lv_iconst (v := 1) hx hb dL_law__2102 (by decide) ?_
      refine lv_iadd hx hb dL_law__2103 ?_
      refine va_sld hx hb hX hbl (Nat.not_le.mpr hbl) hZ.2.2.2 hi1 dL_law__2104 ?_
      refine lv_if_eq (tgt := 2112) hx hb dL_law__2105 (by decide) (fun _ => ?_) (fun hne => absurd hb1 hne)
      refine lv_iconst (v := 0) hx hb dL_law__2112 (by decide) ?_
      refine lv_aload_n hx hb dL_law__2113 rfl (lv_at hl 3 rfl) ?_
      refine lw_i (lrunW (n := 3) (As := [.ref (gx.2.2 0), .int 0, .ref qo]) (rest := []) E hT hKo hNc A hZ kw_1239 kw_0 kw_1238 ⟨by decide, by decide, by decide +kernel⟩ kw_1237 (cw_L_amends l hst gx cO qo M v 0 hfx (fun _ _ h => by cases h; exact hk0)) rfl hl.1 rfl (Nat.le_of_ble_eq_true rfl) ⟨by decide, by decide⟩ ⟨by show cells + 46 ≤ 601024; omega, by show slots + 276 ≤ 7293033; omega⟩ dL_law__2114) A hZ (fun H locs hZ => ?_)
      have hZ : zLS gx gr cO qo s H locs M1 N v := hZ
      refine W.widen (k := cells + 48) (n := slots + 288) (by omega) (by omega) ?_
      refine lv_istore (lv' := [(5, .int ((fun _ => 1) k0)), (0, .ref b), (1, .ref (gx.2.2 0)), (2, .ref (gr.2.2 0)), (3, .ref qo), (4, .int i)]) hx hb dL_law__2117 hl (by decide) rfl (fun ls hl => ?_)
      refine lv_aload_n hx hb dL_law__2119 rfl (lv_at hl 3 rfl) ?_
      refine lv_aload_n hx hb dL_law__2120 rfl (lv_at hl 1 rfl) ?_
      refine lv_iload hx hb dL_law__2121 (lv_at hl 5 rfl) ?_
      refine lv_iconst (v := 1) hx hb dL_law__2123 (by decide) ?_
      refine lv_iadd hx hb dL_law__2124 ?_
      refine va_sld hx hb hX hbl (Nat.not_le.mpr hbl) hZ.2.2.2 hi1 dL_law__2125 ?_
      refine lv_if_eq (tgt := 2133) hx hb dL_law__2126 (by decide) (fun _ => ?_) (fun hne => absurd hb1 hne)
      refine lv_iconst (v := 0) hx hb dL_law__2133 (by decide) ?_
      refine lr_i (zrunV (As := [.int 0]) (rest := []) Er (hZ.r A) (by decide) (re_0 _) rfl rfl v_X11_amends kw_1990 (c_X11_amends l gr N 0 hfr _) rfl hl.1 rfl (Nat.le_of_ble_eq_true rfl) ⟨by decide, by decide⟩ ⟨by show _ ≤ 601024; omega, by show _ ≤ 7293033; omega⟩ dL_law__2134) A hZ (fun x9 N9 H locs hp hZ => ?_)
      obtain ⟨rfl, rfl⟩ := Prod.mk.inj hp
      refine lv_istore (lv' := [(6, .int b9), (5, .int ((fun _ => 1) k0)), (0, .ref b), (1, .ref (gx.2.2 0)), (2, .ref (gr.2.2 0)), (3, .ref qo), (4, .int i)]) hx hb dL_law__2137 hl (by decide) rfl (fun ls hl => ?_)
      refine lv_aload_n hx hb dL_law__2139 rfl (lv_at hl 4 rfl) ?_
      refine lr_i (zrunV (As := []) (rest := []) Er (hZ.r A) (by decide) (re_0 _) rfl rfl v_X11_thrown kw_1358 (c_X11_thrown l gr N1 (r := N1 0 0) rfl _) rfl hl.1 rfl (Nat.le_of_ble_eq_true rfl) ⟨by decide, by decide⟩ ⟨by show _ ≤ 601024; omega, by show _ ≤ 7293033; omega⟩ dL_law__2140) A hZ (fun x9 N9 H locs hp hZ => ?_)
      obtain ⟨e1, e2⟩ := hp
      rw [e2] at hZ
      rw [e1]
      refine lv_iload hx hb dL_law__2143 (lv_at hl 1 rfl) ?_
      refine lv_icmp_eq (tgt := 2150) hx hb dL_law__2145 (by decide) (fun _ => ?_) (fun hne => absurd ht hne)
      refine lv_iload hx hb dL_law__2150 (lv_at hl 1 rfl) ?_
      refine lv_if_ne (tgt := 2167) hx hb dL_law__2152 (by decide) (fun _ => ?_) (fun h0 => absurd h0 (by show ¬ (1 : Int32) = 0; decide))
      refine lv_goto (tgt := 3069) hx hb dL_law__2167 (by decide) ?_
      refine W.widen (k := cells + 60) (n := slots + 360) (by omega) (by omega) ?_
      exact kk _ _ _ _ _ _ hR1 hZ (lv_sub hl [2, 3, 4, 5, 6] rfl)
    · refine lv_aload_n hx hb dL_law__2098 rfl (lv_at hl 1 rfl) ?_
      refine lv_aload_n hx hb dL_law__2099 rfl (lv_at hl 0 rfl) ?_
      refine lv_iload hx hb dL_law__2100 (lv_at hl 4 rfl) ?_
      refine lv_iconst (v := 1) hx hb dL_law__2102 (by decide) ?_
      refine lv_iadd hx hb dL_law__2103 ?_
      refine va_sld hx hb hX hbl (Nat.not_le.mpr hbl) hZ.2.2.2 hi1 dL_law__2104 ?_
      refine lv_if_eq (tgt := 2112) hx hb dL_law__2105 (by decide) (fun _ => ?_) (fun hne => absurd hb1 hne)
      refine lv_iconst (v := 0) hx hb dL_law__2112 (by decide) ?_
      refine lv_aload_n hx hb dL_law__2113 rfl (lv_at hl 3 rfl) ?_
      refine lw_i (lrunW (n := 3) (As := [.ref (gx.2.2 0), .int 0, .ref qo]) (rest := []) E hT hKo hNc A hZ kw_1239 kw_0 kw_1238 ⟨by decide, by decide, by decide +kernel⟩ kw_1237 (cw_L_amends l hst gx cO qo M v 0 hfx (fun _ _ h => by cases h)) rfl hl.1 rfl (Nat.le_of_ble_eq_true rfl) ⟨by decide, by decide⟩ ⟨by show cells + 46 ≤ 601024; omega, by show slots + 276 ≤ 7293033; omega⟩ dL_law__2114) A hZ (fun H locs hZ => ?_)
      have hZ : zLS gx gr cO qo s H locs M1 N (b9.toInt64) := hZ
      refine W.widen (k := cells + 48) (n := slots + 288) (by omega) (by omega) ?_
      refine lv_istore (lv' := [(5, .int 0), (0, .ref b), (1, .ref (gx.2.2 0)), (2, .ref (gr.2.2 0)), (3, .ref qo), (4, .int i)]) hx hb dL_law__2117 hl (by decide) rfl (fun ls hl => ?_)
      refine lv_aload_n hx hb dL_law__2119 rfl (lv_at hl 3 rfl) ?_
      refine lv_aload_n hx hb dL_law__2120 rfl (lv_at hl 1 rfl) ?_
      refine lv_iload hx hb dL_law__2121 (lv_at hl 5 rfl) ?_
      refine lv_iconst (v := 1) hx hb dL_law__2123 (by decide) ?_
      refine lv_iadd hx hb dL_law__2124 ?_
      refine va_sld hx hb hX hbl (Nat.not_le.mpr hbl) hZ.2.2.2 hi1 dL_law__2125 ?_
      refine lv_if_eq (tgt := 2133) hx hb dL_law__2126 (by decide) (fun _ => ?_) (fun hne => absurd hb1 hne)
      refine lv_iconst (v := 0) hx hb dL_law__2133 (by decide) ?_
      refine lr_i (zrunV (As := [.int 0]) (rest := []) Er (hZ.r A) (by decide) (re_0 _) rfl rfl v_X11_amends kw_1990 (c_X11_amends l gr N 0 hfr _) rfl hl.1 rfl (Nat.le_of_ble_eq_true rfl) ⟨by decide, by decide⟩ ⟨by show _ ≤ 601024; omega, by show _ ≤ 7293033; omega⟩ dL_law__2134) A hZ (fun x9 N9 H locs hp hZ => ?_)
      obtain ⟨rfl, rfl⟩ := Prod.mk.inj hp
      refine lv_istore (lv' := [(6, .int b9), (5, .int 0), (0, .ref b), (1, .ref (gx.2.2 0)), (2, .ref (gr.2.2 0)), (3, .ref qo), (4, .int i)]) hx hb dL_law__2137 hl (by decide) rfl (fun ls hl => ?_)
      refine lv_aload_n hx hb dL_law__2139 rfl (lv_at hl 4 rfl) ?_
      refine lr_i (zrunV (As := []) (rest := []) Er (hZ.r A) (by decide) (re_0 _) rfl rfl v_X11_thrown kw_1358 (c_X11_thrown l gr N1 (r := N1 0 0) rfl _) rfl hl.1 rfl (Nat.le_of_ble_eq_true rfl) ⟨by decide, by decide⟩ ⟨by show _ ≤ 601024; omega, by show _ ≤ 7293033; omega⟩ dL_law__2140) A hZ (fun x9 N9 H locs hp hZ => ?_)
      obtain ⟨e1, e2⟩ := hp
      rw [e2] at hZ
      rw [e1]
      refine lv_iload hx hb dL_law__2143 (lv_at hl 1 rfl) ?_
      refine lv_icmp_eq (tgt := 2150) hx hb dL_law__2145 (by decide) (fun _ => ?_) (fun hne => absurd ht hne)
      refine lv_iload hx hb dL_law__2150 (lv_at hl 1 rfl) ?_
      refine lv_if_ne (tgt := 2167) hx hb dL_law__2152 (by decide) (fun hne => absurd rfl hne) (fun _ => ?_)
      refine lv_aload_n hx hb dL_law__2155 rfl (lv_at hl 5 rfl) ?_
      refine lv_iconst (v := 0) hx hb dL_law__2156 (by decide) ?_
      refine va_lald hx hb hKo hZ.2.2.1 0 0 rfl rfl (zin_of (by decide)) dL_law__2157 ?_
      refine lv_iload hx hb dL_law__2158 (lv_at hl 0 rfl) ?_
      refine lv_i2l hx hb dL_law__2160 rfl ?_
      refine W.lcmp hx hb dL_law__2161 ?_
      refine lv_if_eq (tgt := 2167) hx hb dL_law__2162 (by decide) (fun _ => ?_) (fun hne => absurd (zcmp_self _) hne)
      refine lv_goto (tgt := 3069) hx hb dL_law__2167 (by decide) ?_
      refine W.widen (k := cells + 60) (n := slots + 360) (by omega) (by omega) ?_
      exact kk _ _ _ _ _ _ hR1 hZ (lv_sub hl [2, 3, 4, 5, 6] rfl)
  · obtain ⟨M1, b9, N1, hfr, hR1, hcc⟩ := hz M N hR 1 (Or.inr rfl)
    rcases hcc with ⟨k0, hfx, hk0, ht⟩ | ⟨hfx, ht⟩
    · refine lv_aload_n hx hb dL_law__2098 rfl (lv_at hl 1 rfl) ?_
      refine lv_aload_n hx hb dL_law__2099 rfl (lv_at hl 0 rfl) ?_
      refine lv_iload hx hb dL_law__2100 (lv_at hl 4 rfl) ?_
      refine lv_iconst (v := 1) hx hb dL_law__2102 (by decide) ?_
      refine lv_iadd hx hb dL_law__2103 ?_
      refine va_sld hx hb hX hbl (Nat.not_le.mpr hbl) hZ.2.2.2 hi1 dL_law__2104 ?_
      refine lv_if_eq (tgt := 2112) hx hb dL_law__2105 (by decide) (fun he => absurd he hb1) (fun _ => ?_)
      refine lv_iconst (v := 1) hx hb dL_law__2108 (by decide) ?_
      refine lv_goto (tgt := 2113) hx hb dL_law__2109 (by decide) ?_
      refine lv_aload_n hx hb dL_law__2113 rfl (lv_at hl 3 rfl) ?_
      refine lw_i (lrunW (n := 3) (As := [.ref (gx.2.2 0), .int 1, .ref qo]) (rest := []) E hT hKo hNc A hZ kw_1239 kw_0 kw_1238 ⟨by decide, by decide, by decide +kernel⟩ kw_1237 (cw_L_amends l hst gx cO qo M v 1 hfx (fun _ _ h => by cases h; exact hk0)) rfl hl.1 rfl (Nat.le_of_ble_eq_true rfl) ⟨by decide, by decide⟩ ⟨by show cells + 46 ≤ 601024; omega, by show slots + 276 ≤ 7293033; omega⟩ dL_law__2114) A hZ (fun H locs hZ => ?_)
      have hZ : zLS gx gr cO qo s H locs M1 N v := hZ
      refine W.widen (k := cells + 48) (n := slots + 288) (by omega) (by omega) ?_
      refine lv_istore (lv' := [(5, .int ((fun _ => 1) k0)), (0, .ref b), (1, .ref (gx.2.2 0)), (2, .ref (gr.2.2 0)), (3, .ref qo), (4, .int i)]) hx hb dL_law__2117 hl (by decide) rfl (fun ls hl => ?_)
      refine lv_aload_n hx hb dL_law__2119 rfl (lv_at hl 3 rfl) ?_
      refine lv_aload_n hx hb dL_law__2120 rfl (lv_at hl 1 rfl) ?_
      refine lv_iload hx hb dL_law__2121 (lv_at hl 5 rfl) ?_
      refine lv_iconst (v := 1) hx hb dL_law__2123 (by decide) ?_
      refine lv_iadd hx hb dL_law__2124 ?_
      refine va_sld hx hb hX hbl (Nat.not_le.mpr hbl) hZ.2.2.2 hi1 dL_law__2125 ?_
      refine lv_if_eq (tgt := 2133) hx hb dL_law__2126 (by decide) (fun he => absurd he hb1) (fun _ => ?_)
      refine lv_iconst (v := 1) hx hb dL_law__2129 (by decide) ?_
      refine lv_goto (tgt := 2134) hx hb dL_law__2130 (by decide) ?_
      refine lr_i (zrunV (As := [.int 1]) (rest := []) Er (hZ.r A) (by decide) (re_0 _) rfl rfl v_X11_amends kw_1990 (c_X11_amends l gr N 1 hfr _) rfl hl.1 rfl (Nat.le_of_ble_eq_true rfl) ⟨by decide, by decide⟩ ⟨by show _ ≤ 601024; omega, by show _ ≤ 7293033; omega⟩ dL_law__2134) A hZ (fun x9 N9 H locs hp hZ => ?_)
      obtain ⟨rfl, rfl⟩ := Prod.mk.inj hp
      refine lv_istore (lv' := [(6, .int b9), (5, .int ((fun _ => 1) k0)), (0, .ref b), (1, .ref (gx.2.2 0)), (2, .ref (gr.2.2 0)), (3, .ref qo), (4, .int i)]) hx hb dL_law__2137 hl (by decide) rfl (fun ls hl => ?_)
      refine lv_aload_n hx hb dL_law__2139 rfl (lv_at hl 4 rfl) ?_
      refine lr_i (zrunV (As := []) (rest := []) Er (hZ.r A) (by decide) (re_0 _) rfl rfl v_X11_thrown kw_1358 (c_X11_thrown l gr N1 (r := N1 0 0) rfl _) rfl hl.1 rfl (Nat.le_of_ble_eq_true rfl) ⟨by decide, by decide⟩ ⟨by show _ ≤ 601024; omega, by show _ ≤ 7293033; omega⟩ dL_law__2140) A hZ (fun x9 N9 H locs hp hZ => ?_)
      obtain ⟨e1, e2⟩ := hp
      rw [e2] at hZ
      rw [e1]
      refine lv_iload hx hb dL_law__2143 (lv_at hl 1 rfl) ?_
      refine lv_icmp_eq (tgt := 2150) hx hb dL_law__2145 (by decide) (fun _ => ?_) (fun hne => absurd ht hne)
      refine lv_iload hx hb dL_law__2150 (lv_at hl 1 rfl) ?_
      refine lv_if_ne (tgt := 2167) hx hb dL_law__2152 (by decide) (fun _ => ?_) (fun h0 => absurd h0 (by show ¬ (1 : Int32) = 0; decide))
      refine lv_goto (tgt := 3069) hx hb dL_law__2167 (by decide) ?_
      refine W.widen (k := cells + 60) (n := slots + 360) (by omega) (by omega) ?_
      exact kk _ _ _ _ _ _ hR1 hZ (lv_sub hl [2, 3, 4, 5, 6] rfl)
    · refine lv_aload_n hx hb dL_law__2098 rfl (lv_at hl 1 rfl) ?_
      refine lv_aload_n hx hb dL_law__2099 rfl (lv_at hl 0 rfl) ?_
      refine lv_iload hx hb dL_law__2100 (lv_at hl 4 rfl) ?_
      refine lv_iconst (v := 1) hx hb dL_law__2102 (by decide) ?_
      refine lv_iadd hx hb dL_law__2103 ?_
      refine va_sld hx hb hX hbl (Nat.not_le.mpr hbl) hZ.2.2.2 hi1 dL_law__2104 ?_
      refine lv_if_eq (tgt := 2112) hx hb dL_law__2105 (by decide) (fun he => absurd he hb1) (fun _ => ?_)
      refine lv_iconst (v := 1) hx hb dL_law__2108 (by decide) ?_
      refine lv_goto (tgt := 2113) hx hb dL_law__2109 (by decide) ?_
      refine lv_aload_n hx hb dL_law__2113 rfl (lv_at hl 3 rfl) ?_
      refine lw_i (lrunW (n := 3) (As := [.ref (gx.2.2 0), .int 1, .ref qo]) (rest := []) E hT hKo hNc A hZ kw_1239 kw_0 kw_1238 ⟨by decide, by decide, by decide +kernel⟩ kw_1237 (cw_L_amends l hst gx cO qo M v 1 hfx (fun _ _ h => by cases h)) rfl hl.1 rfl (Nat.le_of_ble_eq_true rfl) ⟨by decide, by decide⟩ ⟨by show cells + 46 ≤ 601024; omega, by show slots + 276 ≤ 7293033; omega⟩ dL_law__2114) A hZ (fun H locs hZ => ?_)
      have hZ : zLS gx gr cO qo s H locs M1 N (b9.toInt64) := hZ
      refine W.widen (k := cells + 48) (n := slots + 288) (by omega) (by omega) ?_
      refine lv_istore (lv' := [(5, .int 0), (0, .ref b), (1, .ref (gx.2.2 0)), (2, .ref (gr.2.2 0)), (3, .ref qo), (4, .int i)]) hx hb dL_law__2117 hl (by decide) rfl (fun ls hl => ?_)
      refine lv_aload_n hx hb dL_law__2119 rfl (lv_at hl 3 rfl) ?_
      refine lv_aload_n hx hb dL_law__2120 rfl (lv_at hl 1 rfl) ?_
      refine lv_iload hx hb dL_law__2121 (lv_at hl 5 rfl) ?_
      refine lv_iconst (v := 1) hx hb dL_law__2123 (by decide) ?_
      refine lv_iadd hx hb dL_law__2124 ?_
      refine va_sld hx hb hX hbl (Nat.not_le.mpr hbl) hZ.2.2.2 hi1 dL_law__2125 ?_
      refine lv_if_eq (tgt := 2133) hx hb dL_law__2126 (by decide) (fun he => absurd he hb1) (fun _ => ?_)
      refine lv_iconst (v := 1) hx hb dL_law__2129 (by decide) ?_
      refine lv_goto (tgt := 2134) hx hb dL_law__2130 (by decide) ?_
      refine lr_i (zrunV (As := [.int 1]) (rest := []) Er (hZ.r A) (by decide) (re_0 _) rfl rfl v_X11_amends kw_1990 (c_X11_amends l gr N 1 hfr _) rfl hl.1 rfl (Nat.le_of_ble_eq_true rfl) ⟨by decide, by decide⟩ ⟨by show _ ≤ 601024; omega, by show _ ≤ 7293033; omega⟩ dL_law__2134) A hZ (fun x9 N9 H locs hp hZ => ?_)
      obtain ⟨rfl, rfl⟩ := Prod.mk.inj hp
      refine lv_istore (lv' := [(6, .int b9), (5, .int 0), (0, .ref b), (1, .ref (gx.2.2 0)), (2, .ref (gr.2.2 0)), (3, .ref qo), (4, .int i)]) hx hb dL_law__2137 hl (by decide) rfl (fun ls hl => ?_)
      refine lv_aload_n hx hb dL_law__2139 rfl (lv_at hl 4 rfl) ?_
      refine lr_i (zrunV (As := []) (rest := []) Er (hZ.r A) (by decide) (re_0 _) rfl rfl v_X11_thrown kw_1358 (c_X11_thrown l gr N1 (r := N1 0 0) rfl _) rfl hl.1 rfl (Nat.le_of_ble_eq_true rfl) ⟨by decide, by decide⟩ ⟨by show _ ≤ 601024; omega, by show _ ≤ 7293033; omega⟩ dL_law__2140) A hZ (fun x9 N9 H locs hp hZ => ?_)
      obtain ⟨e1, e2⟩ := hp
      rw [e2] at hZ
      rw [e1]
      refine lv_iload hx hb dL_law__2143 (lv_at hl 1 rfl) ?_
      refine lv_icmp_eq (tgt := 2150) hx hb dL_law__2145 (by decide) (fun _ => ?_) (fun hne => absurd ht hne)
      refine lv_iload hx hb dL_law__2150 (lv_at hl 1 rfl) ?_
      refine lv_if_ne (tgt := 2167) hx hb dL_law__2152 (by decide) (fun hne => absurd rfl hne) (fun _ => ?_)
      refine lv_aload_n hx hb dL_law__2155 rfl (lv_at hl 5 rfl) ?_
      refine lv_iconst (v := 0) hx hb dL_law__2156 (by decide) ?_
      refine va_lald hx hb hKo hZ.2.2.1 0 0 rfl rfl (zin_of (by decide)) dL_law__2157 ?_
      refine lv_iload hx hb dL_law__2158 (lv_at hl 0 rfl) ?_
      refine lv_i2l hx hb dL_law__2160 rfl ?_
      refine W.lcmp hx hb dL_law__2161 ?_
      refine lv_if_eq (tgt := 2167) hx hb dL_law__2162 (by decide) (fun _ => ?_) (fun hne => absurd (zcmp_self _) hne)
      refine lv_goto (tgt := 3069) hx hb dL_law__2167 (by decide) ?_
      refine W.widen (k := cells + 60) (n := slots + 360) (by omega) (by omega) ?_
      exact kk _ _ _ _ _ _ hR1 hZ (lv_sub hl [2, 3, 4, 5, 6] rfl)
def zs_witness (Rel Rel' : zM → zM → Prop) : Prop := ∀ (M N : zM), Rel M N → zsT Rel' (f_X10_witness M ) (f_X11_witness N ) (fun k => k = 1) (fun _ => 1)
set_option maxRecDepth 100000 in
set_option maxHeartbeats 4000000 in
theorem lc_witness (C : zLC p l s m args c gx gr cO qo b L xs Ts) (hz : zs_witness Rel Rel') (hR : Rel M N) (hZ : zLS gx gr cO qo s H locs M N v) (hl : lv_has ls 7 (zLl b gx gr qo i)) (hi1 : vp_in (i + 1) L) (hi2 : vp_in (i + 2) L) (hi3 : vp_in (i + 3) L) (hi4 : vp_in (i + 4) L) (hi5 : vp_in (i + 5) L) (hc : cells + 60 ≤ 601024) (hsl : slots + 360 ≤ 7293033) (kk : zLK p l e s m args below meth c Q Rel' gx gr cO qo b i cells slots) : W p l e room_1 s m args below meth c H locs cells slots Q (F0 m 2170 ls []) := by
  obtain ⟨hst, E, Er, hT, S, hKo, hNc, A, hX, hbl⟩ := C
  have hx := E.1.1
  have hb := E.1.2.1
  have hl : lv_has ls 7 [(0, .ref b), (1, .ref (gx.2.2 0)), (2, .ref (gr.2.2 0)), (3, .ref qo), (4, .int i)] := hl
  obtain ⟨M1, b9, N1, hfr, hR1, hcc⟩ := hz M N hR  
  rcases hcc with ⟨k0, hfx, hk0, ht⟩ | ⟨hfx, ht⟩
  · refine lv_aload_n hx hb dL_law__2170 rfl (lv_at hl 1 rfl) ?_
    refine lv_aload_n hx hb dL_law__2171 rfl (lv_at hl 3 rfl) ?_
    refine lw_i (lrunW (n := 2) (As := [.ref (gx.2.2 0), .ref qo]) (rest := []) E hT hKo hNc A hZ kw_1246 kw_0 kw_1245 ⟨by decide, by decide, by decide +kernel⟩ kw_1244 (cw_L_witness l hst gx cO qo M v  hfx (fun _ _ h => by cases h; exact hk0)) rfl hl.1 rfl (Nat.le_of_ble_eq_true rfl) ⟨by decide, by decide⟩ ⟨by show cells + 46 ≤ 601024; omega, by show slots + 276 ≤ 7293033; omega⟩ dL_law__2172) A hZ (fun H locs hZ => ?_)
    have hZ : zLS gx gr cO qo s H locs M1 N v := hZ
    refine W.widen (k := cells + 48) (n := slots + 288) (by omega) (by omega) ?_
    refine lv_istore (lv' := [(5, .int ((fun _ => 1) k0)), (0, .ref b), (1, .ref (gx.2.2 0)), (2, .ref (gr.2.2 0)), (3, .ref qo), (4, .int i)]) hx hb dL_law__2175 hl (by decide) rfl (fun ls hl => ?_)
    refine lv_aload_n hx hb dL_law__2177 rfl (lv_at hl 3 rfl) ?_
    refine lr_i (zrunV (As := []) (rest := []) Er (hZ.r A) (by decide) (re_0 _) rfl rfl v_X11_witness kw_1994 (c_X11_witness l gr N  hfr _) rfl hl.1 rfl (Nat.le_of_ble_eq_true rfl) ⟨by decide, by decide⟩ ⟨by show _ ≤ 601024; omega, by show _ ≤ 7293033; omega⟩ dL_law__2178) A hZ (fun x9 N9 H locs hp hZ => ?_)
    obtain ⟨rfl, rfl⟩ := Prod.mk.inj hp
    refine lv_istore (lv' := [(6, .int b9), (5, .int ((fun _ => 1) k0)), (0, .ref b), (1, .ref (gx.2.2 0)), (2, .ref (gr.2.2 0)), (3, .ref qo), (4, .int i)]) hx hb dL_law__2181 hl (by decide) rfl (fun ls hl => ?_)
    refine lv_aload_n hx hb dL_law__2183 rfl (lv_at hl 4 rfl) ?_
    refine lr_i (zrunV (As := []) (rest := []) Er (hZ.r A) (by decide) (re_0 _) rfl rfl v_X11_thrown kw_1358 (c_X11_thrown l gr N1 (r := N1 0 0) rfl _) rfl hl.1 rfl (Nat.le_of_ble_eq_true rfl) ⟨by decide, by decide⟩ ⟨by show _ ≤ 601024; omega, by show _ ≤ 7293033; omega⟩ dL_law__2184) A hZ (fun x9 N9 H locs hp hZ => ?_)
    obtain ⟨e1, e2⟩ := hp
    rw [e2] at hZ
    rw [e1]
    refine lv_iload hx hb dL_law__2187 (lv_at hl 1 rfl) ?_
    refine lv_icmp_eq (tgt := 2194) hx hb dL_law__2189 (by decide) (fun _ => ?_) (fun hne => absurd ht hne)
    refine lv_iload hx hb dL_law__2194 (lv_at hl 1 rfl) ?_
    refine lv_if_ne (tgt := 2211) hx hb dL_law__2196 (by decide) (fun _ => ?_) (fun h0 => absurd h0 (by show ¬ (1 : Int32) = 0; decide))
    refine lv_goto (tgt := 3069) hx hb dL_law__2211 (by decide) ?_
    refine W.widen (k := cells + 60) (n := slots + 360) (by omega) (by omega) ?_
    exact kk _ _ _ _ _ _ hR1 hZ (lv_sub hl [2, 3, 4, 5, 6] rfl)
  · refine lv_aload_n hx hb dL_law__2170 rfl (lv_at hl 1 rfl) ?_
    refine lv_aload_n hx hb dL_law__2171 rfl (lv_at hl 3 rfl) ?_
    refine lw_i (lrunW (n := 2) (As := [.ref (gx.2.2 0), .ref qo]) (rest := []) E hT hKo hNc A hZ kw_1246 kw_0 kw_1245 ⟨by decide, by decide, by decide +kernel⟩ kw_1244 (cw_L_witness l hst gx cO qo M v  hfx (fun _ _ h => by cases h)) rfl hl.1 rfl (Nat.le_of_ble_eq_true rfl) ⟨by decide, by decide⟩ ⟨by show cells + 46 ≤ 601024; omega, by show slots + 276 ≤ 7293033; omega⟩ dL_law__2172) A hZ (fun H locs hZ => ?_)
    have hZ : zLS gx gr cO qo s H locs M1 N (b9.toInt64) := hZ
    refine W.widen (k := cells + 48) (n := slots + 288) (by omega) (by omega) ?_
    refine lv_istore (lv' := [(5, .int 0), (0, .ref b), (1, .ref (gx.2.2 0)), (2, .ref (gr.2.2 0)), (3, .ref qo), (4, .int i)]) hx hb dL_law__2175 hl (by decide) rfl (fun ls hl => ?_)
    refine lv_aload_n hx hb dL_law__2177 rfl (lv_at hl 3 rfl) ?_
    refine lr_i (zrunV (As := []) (rest := []) Er (hZ.r A) (by decide) (re_0 _) rfl rfl v_X11_witness kw_1994 (c_X11_witness l gr N  hfr _) rfl hl.1 rfl (Nat.le_of_ble_eq_true rfl) ⟨by decide, by decide⟩ ⟨by show _ ≤ 601024; omega, by show _ ≤ 7293033; omega⟩ dL_law__2178) A hZ (fun x9 N9 H locs hp hZ => ?_)
    obtain ⟨rfl, rfl⟩ := Prod.mk.inj hp
    refine lv_istore (lv' := [(6, .int b9), (5, .int 0), (0, .ref b), (1, .ref (gx.2.2 0)), (2, .ref (gr.2.2 0)), (3, .ref qo), (4, .int i)]) hx hb dL_law__2181 hl (by decide) rfl (fun ls hl => ?_)
    refine lv_aload_n hx hb dL_law__2183 rfl (lv_at hl 4 rfl) ?_
    refine lr_i (zrunV (As := []) (rest := []) Er (hZ.r A) (by decide) (re_0 _) rfl rfl v_X11_thrown kw_1358 (c_X11_thrown l gr N1 (r := N1 0 0) rfl _) rfl hl.1 rfl (Nat.le_of_ble_eq_true rfl) ⟨by decide, by decide⟩ ⟨by show _ ≤ 601024; omega, by show _ ≤ 7293033; omega⟩ dL_law__2184) A hZ (fun x9 N9 H locs hp hZ => ?_)
    obtain ⟨e1, e2⟩ := hp
    rw [e2] at hZ
    rw [e1]
    refine lv_iload hx hb dL_law__2187 (lv_at hl 1 rfl) ?_
    refine lv_icmp_eq (tgt := 2194) hx hb dL_law__2189 (by decide) (fun _ => ?_) (fun hne => absurd ht hne)
    refine lv_iload hx hb dL_law__2194 (lv_at hl 1 rfl) ?_
    refine lv_if_ne (tgt := 2211) hx hb dL_law__2196 (by decide) (fun hne => absurd rfl hne) (fun _ => ?_)
    refine lv_aload_n hx hb dL_law__2199 rfl (lv_at hl 5 rfl) ?_
    refine lv_iconst (v := 0) hx hb dL_law__2200 (by decide) ?_
    refine va_lald hx hb hKo hZ.2.2.1 0 0 rfl rfl (zin_of (by decide)) dL_law__2201 ?_
    refine lv_iload hx hb dL_law__2202 (lv_at hl 0 rfl) ?_
    refine lv_i2l hx hb dL_law__2204 rfl ?_
    refine W.lcmp hx hb dL_law__2205 ?_
    refine lv_if_eq (tgt := 2211) hx hb dL_law__2206 (by decide) (fun _ => ?_) (fun hne => absurd (zcmp_self _) hne)
    refine lv_goto (tgt := 3069) hx hb dL_law__2211 (by decide) ?_
    refine W.widen (k := cells + 60) (n := slots + 360) (by omega) (by omega) ?_
    exact kk _ _ _ _ _ _ hR1 hZ (lv_sub hl [2, 3, 4, 5, 6] rfl)
def zs_clash (Rel Rel' : zM → zM → Prop) : Prop := ∀ (M N : zM), Rel M N → ∀ x1 x2 : Int32, zsT Rel' (f_X10_clash M x1 x2) (f_X11_clash N x1 x2) (fun k => k = 1) (fun _ => 1)
set_option maxRecDepth 100000 in
set_option maxHeartbeats 4000000 in
theorem lc_clash (C : zLC p l s m args c gx gr cO qo b L xs Ts) (hz : zs_clash Rel Rel') (hR : Rel M N) (hZ : zLS gx gr cO qo s H locs M N v) (hl : lv_has ls 7 (zLl b gx gr qo i)) (hi1 : vp_in (i + 1) L) (hi2 : vp_in (i + 2) L) (hi3 : vp_in (i + 3) L) (hi4 : vp_in (i + 4) L) (hi5 : vp_in (i + 5) L) (hc : cells + 60 ≤ 601024) (hsl : slots + 360 ≤ 7293033) (kk : zLK p l e s m args below meth c Q Rel' gx gr cO qo b i cells slots) : W p l e room_1 s m args below meth c H locs cells slots Q (F0 m 2214 ls []) := by
  obtain ⟨hst, E, Er, hT, S, hKo, hNc, A, hX, hbl⟩ := C
  have hx := E.1.1
  have hb := E.1.2.1
  have hl : lv_has ls 7 [(0, .ref b), (1, .ref (gx.2.2 0)), (2, .ref (gr.2.2 0)), (3, .ref qo), (4, .int i)] := hl
  obtain ⟨M1, b9, N1, hfr, hR1, hcc⟩ := hz M N hR (xs (i + 1).toNatClampNeg) (xs (i + 2).toNatClampNeg) 
  rcases hcc with ⟨k0, hfx, hk0, ht⟩ | ⟨hfx, ht⟩
  · refine lv_aload_n hx hb dL_law__2214 rfl (lv_at hl 1 rfl) ?_
    refine lv_aload_n hx hb dL_law__2215 rfl (lv_at hl 0 rfl) ?_
    refine lv_iload hx hb dL_law__2216 (lv_at hl 4 rfl) ?_
    refine lv_iconst (v := 1) hx hb dL_law__2218 (by decide) ?_
    refine lv_iadd hx hb dL_law__2219 ?_
    refine va_sld hx hb hX hbl (Nat.not_le.mpr hbl) hZ.2.2.2 hi1 dL_law__2220 ?_
    refine lv_aload_n hx hb dL_law__2221 rfl (lv_at hl 0 rfl) ?_
    refine lv_iload hx hb dL_law__2222 (lv_at hl 4 rfl) ?_
    refine lv_iconst (v := 2) hx hb dL_law__2224 (by decide) ?_
    refine lv_iadd hx hb dL_law__2225 ?_
    refine va_sld hx hb hX hbl (Nat.not_le.mpr hbl) hZ.2.2.2 hi2 dL_law__2226 ?_
    refine lv_aload_n hx hb dL_law__2227 rfl (lv_at hl 3 rfl) ?_
    refine lw_i (lrunW (n := 4) (As := [.ref (gx.2.2 0), .int (xs (i + 1).toNatClampNeg), .int (xs (i + 2).toNatClampNeg), .ref qo]) (rest := []) E hT hKo hNc A hZ kw_1255 kw_0 kw_1254 ⟨by decide, by decide, by decide +kernel⟩ kw_1253 (cw_L_clash l hst gx cO qo M v (xs (i + 1).toNatClampNeg) (xs (i + 2).toNatClampNeg) hfx (fun _ _ h => by cases h; exact hk0)) rfl hl.1 rfl (Nat.le_of_ble_eq_true rfl) ⟨by decide, by decide⟩ ⟨by show cells + 2 ≤ 601024; omega, by show slots + 12 ≤ 7293033; omega⟩ dL_law__2228) A hZ (fun H locs hZ => ?_)
    have hZ : zLS gx gr cO qo s H locs M1 N v := hZ
    refine W.widen (k := cells + 48) (n := slots + 288) (by omega) (by omega) ?_
    refine lv_istore (lv' := [(5, .int ((fun _ => 1) k0)), (0, .ref b), (1, .ref (gx.2.2 0)), (2, .ref (gr.2.2 0)), (3, .ref qo), (4, .int i)]) hx hb dL_law__2231 hl (by decide) rfl (fun ls hl => ?_)
    refine lv_aload_n hx hb dL_law__2233 rfl (lv_at hl 3 rfl) ?_
    refine lv_aload_n hx hb dL_law__2234 rfl (lv_at hl 1 rfl) ?_
    refine lv_iload hx hb dL_law__2235 (lv_at hl 5 rfl) ?_
    refine lv_iconst (v := 1) hx hb dL_law__2237 (by decide) ?_
    refine lv_iadd hx hb dL_law__2238 ?_
    refine va_sld hx hb hX hbl (Nat.not_le.mpr hbl) hZ.2.2.2 hi1 dL_law__2239 ?_
    refine lv_aload_n hx hb dL_law__2240 rfl (lv_at hl 1 rfl) ?_
    refine lv_iload hx hb dL_law__2241 (lv_at hl 5 rfl) ?_
    refine lv_iconst (v := 2) hx hb dL_law__2243 (by decide) ?_
    refine lv_iadd hx hb dL_law__2244 ?_
    refine va_sld hx hb hX hbl (Nat.not_le.mpr hbl) hZ.2.2.2 hi2 dL_law__2245 ?_
    refine lr_i (zrunV (As := [.int (xs (i + 1).toNatClampNeg), .int (xs (i + 2).toNatClampNeg)]) (rest := []) Er (hZ.r A) (by decide) (re_0 _) rfl rfl v_X11_clash kw_1998 (c_X11_clash l gr N (xs (i + 1).toNatClampNeg) (xs (i + 2).toNatClampNeg) hfr _) rfl hl.1 rfl (Nat.le_of_ble_eq_true rfl) ⟨by decide, by decide⟩ ⟨by show _ ≤ 601024; omega, by show _ ≤ 7293033; omega⟩ dL_law__2246) A hZ (fun x9 N9 H locs hp hZ => ?_)
    obtain ⟨rfl, rfl⟩ := Prod.mk.inj hp
    refine lv_istore (lv' := [(6, .int b9), (5, .int ((fun _ => 1) k0)), (0, .ref b), (1, .ref (gx.2.2 0)), (2, .ref (gr.2.2 0)), (3, .ref qo), (4, .int i)]) hx hb dL_law__2249 hl (by decide) rfl (fun ls hl => ?_)
    refine lv_aload_n hx hb dL_law__2251 rfl (lv_at hl 4 rfl) ?_
    refine lr_i (zrunV (As := []) (rest := []) Er (hZ.r A) (by decide) (re_0 _) rfl rfl v_X11_thrown kw_1358 (c_X11_thrown l gr N1 (r := N1 0 0) rfl _) rfl hl.1 rfl (Nat.le_of_ble_eq_true rfl) ⟨by decide, by decide⟩ ⟨by show _ ≤ 601024; omega, by show _ ≤ 7293033; omega⟩ dL_law__2252) A hZ (fun x9 N9 H locs hp hZ => ?_)
    obtain ⟨e1, e2⟩ := hp
    rw [e2] at hZ
    rw [e1]
    refine lv_iload hx hb dL_law__2255 (lv_at hl 1 rfl) ?_
    refine lv_icmp_eq (tgt := 2262) hx hb dL_law__2257 (by decide) (fun _ => ?_) (fun hne => absurd ht hne)
    refine lv_iload hx hb dL_law__2262 (lv_at hl 1 rfl) ?_
    refine lv_if_ne (tgt := 2279) hx hb dL_law__2264 (by decide) (fun _ => ?_) (fun h0 => absurd h0 (by show ¬ (1 : Int32) = 0; decide))
    refine lv_goto (tgt := 3069) hx hb dL_law__2279 (by decide) ?_
    refine W.widen (k := cells + 60) (n := slots + 360) (by omega) (by omega) ?_
    exact kk _ _ _ _ _ _ hR1 hZ (lv_sub hl [2, 3, 4, 5, 6] rfl)
  · refine lv_aload_n hx hb dL_law__2214 rfl (lv_at hl 1 rfl) ?_
    refine lv_aload_n hx hb dL_law__2215 rfl (lv_at hl 0 rfl) ?_
    refine lv_iload hx hb dL_law__2216 (lv_at hl 4 rfl) ?_
    refine lv_iconst (v := 1) hx hb dL_law__2218 (by decide) ?_
    refine lv_iadd hx hb dL_law__2219 ?_
    refine va_sld hx hb hX hbl (Nat.not_le.mpr hbl) hZ.2.2.2 hi1 dL_law__2220 ?_
    refine lv_aload_n hx hb dL_law__2221 rfl (lv_at hl 0 rfl) ?_
    refine lv_iload hx hb dL_law__2222 (lv_at hl 4 rfl) ?_
    refine lv_iconst (v := 2) hx hb dL_law__2224 (by decide) ?_
    refine lv_iadd hx hb dL_law__2225 ?_
    refine va_sld hx hb hX hbl (Nat.not_le.mpr hbl) hZ.2.2.2 hi2 dL_law__2226 ?_
    refine lv_aload_n hx hb dL_law__2227 rfl (lv_at hl 3 rfl) ?_
    refine lw_i (lrunW (n := 4) (As := [.ref (gx.2.2 0), .int (xs (i + 1).toNatClampNeg), .int (xs (i + 2).toNatClampNeg), .ref qo]) (rest := []) E hT hKo hNc A hZ kw_1255 kw_0 kw_1254 ⟨by decide, by decide, by decide +kernel⟩ kw_1253 (cw_L_clash l hst gx cO qo M v (xs (i + 1).toNatClampNeg) (xs (i + 2).toNatClampNeg) hfx (fun _ _ h => by cases h)) rfl hl.1 rfl (Nat.le_of_ble_eq_true rfl) ⟨by decide, by decide⟩ ⟨by show cells + 2 ≤ 601024; omega, by show slots + 12 ≤ 7293033; omega⟩ dL_law__2228) A hZ (fun H locs hZ => ?_)
    have hZ : zLS gx gr cO qo s H locs M1 N (b9.toInt64) := hZ
    refine W.widen (k := cells + 48) (n := slots + 288) (by omega) (by omega) ?_
    refine lv_istore (lv' := [(5, .int 0), (0, .ref b), (1, .ref (gx.2.2 0)), (2, .ref (gr.2.2 0)), (3, .ref qo), (4, .int i)]) hx hb dL_law__2231 hl (by decide) rfl (fun ls hl => ?_)
    refine lv_aload_n hx hb dL_law__2233 rfl (lv_at hl 3 rfl) ?_
    refine lv_aload_n hx hb dL_law__2234 rfl (lv_at hl 1 rfl) ?_
    refine lv_iload hx hb dL_law__2235 (lv_at hl 5 rfl) ?_
    refine lv_iconst (v := 1) hx hb dL_law__2237 (by decide) ?_
    refine lv_iadd hx hb dL_law__2238 ?_
    refine va_sld hx hb hX hbl (Nat.not_le.mpr hbl) hZ.2.2.2 hi1 dL_law__2239 ?_
    refine lv_aload_n hx hb dL_law__2240 rfl (lv_at hl 1 rfl) ?_
    refine lv_iload hx hb dL_law__2241 (lv_at hl 5 rfl) ?_
    refine lv_iconst (v := 2) hx hb dL_law__2243 (by decide) ?_
    refine lv_iadd hx hb dL_law__2244 ?_
    refine va_sld hx hb hX hbl (Nat.not_le.mpr hbl) hZ.2.2.2 hi2 dL_law__2245 ?_
    refine lr_i (zrunV (As := [.int (xs (i + 1).toNatClampNeg), .int (xs (i + 2).toNatClampNeg)]) (rest := []) Er (hZ.r A) (by decide) (re_0 _) rfl rfl v_X11_clash kw_1998 (c_X11_clash l gr N (xs (i + 1).toNatClampNeg) (xs (i + 2).toNatClampNeg) hfr _) rfl hl.1 rfl (Nat.le_of_ble_eq_true rfl) ⟨by decide, by decide⟩ ⟨by show _ ≤ 601024; omega, by show _ ≤ 7293033; omega⟩ dL_law__2246) A hZ (fun x9 N9 H locs hp hZ => ?_)
    obtain ⟨rfl, rfl⟩ := Prod.mk.inj hp
    refine lv_istore (lv' := [(6, .int b9), (5, .int 0), (0, .ref b), (1, .ref (gx.2.2 0)), (2, .ref (gr.2.2 0)), (3, .ref qo), (4, .int i)]) hx hb dL_law__2249 hl (by decide) rfl (fun ls hl => ?_)
    refine lv_aload_n hx hb dL_law__2251 rfl (lv_at hl 4 rfl) ?_
    refine lr_i (zrunV (As := []) (rest := []) Er (hZ.r A) (by decide) (re_0 _) rfl rfl v_X11_thrown kw_1358 (c_X11_thrown l gr N1 (r := N1 0 0) rfl _) rfl hl.1 rfl (Nat.le_of_ble_eq_true rfl) ⟨by decide, by decide⟩ ⟨by show _ ≤ 601024; omega, by show _ ≤ 7293033; omega⟩ dL_law__2252) A hZ (fun x9 N9 H locs hp hZ => ?_)
    obtain ⟨e1, e2⟩ := hp
    rw [e2] at hZ
    rw [e1]
    refine lv_iload hx hb dL_law__2255 (lv_at hl 1 rfl) ?_
    refine lv_icmp_eq (tgt := 2262) hx hb dL_law__2257 (by decide) (fun _ => ?_) (fun hne => absurd ht hne)
    refine lv_iload hx hb dL_law__2262 (lv_at hl 1 rfl) ?_
    refine lv_if_ne (tgt := 2279) hx hb dL_law__2264 (by decide) (fun hne => absurd rfl hne) (fun _ => ?_)
    refine lv_aload_n hx hb dL_law__2267 rfl (lv_at hl 5 rfl) ?_
    refine lv_iconst (v := 0) hx hb dL_law__2268 (by decide) ?_
    refine va_lald hx hb hKo hZ.2.2.1 0 0 rfl rfl (zin_of (by decide)) dL_law__2269 ?_
    refine lv_iload hx hb dL_law__2270 (lv_at hl 0 rfl) ?_
    refine lv_i2l hx hb dL_law__2272 rfl ?_
    refine W.lcmp hx hb dL_law__2273 ?_
    refine lv_if_eq (tgt := 2279) hx hb dL_law__2274 (by decide) (fun _ => ?_) (fun hne => absurd (zcmp_self _) hne)
    refine lv_goto (tgt := 3069) hx hb dL_law__2279 (by decide) ?_
    refine W.widen (k := cells + 60) (n := slots + 360) (by omega) (by omega) ?_
    exact kk _ _ _ _ _ _ hR1 hZ (lv_sub hl [2, 3, 4, 5, 6] rfl)
def zs_blank (Rel Rel' : zM → zM → Prop) : Prop := ∀ (M N : zM), Rel M N → zsR Rel' M (f_X10_blank M ) (f_X11_blank N )
set_option maxRecDepth 100000 in
set_option maxHeartbeats 4000000 in
theorem lc_blank (C : zLC p l s m args c gx gr cO qo b L xs Ts) (hz : zs_blank Rel Rel') (hR : Rel M N) (hZ : zLS gx gr cO qo s H locs M N v) (hl : lv_has ls 7 (zLl b gx gr qo i)) (hi1 : vp_in (i + 1) L) (hi2 : vp_in (i + 2) L) (hi3 : vp_in (i + 3) L) (hi4 : vp_in (i + 4) L) (hi5 : vp_in (i + 5) L) (hc : cells + 60 ≤ 601024) (hsl : slots + 360 ≤ 7293033) (kk : zLK p l e s m args below meth c Q Rel' gx gr cO qo b i cells slots) : W p l e room_1 s m args below meth c H locs cells slots Q (F0 m 2282 ls []) := by
  obtain ⟨hst, E, Er, hT, S, hKo, hNc, A, hX, hbl⟩ := C
  have hx := E.1.1
  have hb := E.1.2.1
  have hl : lv_has ls 7 [(0, .ref b), (1, .ref (gx.2.2 0)), (2, .ref (gr.2.2 0)), (3, .ref qo), (4, .int i)] := hl
  obtain ⟨b9, N1, hfx, hfr, hR1⟩ := hz M N hR  
  refine lv_aload_n hx hb dL_law__2282 rfl (lv_at hl 1 rfl) ?_
  refine lx_i (zrunV (As := []) (rest := []) E (hZ.x A) (xb_X10 xs_0) (xe_X10 xs_0 _) rfl rfl v_X10_blank kw_417 (c_X10_blank l gx M  hfx _) rfl hl.1 rfl (Nat.le_of_ble_eq_true rfl) ⟨by decide, by decide⟩ ⟨by show _ ≤ 601024; omega, by show _ ≤ 7293033; omega⟩ dL_law__2283) A hZ (fun x9 M9 H locs hp hZ => ?_)
  obtain ⟨e1, e2⟩ := hp
  rw [e2] at hZ
  rw [e1]
  refine lv_aload_n hx hb dL_law__2286 rfl (lv_at hl 2 rfl) ?_
  refine lr_i (zrunV (As := []) (rest := [.int b9]) Er (hZ.r A) (by decide) (re_0 _) rfl rfl v_X11_blank kw_2009 (c_X11_blank l gr N  hfr _) rfl hl.1 rfl (Nat.le_of_ble_eq_true rfl) ⟨by decide, by decide⟩ ⟨by show _ ≤ 601024; omega, by show _ ≤ 7293033; omega⟩ dL_law__2287) A hZ (fun x9 N9 H locs hp hZ => ?_)
  obtain ⟨rfl, rfl⟩ := Prod.mk.inj hp
  refine lv_icmp_eq (tgt := 3069) hx hb dL_law__2290 (by decide) (fun _ => ?_) (fun hne => absurd rfl hne)
  refine W.widen (k := cells + 60) (n := slots + 360) (by omega) (by omega) ?_
  exact kk _ _ _ _ _ _ hR1 hZ (lv_sub hl [0, 1, 2, 3, 4] rfl)
def zs_neaps (Rel Rel' : zM → zM → Prop) : Prop := ∀ (M N : zM), Rel M N → zsR Rel' M (f_X10_neaps M ) (f_X11_neaps N )
set_option maxRecDepth 100000 in
set_option maxHeartbeats 4000000 in
theorem lc_neaps (C : zLC p l s m args c gx gr cO qo b L xs Ts) (hz : zs_neaps Rel Rel') (hR : Rel M N) (hZ : zLS gx gr cO qo s H locs M N v) (hl : lv_has ls 7 (zLl b gx gr qo i)) (hi1 : vp_in (i + 1) L) (hi2 : vp_in (i + 2) L) (hi3 : vp_in (i + 3) L) (hi4 : vp_in (i + 4) L) (hi5 : vp_in (i + 5) L) (hc : cells + 60 ≤ 601024) (hsl : slots + 360 ≤ 7293033) (kk : zLK p l e s m args below meth c Q Rel' gx gr cO qo b i cells slots) : W p l e room_1 s m args below meth c H locs cells slots Q (F0 m 2295 ls []) := by
  obtain ⟨hst, E, Er, hT, S, hKo, hNc, A, hX, hbl⟩ := C
  have hx := E.1.1
  have hb := E.1.2.1
  have hl : lv_has ls 7 [(0, .ref b), (1, .ref (gx.2.2 0)), (2, .ref (gr.2.2 0)), (3, .ref qo), (4, .int i)] := hl
  obtain ⟨b9, N1, hfx, hfr, hR1⟩ := hz M N hR  
  refine lv_aload_n hx hb dL_law__2295 rfl (lv_at hl 1 rfl) ?_
  refine lx_i (zrunV (As := []) (rest := []) E (hZ.x A) (xb_X10 xs_0) (xe_X10 xs_0 _) rfl rfl v_X10_neaps kw_428 (c_X10_neaps l gx M  hfx _) rfl hl.1 rfl (Nat.le_of_ble_eq_true rfl) ⟨by decide, by decide⟩ ⟨by show _ ≤ 601024; omega, by show _ ≤ 7293033; omega⟩ dL_law__2296) A hZ (fun x9 M9 H locs hp hZ => ?_)
  obtain ⟨e1, e2⟩ := hp
  rw [e2] at hZ
  rw [e1]
  refine lv_aload_n hx hb dL_law__2299 rfl (lv_at hl 2 rfl) ?_
  refine lr_i (zrunV (As := []) (rest := [.int b9]) Er (hZ.r A) (by decide) (re_0 _) rfl rfl v_X11_neaps kw_1733 (c_X11_neaps l gr N  hfr _) rfl hl.1 rfl (Nat.le_of_ble_eq_true rfl) ⟨by decide, by decide⟩ ⟨by show _ ≤ 601024; omega, by show _ ≤ 7293033; omega⟩ dL_law__2300) A hZ (fun x9 N9 H locs hp hZ => ?_)
  obtain ⟨rfl, rfl⟩ := Prod.mk.inj hp
  refine lv_icmp_eq (tgt := 3069) hx hb dL_law__2303 (by decide) (fun _ => ?_) (fun hne => absurd rfl hne)
  refine W.widen (k := cells + 60) (n := slots + 360) (by omega) (by omega) ?_
  exact kk _ _ _ _ _ _ hR1 hZ (lv_sub hl [0, 1, 2, 3, 4] rfl)
def zs_stranded (Rel Rel' : zM → zM → Prop) : Prop := ∀ (M N : zM), Rel M N → zsS Rel' (f_X10_stranded M ) (f_X11_stranded N )
set_option maxRecDepth 100000 in
set_option maxHeartbeats 4000000 in
theorem lc_stranded (C : zLC p l s m args c gx gr cO qo b L xs Ts) (hz : zs_stranded Rel Rel') (hR : Rel M N) (hZ : zLS gx gr cO qo s H locs M N v) (hl : lv_has ls 7 (zLl b gx gr qo i)) (hi1 : vp_in (i + 1) L) (hi2 : vp_in (i + 2) L) (hi3 : vp_in (i + 3) L) (hi4 : vp_in (i + 4) L) (hi5 : vp_in (i + 5) L) (hc : cells + 60 ≤ 601024) (hsl : slots + 360 ≤ 7293033) (kk : zLK p l e s m args below meth c Q Rel' gx gr cO qo b i cells slots) : W p l e room_1 s m args below meth c H locs cells slots Q (F0 m 2308 ls []) := by
  obtain ⟨hst, E, Er, hT, S, hKo, hNc, A, hX, hbl⟩ := C
  have hx := E.1.1
  have hb := E.1.2.1
  have hl : lv_has ls 7 [(0, .ref b), (1, .ref (gx.2.2 0)), (2, .ref (gr.2.2 0)), (3, .ref qo), (4, .int i)] := hl
  obtain ⟨b9, M1, N1, hfx, hfr, hR1⟩ := hz M N hR  
  refine lv_aload_n hx hb dL_law__2308 rfl (lv_at hl 1 rfl) ?_
  refine lx_i (zrunV (As := []) (rest := []) E (hZ.x A) (xb_X10 xs_0) (xe_X10 xs_0 _) rfl rfl v_X10_stranded kw_436 (c_X10_stranded l gx M  hfx _) rfl hl.1 rfl (Nat.le_of_ble_eq_true rfl) ⟨by decide, by decide⟩ ⟨by show _ ≤ 601024; omega, by show _ ≤ 7293033; omega⟩ dL_law__2309) A hZ (fun x9 M9 H locs hp hZ => ?_)
  obtain ⟨rfl, rfl⟩ := Prod.mk.inj hp
  refine lv_aload_n hx hb dL_law__2312 rfl (lv_at hl 2 rfl) ?_
  refine lr_i (zrunV (As := []) (rest := [.int b9]) Er (hZ.r A) (by decide) (re_0 _) rfl rfl v_X11_stranded kw_1903 (c_X11_stranded l gr N  hfr _) rfl hl.1 rfl (Nat.le_of_ble_eq_true rfl) ⟨by decide, by decide⟩ ⟨by show _ ≤ 601024; omega, by show _ ≤ 7293033; omega⟩ dL_law__2313) A hZ (fun x9 N9 H locs hp hZ => ?_)
  obtain ⟨rfl, rfl⟩ := Prod.mk.inj hp
  refine lv_icmp_eq (tgt := 3069) hx hb dL_law__2316 (by decide) (fun _ => ?_) (fun hne => absurd rfl hne)
  refine W.widen (k := cells + 60) (n := slots + 360) (by omega) (by omega) ?_
  exact kk _ _ _ _ _ _ hR1 hZ (lv_sub hl [0, 1, 2, 3, 4] rfl)
def zs_ahead (Rel Rel' : zM → zM → Prop) : Prop := ∀ (M N : zM), Rel M N → ∀ x1 x2 : Int32, zsT Rel' (f_X10_ahead M x1 x2) (f_X11_ahead N x1 x2) (fun k => k = 0 ∨ k = 1) (fun k => if k = 0 then 1 else 2)
set_option maxRecDepth 100000 in
set_option maxHeartbeats 4000000 in
theorem lc_ahead (C : zLC p l s m args c gx gr cO qo b L xs Ts) (hz : zs_ahead Rel Rel') (hR : Rel M N) (hZ : zLS gx gr cO qo s H locs M N v) (hl : lv_has ls 7 (zLl b gx gr qo i)) (hi1 : vp_in (i + 1) L) (hi2 : vp_in (i + 2) L) (hi3 : vp_in (i + 3) L) (hi4 : vp_in (i + 4) L) (hi5 : vp_in (i + 5) L) (hc : cells + 60 ≤ 601024) (hsl : slots + 360 ≤ 7293033) (kk : zLK p l e s m args below meth c Q Rel' gx gr cO qo b i cells slots) : W p l e room_1 s m args below meth c H locs cells slots Q (F0 m 2321 ls []) := by
  obtain ⟨hst, E, Er, hT, S, hKo, hNc, A, hX, hbl⟩ := C
  have hx := E.1.1
  have hb := E.1.2.1
  have hl : lv_has ls 7 [(0, .ref b), (1, .ref (gx.2.2 0)), (2, .ref (gr.2.2 0)), (3, .ref qo), (4, .int i)] := hl
  obtain ⟨M1, b9, N1, hfr, hR1, hcc⟩ := hz M N hR (xs (i + 1).toNatClampNeg) (xs (i + 2).toNatClampNeg) 
  rcases hcc with ⟨k0, hfx, hk0, ht⟩ | ⟨hfx, ht⟩
  · refine lv_aload_n hx hb dL_law__2321 rfl (lv_at hl 1 rfl) ?_
    refine lv_aload_n hx hb dL_law__2322 rfl (lv_at hl 0 rfl) ?_
    refine lv_iload hx hb dL_law__2323 (lv_at hl 4 rfl) ?_
    refine lv_iconst (v := 1) hx hb dL_law__2325 (by decide) ?_
    refine lv_iadd hx hb dL_law__2326 ?_
    refine va_sld hx hb hX hbl (Nat.not_le.mpr hbl) hZ.2.2.2 hi1 dL_law__2327 ?_
    refine lv_aload_n hx hb dL_law__2328 rfl (lv_at hl 0 rfl) ?_
    refine lv_iload hx hb dL_law__2329 (lv_at hl 4 rfl) ?_
    refine lv_iconst (v := 2) hx hb dL_law__2331 (by decide) ?_
    refine lv_iadd hx hb dL_law__2332 ?_
    refine va_sld hx hb hX hbl (Nat.not_le.mpr hbl) hZ.2.2.2 hi2 dL_law__2333 ?_
    refine lv_aload_n hx hb dL_law__2334 rfl (lv_at hl 3 rfl) ?_
    refine lw_i (lrunW (n := 4) (As := [.ref (gx.2.2 0), .int (xs (i + 1).toNatClampNeg), .int (xs (i + 2).toNatClampNeg), .ref qo]) (rest := []) E hT hKo hNc A hZ kw_1265 kw_0 kw_1264 ⟨by decide, by decide, by decide +kernel⟩ kw_1263 (cw_L_ahead l hst gx cO qo M v (xs (i + 1).toNatClampNeg) (xs (i + 2).toNatClampNeg) hfx (fun _ _ h => by cases h; exact hk0)) rfl hl.1 rfl (Nat.le_of_ble_eq_true rfl) ⟨by decide, by decide⟩ ⟨by show cells + 2 ≤ 601024; omega, by show slots + 12 ≤ 7293033; omega⟩ dL_law__2335) A hZ (fun H locs hZ => ?_)
    have hZ : zLS gx gr cO qo s H locs M1 N v := hZ
    refine W.widen (k := cells + 48) (n := slots + 288) (by omega) (by omega) ?_
    refine lv_istore (lv' := [(5, .int ((fun k => if k = 0 then 1 else 2) k0)), (0, .ref b), (1, .ref (gx.2.2 0)), (2, .ref (gr.2.2 0)), (3, .ref qo), (4, .int i)]) hx hb dL_law__2338 hl (by decide) rfl (fun ls hl => ?_)
    refine lv_aload_n hx hb dL_law__2340 rfl (lv_at hl 3 rfl) ?_
    refine lv_aload_n hx hb dL_law__2341 rfl (lv_at hl 1 rfl) ?_
    refine lv_iload hx hb dL_law__2342 (lv_at hl 5 rfl) ?_
    refine lv_iconst (v := 1) hx hb dL_law__2344 (by decide) ?_
    refine lv_iadd hx hb dL_law__2345 ?_
    refine va_sld hx hb hX hbl (Nat.not_le.mpr hbl) hZ.2.2.2 hi1 dL_law__2346 ?_
    refine lv_aload_n hx hb dL_law__2347 rfl (lv_at hl 1 rfl) ?_
    refine lv_iload hx hb dL_law__2348 (lv_at hl 5 rfl) ?_
    refine lv_iconst (v := 2) hx hb dL_law__2350 (by decide) ?_
    refine lv_iadd hx hb dL_law__2351 ?_
    refine va_sld hx hb hX hbl (Nat.not_le.mpr hbl) hZ.2.2.2 hi2 dL_law__2352 ?_
    refine lr_i (zrunV (As := [.int (xs (i + 1).toNatClampNeg), .int (xs (i + 2).toNatClampNeg)]) (rest := []) Er (hZ.r A) (by decide) (re_0 _) rfl rfl v_X11_ahead kw_1875 (c_X11_ahead l gr N (xs (i + 1).toNatClampNeg) (xs (i + 2).toNatClampNeg) hfr _) rfl hl.1 rfl (Nat.le_of_ble_eq_true rfl) ⟨by decide, by decide⟩ ⟨by show _ ≤ 601024; omega, by show _ ≤ 7293033; omega⟩ dL_law__2353) A hZ (fun x9 N9 H locs hp hZ => ?_)
    obtain ⟨rfl, rfl⟩ := Prod.mk.inj hp
    refine lv_istore (lv' := [(6, .int b9), (5, .int ((fun k => if k = 0 then 1 else 2) k0)), (0, .ref b), (1, .ref (gx.2.2 0)), (2, .ref (gr.2.2 0)), (3, .ref qo), (4, .int i)]) hx hb dL_law__2356 hl (by decide) rfl (fun ls hl => ?_)
    refine lv_aload_n hx hb dL_law__2358 rfl (lv_at hl 4 rfl) ?_
    refine lr_i (zrunV (As := []) (rest := []) Er (hZ.r A) (by decide) (re_0 _) rfl rfl v_X11_thrown kw_1358 (c_X11_thrown l gr N1 (r := N1 0 0) rfl _) rfl hl.1 rfl (Nat.le_of_ble_eq_true rfl) ⟨by decide, by decide⟩ ⟨by show _ ≤ 601024; omega, by show _ ≤ 7293033; omega⟩ dL_law__2359) A hZ (fun x9 N9 H locs hp hZ => ?_)
    obtain ⟨e1, e2⟩ := hp
    rw [e2] at hZ
    rw [e1]
    refine lv_iload hx hb dL_law__2362 (lv_at hl 1 rfl) ?_
    refine lv_icmp_eq (tgt := 2369) hx hb dL_law__2364 (by decide) (fun _ => ?_) (fun hne => absurd ht hne)
    refine lv_iload hx hb dL_law__2369 (lv_at hl 1 rfl) ?_
    refine lv_if_ne (tgt := 2386) hx hb dL_law__2371 (by decide) (fun _ => ?_) (fun h0 => absurd h0 (by show ¬ (if k0 = 0 then (1 : Int32) else 2) = 0; split <;> decide))
    refine lv_goto (tgt := 3069) hx hb dL_law__2386 (by decide) ?_
    refine W.widen (k := cells + 60) (n := slots + 360) (by omega) (by omega) ?_
    exact kk _ _ _ _ _ _ hR1 hZ (lv_sub hl [2, 3, 4, 5, 6] rfl)
  · refine lv_aload_n hx hb dL_law__2321 rfl (lv_at hl 1 rfl) ?_
    refine lv_aload_n hx hb dL_law__2322 rfl (lv_at hl 0 rfl) ?_
    refine lv_iload hx hb dL_law__2323 (lv_at hl 4 rfl) ?_
    refine lv_iconst (v := 1) hx hb dL_law__2325 (by decide) ?_
    refine lv_iadd hx hb dL_law__2326 ?_
    refine va_sld hx hb hX hbl (Nat.not_le.mpr hbl) hZ.2.2.2 hi1 dL_law__2327 ?_
    refine lv_aload_n hx hb dL_law__2328 rfl (lv_at hl 0 rfl) ?_
    refine lv_iload hx hb dL_law__2329 (lv_at hl 4 rfl) ?_
    refine lv_iconst (v := 2) hx hb dL_law__2331 (by decide) ?_
    refine lv_iadd hx hb dL_law__2332 ?_
    refine va_sld hx hb hX hbl (Nat.not_le.mpr hbl) hZ.2.2.2 hi2 dL_law__2333 ?_
    refine lv_aload_n hx hb dL_law__2334 rfl (lv_at hl 3 rfl) ?_
    refine lw_i (lrunW (n := 4) (As := [.ref (gx.2.2 0), .int (xs (i + 1).toNatClampNeg), .int (xs (i + 2).toNatClampNeg), .ref qo]) (rest := []) E hT hKo hNc A hZ kw_1265 kw_0 kw_1264 ⟨by decide, by decide, by decide +kernel⟩ kw_1263 (cw_L_ahead l hst gx cO qo M v (xs (i + 1).toNatClampNeg) (xs (i + 2).toNatClampNeg) hfx (fun _ _ h => by cases h)) rfl hl.1 rfl (Nat.le_of_ble_eq_true rfl) ⟨by decide, by decide⟩ ⟨by show cells + 2 ≤ 601024; omega, by show slots + 12 ≤ 7293033; omega⟩ dL_law__2335) A hZ (fun H locs hZ => ?_)
    have hZ : zLS gx gr cO qo s H locs M1 N (b9.toInt64) := hZ
    refine W.widen (k := cells + 48) (n := slots + 288) (by omega) (by omega) ?_
    refine lv_istore (lv' := [(5, .int 0), (0, .ref b), (1, .ref (gx.2.2 0)), (2, .ref (gr.2.2 0)), (3, .ref qo), (4, .int i)]) hx hb dL_law__2338 hl (by decide) rfl (fun ls hl => ?_)
    refine lv_aload_n hx hb dL_law__2340 rfl (lv_at hl 3 rfl) ?_
    refine lv_aload_n hx hb dL_law__2341 rfl (lv_at hl 1 rfl) ?_
    refine lv_iload hx hb dL_law__2342 (lv_at hl 5 rfl) ?_
    refine lv_iconst (v := 1) hx hb dL_law__2344 (by decide) ?_
    refine lv_iadd hx hb dL_law__2345 ?_
    refine va_sld hx hb hX hbl (Nat.not_le.mpr hbl) hZ.2.2.2 hi1 dL_law__2346 ?_
    refine lv_aload_n hx hb dL_law__2347 rfl (lv_at hl 1 rfl) ?_
    refine lv_iload hx hb dL_law__2348 (lv_at hl 5 rfl) ?_
    refine lv_iconst (v := 2) hx hb dL_law__2350 (by decide) ?_
    refine lv_iadd hx hb dL_law__2351 ?_
    refine va_sld hx hb hX hbl (Nat.not_le.mpr hbl) hZ.2.2.2 hi2 dL_law__2352 ?_
    refine lr_i (zrunV (As := [.int (xs (i + 1).toNatClampNeg), .int (xs (i + 2).toNatClampNeg)]) (rest := []) Er (hZ.r A) (by decide) (re_0 _) rfl rfl v_X11_ahead kw_1875 (c_X11_ahead l gr N (xs (i + 1).toNatClampNeg) (xs (i + 2).toNatClampNeg) hfr _) rfl hl.1 rfl (Nat.le_of_ble_eq_true rfl) ⟨by decide, by decide⟩ ⟨by show _ ≤ 601024; omega, by show _ ≤ 7293033; omega⟩ dL_law__2353) A hZ (fun x9 N9 H locs hp hZ => ?_)
    obtain ⟨rfl, rfl⟩ := Prod.mk.inj hp
    refine lv_istore (lv' := [(6, .int b9), (5, .int 0), (0, .ref b), (1, .ref (gx.2.2 0)), (2, .ref (gr.2.2 0)), (3, .ref qo), (4, .int i)]) hx hb dL_law__2356 hl (by decide) rfl (fun ls hl => ?_)
    refine lv_aload_n hx hb dL_law__2358 rfl (lv_at hl 4 rfl) ?_
    refine lr_i (zrunV (As := []) (rest := []) Er (hZ.r A) (by decide) (re_0 _) rfl rfl v_X11_thrown kw_1358 (c_X11_thrown l gr N1 (r := N1 0 0) rfl _) rfl hl.1 rfl (Nat.le_of_ble_eq_true rfl) ⟨by decide, by decide⟩ ⟨by show _ ≤ 601024; omega, by show _ ≤ 7293033; omega⟩ dL_law__2359) A hZ (fun x9 N9 H locs hp hZ => ?_)
    obtain ⟨e1, e2⟩ := hp
    rw [e2] at hZ
    rw [e1]
    refine lv_iload hx hb dL_law__2362 (lv_at hl 1 rfl) ?_
    refine lv_icmp_eq (tgt := 2369) hx hb dL_law__2364 (by decide) (fun _ => ?_) (fun hne => absurd ht hne)
    refine lv_iload hx hb dL_law__2369 (lv_at hl 1 rfl) ?_
    refine lv_if_ne (tgt := 2386) hx hb dL_law__2371 (by decide) (fun hne => absurd rfl hne) (fun _ => ?_)
    refine lv_aload_n hx hb dL_law__2374 rfl (lv_at hl 5 rfl) ?_
    refine lv_iconst (v := 0) hx hb dL_law__2375 (by decide) ?_
    refine va_lald hx hb hKo hZ.2.2.1 0 0 rfl rfl (zin_of (by decide)) dL_law__2376 ?_
    refine lv_iload hx hb dL_law__2377 (lv_at hl 0 rfl) ?_
    refine lv_i2l hx hb dL_law__2379 rfl ?_
    refine W.lcmp hx hb dL_law__2380 ?_
    refine lv_if_eq (tgt := 2386) hx hb dL_law__2381 (by decide) (fun _ => ?_) (fun hne => absurd (zcmp_self _) hne)
    refine lv_goto (tgt := 3069) hx hb dL_law__2386 (by decide) ?_
    refine W.widen (k := cells + 60) (n := slots + 360) (by omega) (by omega) ?_
    exact kk _ _ _ _ _ _ hR1 hZ (lv_sub hl [2, 3, 4, 5, 6] rfl)
def zs_doomed (Rel Rel' : zM → zM → Prop) : Prop := ∀ (M N : zM), Rel M N → ∀ x1 : Int32, zsT Rel' (f_X10_doomed M x1) (f_X11_doomed N x1) (fun k => k = 1) (fun _ => 1)
set_option maxRecDepth 100000 in
set_option maxHeartbeats 4000000 in
theorem lc_doomed (C : zLC p l s m args c gx gr cO qo b L xs Ts) (hz : zs_doomed Rel Rel') (hR : Rel M N) (hZ : zLS gx gr cO qo s H locs M N v) (hl : lv_has ls 7 (zLl b gx gr qo i)) (hi1 : vp_in (i + 1) L) (hi2 : vp_in (i + 2) L) (hi3 : vp_in (i + 3) L) (hi4 : vp_in (i + 4) L) (hi5 : vp_in (i + 5) L) (hc : cells + 60 ≤ 601024) (hsl : slots + 360 ≤ 7293033) (kk : zLK p l e s m args below meth c Q Rel' gx gr cO qo b i cells slots) : W p l e room_1 s m args below meth c H locs cells slots Q (F0 m 2389 ls []) := by
  obtain ⟨hst, E, Er, hT, S, hKo, hNc, A, hX, hbl⟩ := C
  have hx := E.1.1
  have hb := E.1.2.1
  have hl : lv_has ls 7 [(0, .ref b), (1, .ref (gx.2.2 0)), (2, .ref (gr.2.2 0)), (3, .ref qo), (4, .int i)] := hl
  obtain ⟨M1, b9, N1, hfr, hR1, hcc⟩ := hz M N hR (xs (i + 1).toNatClampNeg) 
  rcases hcc with ⟨k0, hfx, hk0, ht⟩ | ⟨hfx, ht⟩
  · refine lv_aload_n hx hb dL_law__2389 rfl (lv_at hl 1 rfl) ?_
    refine lv_aload_n hx hb dL_law__2390 rfl (lv_at hl 0 rfl) ?_
    refine lv_iload hx hb dL_law__2391 (lv_at hl 4 rfl) ?_
    refine lv_iconst (v := 1) hx hb dL_law__2393 (by decide) ?_
    refine lv_iadd hx hb dL_law__2394 ?_
    refine va_sld hx hb hX hbl (Nat.not_le.mpr hbl) hZ.2.2.2 hi1 dL_law__2395 ?_
    refine lv_aload_n hx hb dL_law__2396 rfl (lv_at hl 3 rfl) ?_
    refine lw_i (lrunW (n := 3) (As := [.ref (gx.2.2 0), .int (xs (i + 1).toNatClampNeg), .ref qo]) (rest := []) E hT hKo hNc A hZ kw_1272 kw_0 kw_1271 ⟨by decide, by decide, by decide +kernel⟩ kw_1270 (cw_L_doomed l hst gx cO qo M v (xs (i + 1).toNatClampNeg) hfx (fun _ _ h => by cases h; exact hk0)) rfl hl.1 rfl (Nat.le_of_ble_eq_true rfl) ⟨by decide, by decide⟩ ⟨by show cells + 1 ≤ 601024; omega, by show slots + 6 ≤ 7293033; omega⟩ dL_law__2397) A hZ (fun H locs hZ => ?_)
    have hZ : zLS gx gr cO qo s H locs M1 N v := hZ
    refine W.widen (k := cells + 48) (n := slots + 288) (by omega) (by omega) ?_
    refine lv_istore (lv' := [(5, .int ((fun _ => 1) k0)), (0, .ref b), (1, .ref (gx.2.2 0)), (2, .ref (gr.2.2 0)), (3, .ref qo), (4, .int i)]) hx hb dL_law__2400 hl (by decide) rfl (fun ls hl => ?_)
    refine lv_aload_n hx hb dL_law__2402 rfl (lv_at hl 3 rfl) ?_
    refine lv_aload_n hx hb dL_law__2403 rfl (lv_at hl 1 rfl) ?_
    refine lv_iload hx hb dL_law__2404 (lv_at hl 5 rfl) ?_
    refine lv_iconst (v := 1) hx hb dL_law__2406 (by decide) ?_
    refine lv_iadd hx hb dL_law__2407 ?_
    refine va_sld hx hb hX hbl (Nat.not_le.mpr hbl) hZ.2.2.2 hi1 dL_law__2408 ?_
    refine lr_i (zrunV (As := [.int (xs (i + 1).toNatClampNeg)]) (rest := []) Er (hZ.r A) (by decide) (re_0 _) rfl rfl v_X11_doomed kw_1887 (c_X11_doomed l gr N (xs (i + 1).toNatClampNeg) hfr _) rfl hl.1 rfl (Nat.le_of_ble_eq_true rfl) ⟨by decide, by decide⟩ ⟨by show _ ≤ 601024; omega, by show _ ≤ 7293033; omega⟩ dL_law__2409) A hZ (fun x9 N9 H locs hp hZ => ?_)
    obtain ⟨rfl, rfl⟩ := Prod.mk.inj hp
    refine lv_istore (lv' := [(6, .int b9), (5, .int ((fun _ => 1) k0)), (0, .ref b), (1, .ref (gx.2.2 0)), (2, .ref (gr.2.2 0)), (3, .ref qo), (4, .int i)]) hx hb dL_law__2412 hl (by decide) rfl (fun ls hl => ?_)
    refine lv_aload_n hx hb dL_law__2414 rfl (lv_at hl 4 rfl) ?_
    refine lr_i (zrunV (As := []) (rest := []) Er (hZ.r A) (by decide) (re_0 _) rfl rfl v_X11_thrown kw_1358 (c_X11_thrown l gr N1 (r := N1 0 0) rfl _) rfl hl.1 rfl (Nat.le_of_ble_eq_true rfl) ⟨by decide, by decide⟩ ⟨by show _ ≤ 601024; omega, by show _ ≤ 7293033; omega⟩ dL_law__2415) A hZ (fun x9 N9 H locs hp hZ => ?_)
    obtain ⟨e1, e2⟩ := hp
    rw [e2] at hZ
    rw [e1]
    refine lv_iload hx hb dL_law__2418 (lv_at hl 1 rfl) ?_
    refine lv_icmp_eq (tgt := 2425) hx hb dL_law__2420 (by decide) (fun _ => ?_) (fun hne => absurd ht hne)
    refine lv_iload hx hb dL_law__2425 (lv_at hl 1 rfl) ?_
    refine lv_if_ne (tgt := 2442) hx hb dL_law__2427 (by decide) (fun _ => ?_) (fun h0 => absurd h0 (by show ¬ (1 : Int32) = 0; decide))
    refine lv_goto (tgt := 3069) hx hb dL_law__2442 (by decide) ?_
    refine W.widen (k := cells + 60) (n := slots + 360) (by omega) (by omega) ?_
    exact kk _ _ _ _ _ _ hR1 hZ (lv_sub hl [2, 3, 4, 5, 6] rfl)
  · refine lv_aload_n hx hb dL_law__2389 rfl (lv_at hl 1 rfl) ?_
    refine lv_aload_n hx hb dL_law__2390 rfl (lv_at hl 0 rfl) ?_
    refine lv_iload hx hb dL_law__2391 (lv_at hl 4 rfl) ?_
    refine lv_iconst (v := 1) hx hb dL_law__2393 (by decide) ?_
    refine lv_iadd hx hb dL_law__2394 ?_
    refine va_sld hx hb hX hbl (Nat.not_le.mpr hbl) hZ.2.2.2 hi1 dL_law__2395 ?_
    refine lv_aload_n hx hb dL_law__2396 rfl (lv_at hl 3 rfl) ?_
    refine lw_i (lrunW (n := 3) (As := [.ref (gx.2.2 0), .int (xs (i + 1).toNatClampNeg), .ref qo]) (rest := []) E hT hKo hNc A hZ kw_1272 kw_0 kw_1271 ⟨by decide, by decide, by decide +kernel⟩ kw_1270 (cw_L_doomed l hst gx cO qo M v (xs (i + 1).toNatClampNeg) hfx (fun _ _ h => by cases h)) rfl hl.1 rfl (Nat.le_of_ble_eq_true rfl) ⟨by decide, by decide⟩ ⟨by show cells + 1 ≤ 601024; omega, by show slots + 6 ≤ 7293033; omega⟩ dL_law__2397) A hZ (fun H locs hZ => ?_)
    have hZ : zLS gx gr cO qo s H locs M1 N (b9.toInt64) := hZ
    refine W.widen (k := cells + 48) (n := slots + 288) (by omega) (by omega) ?_
    refine lv_istore (lv' := [(5, .int 0), (0, .ref b), (1, .ref (gx.2.2 0)), (2, .ref (gr.2.2 0)), (3, .ref qo), (4, .int i)]) hx hb dL_law__2400 hl (by decide) rfl (fun ls hl => ?_)
    refine lv_aload_n hx hb dL_law__2402 rfl (lv_at hl 3 rfl) ?_
    refine lv_aload_n hx hb dL_law__2403 rfl (lv_at hl 1 rfl) ?_
    refine lv_iload hx hb dL_law__2404 (lv_at hl 5 rfl) ?_
    refine lv_iconst (v := 1) hx hb dL_law__2406 (by decide) ?_
    refine lv_iadd hx hb dL_law__2407 ?_
    refine va_sld hx hb hX hbl (Nat.not_le.mpr hbl) hZ.2.2.2 hi1 dL_law__2408 ?_
    refine lr_i (zrunV (As := [.int (xs (i + 1).toNatClampNeg)]) (rest := []) Er (hZ.r A) (by decide) (re_0 _) rfl rfl v_X11_doomed kw_1887 (c_X11_doomed l gr N (xs (i + 1).toNatClampNeg) hfr _) rfl hl.1 rfl (Nat.le_of_ble_eq_true rfl) ⟨by decide, by decide⟩ ⟨by show _ ≤ 601024; omega, by show _ ≤ 7293033; omega⟩ dL_law__2409) A hZ (fun x9 N9 H locs hp hZ => ?_)
    obtain ⟨rfl, rfl⟩ := Prod.mk.inj hp
    refine lv_istore (lv' := [(6, .int b9), (5, .int 0), (0, .ref b), (1, .ref (gx.2.2 0)), (2, .ref (gr.2.2 0)), (3, .ref qo), (4, .int i)]) hx hb dL_law__2412 hl (by decide) rfl (fun ls hl => ?_)
    refine lv_aload_n hx hb dL_law__2414 rfl (lv_at hl 4 rfl) ?_
    refine lr_i (zrunV (As := []) (rest := []) Er (hZ.r A) (by decide) (re_0 _) rfl rfl v_X11_thrown kw_1358 (c_X11_thrown l gr N1 (r := N1 0 0) rfl _) rfl hl.1 rfl (Nat.le_of_ble_eq_true rfl) ⟨by decide, by decide⟩ ⟨by show _ ≤ 601024; omega, by show _ ≤ 7293033; omega⟩ dL_law__2415) A hZ (fun x9 N9 H locs hp hZ => ?_)
    obtain ⟨e1, e2⟩ := hp
    rw [e2] at hZ
    rw [e1]
    refine lv_iload hx hb dL_law__2418 (lv_at hl 1 rfl) ?_
    refine lv_icmp_eq (tgt := 2425) hx hb dL_law__2420 (by decide) (fun _ => ?_) (fun hne => absurd ht hne)
    refine lv_iload hx hb dL_law__2425 (lv_at hl 1 rfl) ?_
    refine lv_if_ne (tgt := 2442) hx hb dL_law__2427 (by decide) (fun hne => absurd rfl hne) (fun _ => ?_)
    refine lv_aload_n hx hb dL_law__2430 rfl (lv_at hl 5 rfl) ?_
    refine lv_iconst (v := 0) hx hb dL_law__2431 (by decide) ?_
    refine va_lald hx hb hKo hZ.2.2.1 0 0 rfl rfl (zin_of (by decide)) dL_law__2432 ?_
    refine lv_iload hx hb dL_law__2433 (lv_at hl 0 rfl) ?_
    refine lv_i2l hx hb dL_law__2435 rfl ?_
    refine W.lcmp hx hb dL_law__2436 ?_
    refine lv_if_eq (tgt := 2442) hx hb dL_law__2437 (by decide) (fun _ => ?_) (fun hne => absurd (zcmp_self _) hne)
    refine lv_goto (tgt := 3069) hx hb dL_law__2442 (by decide) ?_
    refine W.widen (k := cells + 60) (n := slots + 360) (by omega) (by omega) ?_
    exact kk _ _ _ _ _ _ hR1 hZ (lv_sub hl [2, 3, 4, 5, 6] rfl)
def zs_done (Rel Rel' : zM → zM → Prop) : Prop := ∀ (M N : zM), Rel M N → ∀ x1 : Int32, zsT Rel' (f_X10_done M x1) (f_X11_done N x1) (fun k => k = 1) (fun _ => 1)
set_option maxRecDepth 100000 in
set_option maxHeartbeats 4000000 in
theorem lc_done (C : zLC p l s m args c gx gr cO qo b L xs Ts) (hz : zs_done Rel Rel') (hR : Rel M N) (hZ : zLS gx gr cO qo s H locs M N v) (hl : lv_has ls 7 (zLl b gx gr qo i)) (hi1 : vp_in (i + 1) L) (hi2 : vp_in (i + 2) L) (hi3 : vp_in (i + 3) L) (hi4 : vp_in (i + 4) L) (hi5 : vp_in (i + 5) L) (hc : cells + 60 ≤ 601024) (hsl : slots + 360 ≤ 7293033) (kk : zLK p l e s m args below meth c Q Rel' gx gr cO qo b i cells slots) : W p l e room_1 s m args below meth c H locs cells slots Q (F0 m 2445 ls []) := by
  obtain ⟨hst, E, Er, hT, S, hKo, hNc, A, hX, hbl⟩ := C
  have hx := E.1.1
  have hb := E.1.2.1
  have hl : lv_has ls 7 [(0, .ref b), (1, .ref (gx.2.2 0)), (2, .ref (gr.2.2 0)), (3, .ref qo), (4, .int i)] := hl
  obtain ⟨M1, b9, N1, hfr, hR1, hcc⟩ := hz M N hR (xs (i + 1).toNatClampNeg) 
  rcases hcc with ⟨k0, hfx, hk0, ht⟩ | ⟨hfx, ht⟩
  · refine lv_aload_n hx hb dL_law__2445 rfl (lv_at hl 1 rfl) ?_
    refine lv_aload_n hx hb dL_law__2446 rfl (lv_at hl 0 rfl) ?_
    refine lv_iload hx hb dL_law__2447 (lv_at hl 4 rfl) ?_
    refine lv_iconst (v := 1) hx hb dL_law__2449 (by decide) ?_
    refine lv_iadd hx hb dL_law__2450 ?_
    refine va_sld hx hb hX hbl (Nat.not_le.mpr hbl) hZ.2.2.2 hi1 dL_law__2451 ?_
    refine lv_aload_n hx hb dL_law__2452 rfl (lv_at hl 3 rfl) ?_
    refine lw_i (lrunW (n := 3) (As := [.ref (gx.2.2 0), .int (xs (i + 1).toNatClampNeg), .ref qo]) (rest := []) E hT hKo hNc A hZ kw_1279 kw_0 kw_1278 ⟨by decide, by decide, by decide +kernel⟩ kw_1277 (cw_L_done l hst gx cO qo M v (xs (i + 1).toNatClampNeg) hfx (fun _ _ h => by cases h; exact hk0)) rfl hl.1 rfl (Nat.le_of_ble_eq_true rfl) ⟨by decide, by decide⟩ ⟨by show cells + 1 ≤ 601024; omega, by show slots + 6 ≤ 7293033; omega⟩ dL_law__2453) A hZ (fun H locs hZ => ?_)
    have hZ : zLS gx gr cO qo s H locs M1 N v := hZ
    refine W.widen (k := cells + 48) (n := slots + 288) (by omega) (by omega) ?_
    refine lv_istore (lv' := [(5, .int ((fun _ => 1) k0)), (0, .ref b), (1, .ref (gx.2.2 0)), (2, .ref (gr.2.2 0)), (3, .ref qo), (4, .int i)]) hx hb dL_law__2456 hl (by decide) rfl (fun ls hl => ?_)
    refine lv_aload_n hx hb dL_law__2458 rfl (lv_at hl 3 rfl) ?_
    refine lv_aload_n hx hb dL_law__2459 rfl (lv_at hl 1 rfl) ?_
    refine lv_iload hx hb dL_law__2460 (lv_at hl 5 rfl) ?_
    refine lv_iconst (v := 1) hx hb dL_law__2462 (by decide) ?_
    refine lv_iadd hx hb dL_law__2463 ?_
    refine va_sld hx hb hX hbl (Nat.not_le.mpr hbl) hZ.2.2.2 hi1 dL_law__2464 ?_
    refine lr_i (zrunV (As := [.int (xs (i + 1).toNatClampNeg)]) (rest := []) Er (hZ.r A) (by decide) (re_0 _) rfl rfl v_X11_done kw_1895 (c_X11_done l gr N (xs (i + 1).toNatClampNeg) hfr _) rfl hl.1 rfl (Nat.le_of_ble_eq_true rfl) ⟨by decide, by decide⟩ ⟨by show _ ≤ 601024; omega, by show _ ≤ 7293033; omega⟩ dL_law__2465) A hZ (fun x9 N9 H locs hp hZ => ?_)
    obtain ⟨rfl, rfl⟩ := Prod.mk.inj hp
    refine lv_istore (lv' := [(6, .int b9), (5, .int ((fun _ => 1) k0)), (0, .ref b), (1, .ref (gx.2.2 0)), (2, .ref (gr.2.2 0)), (3, .ref qo), (4, .int i)]) hx hb dL_law__2468 hl (by decide) rfl (fun ls hl => ?_)
    refine lv_aload_n hx hb dL_law__2470 rfl (lv_at hl 4 rfl) ?_
    refine lr_i (zrunV (As := []) (rest := []) Er (hZ.r A) (by decide) (re_0 _) rfl rfl v_X11_thrown kw_1358 (c_X11_thrown l gr N1 (r := N1 0 0) rfl _) rfl hl.1 rfl (Nat.le_of_ble_eq_true rfl) ⟨by decide, by decide⟩ ⟨by show _ ≤ 601024; omega, by show _ ≤ 7293033; omega⟩ dL_law__2471) A hZ (fun x9 N9 H locs hp hZ => ?_)
    obtain ⟨e1, e2⟩ := hp
    rw [e2] at hZ
    rw [e1]
    refine lv_iload hx hb dL_law__2474 (lv_at hl 1 rfl) ?_
    refine lv_icmp_eq (tgt := 2481) hx hb dL_law__2476 (by decide) (fun _ => ?_) (fun hne => absurd ht hne)
    refine lv_iload hx hb dL_law__2481 (lv_at hl 1 rfl) ?_
    refine lv_if_ne (tgt := 2498) hx hb dL_law__2483 (by decide) (fun _ => ?_) (fun h0 => absurd h0 (by show ¬ (1 : Int32) = 0; decide))
    refine lv_goto (tgt := 3069) hx hb dL_law__2498 (by decide) ?_
    refine W.widen (k := cells + 60) (n := slots + 360) (by omega) (by omega) ?_
    exact kk _ _ _ _ _ _ hR1 hZ (lv_sub hl [2, 3, 4, 5, 6] rfl)
  · refine lv_aload_n hx hb dL_law__2445 rfl (lv_at hl 1 rfl) ?_
    refine lv_aload_n hx hb dL_law__2446 rfl (lv_at hl 0 rfl) ?_
    refine lv_iload hx hb dL_law__2447 (lv_at hl 4 rfl) ?_
    refine lv_iconst (v := 1) hx hb dL_law__2449 (by decide) ?_
    refine lv_iadd hx hb dL_law__2450 ?_
    refine va_sld hx hb hX hbl (Nat.not_le.mpr hbl) hZ.2.2.2 hi1 dL_law__2451 ?_
    refine lv_aload_n hx hb dL_law__2452 rfl (lv_at hl 3 rfl) ?_
    refine lw_i (lrunW (n := 3) (As := [.ref (gx.2.2 0), .int (xs (i + 1).toNatClampNeg), .ref qo]) (rest := []) E hT hKo hNc A hZ kw_1279 kw_0 kw_1278 ⟨by decide, by decide, by decide +kernel⟩ kw_1277 (cw_L_done l hst gx cO qo M v (xs (i + 1).toNatClampNeg) hfx (fun _ _ h => by cases h)) rfl hl.1 rfl (Nat.le_of_ble_eq_true rfl) ⟨by decide, by decide⟩ ⟨by show cells + 1 ≤ 601024; omega, by show slots + 6 ≤ 7293033; omega⟩ dL_law__2453) A hZ (fun H locs hZ => ?_)
    have hZ : zLS gx gr cO qo s H locs M1 N (b9.toInt64) := hZ
    refine W.widen (k := cells + 48) (n := slots + 288) (by omega) (by omega) ?_
    refine lv_istore (lv' := [(5, .int 0), (0, .ref b), (1, .ref (gx.2.2 0)), (2, .ref (gr.2.2 0)), (3, .ref qo), (4, .int i)]) hx hb dL_law__2456 hl (by decide) rfl (fun ls hl => ?_)
    refine lv_aload_n hx hb dL_law__2458 rfl (lv_at hl 3 rfl) ?_
    refine lv_aload_n hx hb dL_law__2459 rfl (lv_at hl 1 rfl) ?_
    refine lv_iload hx hb dL_law__2460 (lv_at hl 5 rfl) ?_
    refine lv_iconst (v := 1) hx hb dL_law__2462 (by decide) ?_
    refine lv_iadd hx hb dL_law__2463 ?_
    refine va_sld hx hb hX hbl (Nat.not_le.mpr hbl) hZ.2.2.2 hi1 dL_law__2464 ?_
    refine lr_i (zrunV (As := [.int (xs (i + 1).toNatClampNeg)]) (rest := []) Er (hZ.r A) (by decide) (re_0 _) rfl rfl v_X11_done kw_1895 (c_X11_done l gr N (xs (i + 1).toNatClampNeg) hfr _) rfl hl.1 rfl (Nat.le_of_ble_eq_true rfl) ⟨by decide, by decide⟩ ⟨by show _ ≤ 601024; omega, by show _ ≤ 7293033; omega⟩ dL_law__2465) A hZ (fun x9 N9 H locs hp hZ => ?_)
    obtain ⟨rfl, rfl⟩ := Prod.mk.inj hp
    refine lv_istore (lv' := [(6, .int b9), (5, .int 0), (0, .ref b), (1, .ref (gx.2.2 0)), (2, .ref (gr.2.2 0)), (3, .ref qo), (4, .int i)]) hx hb dL_law__2468 hl (by decide) rfl (fun ls hl => ?_)
    refine lv_aload_n hx hb dL_law__2470 rfl (lv_at hl 4 rfl) ?_
    refine lr_i (zrunV (As := []) (rest := []) Er (hZ.r A) (by decide) (re_0 _) rfl rfl v_X11_thrown kw_1358 (c_X11_thrown l gr N1 (r := N1 0 0) rfl _) rfl hl.1 rfl (Nat.le_of_ble_eq_true rfl) ⟨by decide, by decide⟩ ⟨by show _ ≤ 601024; omega, by show _ ≤ 7293033; omega⟩ dL_law__2471) A hZ (fun x9 N9 H locs hp hZ => ?_)
    obtain ⟨e1, e2⟩ := hp
    rw [e2] at hZ
    rw [e1]
    refine lv_iload hx hb dL_law__2474 (lv_at hl 1 rfl) ?_
    refine lv_icmp_eq (tgt := 2481) hx hb dL_law__2476 (by decide) (fun _ => ?_) (fun hne => absurd ht hne)
    refine lv_iload hx hb dL_law__2481 (lv_at hl 1 rfl) ?_
    refine lv_if_ne (tgt := 2498) hx hb dL_law__2483 (by decide) (fun hne => absurd rfl hne) (fun _ => ?_)
    refine lv_aload_n hx hb dL_law__2486 rfl (lv_at hl 5 rfl) ?_
    refine lv_iconst (v := 0) hx hb dL_law__2487 (by decide) ?_
    refine va_lald hx hb hKo hZ.2.2.1 0 0 rfl rfl (zin_of (by decide)) dL_law__2488 ?_
    refine lv_iload hx hb dL_law__2489 (lv_at hl 0 rfl) ?_
    refine lv_i2l hx hb dL_law__2491 rfl ?_
    refine W.lcmp hx hb dL_law__2492 ?_
    refine lv_if_eq (tgt := 2498) hx hb dL_law__2493 (by decide) (fun _ => ?_) (fun hne => absurd (zcmp_self _) hne)
    refine lv_goto (tgt := 3069) hx hb dL_law__2498 (by decide) ?_
    refine W.widen (k := cells + 60) (n := slots + 360) (by omega) (by omega) ?_
    exact kk _ _ _ _ _ _ hR1 hZ (lv_sub hl [2, 3, 4, 5, 6] rfl)
def zs_lost (Rel Rel' : zM → zM → Prop) : Prop := ∀ (M N : zM), Rel M N → zsR Rel' M (f_X10_lost M ) (f_X11_lost N )
set_option maxRecDepth 100000 in
set_option maxHeartbeats 4000000 in
theorem lc_lost (C : zLC p l s m args c gx gr cO qo b L xs Ts) (hz : zs_lost Rel Rel') (hR : Rel M N) (hZ : zLS gx gr cO qo s H locs M N v) (hl : lv_has ls 7 (zLl b gx gr qo i)) (hi1 : vp_in (i + 1) L) (hi2 : vp_in (i + 2) L) (hi3 : vp_in (i + 3) L) (hi4 : vp_in (i + 4) L) (hi5 : vp_in (i + 5) L) (hc : cells + 60 ≤ 601024) (hsl : slots + 360 ≤ 7293033) (kk : zLK p l e s m args below meth c Q Rel' gx gr cO qo b i cells slots) : W p l e room_1 s m args below meth c H locs cells slots Q (F0 m 2501 ls []) := by
  obtain ⟨hst, E, Er, hT, S, hKo, hNc, A, hX, hbl⟩ := C
  have hx := E.1.1
  have hb := E.1.2.1
  have hl : lv_has ls 7 [(0, .ref b), (1, .ref (gx.2.2 0)), (2, .ref (gr.2.2 0)), (3, .ref qo), (4, .int i)] := hl
  obtain ⟨b9, N1, hfx, hfr, hR1⟩ := hz M N hR  
  refine lv_aload_n hx hb dL_law__2501 rfl (lv_at hl 1 rfl) ?_
  refine lx_i (zrunV (As := []) (rest := []) E (hZ.x A) (xb_X10 xs_0) (xe_X10 xs_0 _) rfl rfl v_X10_lost kw_504 (c_X10_lost l gx M  hfx _) rfl hl.1 rfl (Nat.le_of_ble_eq_true rfl) ⟨by decide, by decide⟩ ⟨by show _ ≤ 601024; omega, by show _ ≤ 7293033; omega⟩ dL_law__2502) A hZ (fun x9 M9 H locs hp hZ => ?_)
  obtain ⟨e1, e2⟩ := hp
  rw [e2] at hZ
  rw [e1]
  refine lv_aload_n hx hb dL_law__2505 rfl (lv_at hl 2 rfl) ?_
  refine lr_i (zrunV (As := []) (rest := [.int b9]) Er (hZ.r A) (by decide) (re_0 _) rfl rfl v_X11_lost kw_1899 (c_X11_lost l gr N  hfr _) rfl hl.1 rfl (Nat.le_of_ble_eq_true rfl) ⟨by decide, by decide⟩ ⟨by show _ ≤ 601024; omega, by show _ ≤ 7293033; omega⟩ dL_law__2506) A hZ (fun x9 N9 H locs hp hZ => ?_)
  obtain ⟨rfl, rfl⟩ := Prod.mk.inj hp
  refine lv_icmp_eq (tgt := 3069) hx hb dL_law__2509 (by decide) (fun _ => ?_) (fun hne => absurd rfl hne)
  refine W.widen (k := cells + 60) (n := slots + 360) (by omega) (by omega) ?_
  exact kk _ _ _ _ _ _ hR1 hZ (lv_sub hl [0, 1, 2, 3, 4] rfl)
def zs_odds (Rel Rel' : zM → zM → Prop) : Prop := ∀ (M N : zM), Rel M N → ∀ x1 x2 : Int32, zsT Rel' (f_X10_odds M x1 x2) (f_X11_odds N x1 x2) (fun k => k = 1) (fun _ => 1)
set_option maxRecDepth 100000 in
set_option maxHeartbeats 4000000 in
theorem lc_odds (C : zLC p l s m args c gx gr cO qo b L xs Ts) (hz : zs_odds Rel Rel') (hR : Rel M N) (hZ : zLS gx gr cO qo s H locs M N v) (hl : lv_has ls 7 (zLl b gx gr qo i)) (hi1 : vp_in (i + 1) L) (hi2 : vp_in (i + 2) L) (hi3 : vp_in (i + 3) L) (hi4 : vp_in (i + 4) L) (hi5 : vp_in (i + 5) L) (hc : cells + 60 ≤ 601024) (hsl : slots + 360 ≤ 7293033) (kk : zLK p l e s m args below meth c Q Rel' gx gr cO qo b i cells slots) : W p l e room_1 s m args below meth c H locs cells slots Q (F0 m 2514 ls []) := by
  obtain ⟨hst, E, Er, hT, S, hKo, hNc, A, hX, hbl⟩ := C
  have hx := E.1.1
  have hb := E.1.2.1
  have hl : lv_has ls 7 [(0, .ref b), (1, .ref (gx.2.2 0)), (2, .ref (gr.2.2 0)), (3, .ref qo), (4, .int i)] := hl
  obtain ⟨M1, b9, N1, hfr, hR1, hcc⟩ := hz M N hR (xs (i + 1).toNatClampNeg) (xs (i + 2).toNatClampNeg) 
  rcases hcc with ⟨k0, hfx, hk0, ht⟩ | ⟨hfx, ht⟩
  · refine lv_aload_n hx hb dL_law__2514 rfl (lv_at hl 1 rfl) ?_
    refine lv_aload_n hx hb dL_law__2515 rfl (lv_at hl 0 rfl) ?_
    refine lv_iload hx hb dL_law__2516 (lv_at hl 4 rfl) ?_
    refine lv_iconst (v := 1) hx hb dL_law__2518 (by decide) ?_
    refine lv_iadd hx hb dL_law__2519 ?_
    refine va_sld hx hb hX hbl (Nat.not_le.mpr hbl) hZ.2.2.2 hi1 dL_law__2520 ?_
    refine lv_aload_n hx hb dL_law__2521 rfl (lv_at hl 0 rfl) ?_
    refine lv_iload hx hb dL_law__2522 (lv_at hl 4 rfl) ?_
    refine lv_iconst (v := 2) hx hb dL_law__2524 (by decide) ?_
    refine lv_iadd hx hb dL_law__2525 ?_
    refine va_sld hx hb hX hbl (Nat.not_le.mpr hbl) hZ.2.2.2 hi2 dL_law__2526 ?_
    refine lv_aload_n hx hb dL_law__2527 rfl (lv_at hl 3 rfl) ?_
    refine lw_i (lrunW (n := 4) (As := [.ref (gx.2.2 0), .int (xs (i + 1).toNatClampNeg), .int (xs (i + 2).toNatClampNeg), .ref qo]) (rest := []) E hT hKo hNc A hZ kw_1286 kw_0 kw_1285 ⟨by decide, by decide, by decide +kernel⟩ kw_1284 (cw_L_odds l hst gx cO qo M v (xs (i + 1).toNatClampNeg) (xs (i + 2).toNatClampNeg) hfx (fun _ _ h => by cases h; exact hk0)) rfl hl.1 rfl (Nat.le_of_ble_eq_true rfl) ⟨by decide, by decide⟩ ⟨by show cells + 2 ≤ 601024; omega, by show slots + 12 ≤ 7293033; omega⟩ dL_law__2528) A hZ (fun H locs hZ => ?_)
    have hZ : zLS gx gr cO qo s H locs M1 N v := hZ
    refine W.widen (k := cells + 48) (n := slots + 288) (by omega) (by omega) ?_
    refine lv_istore (lv' := [(5, .int ((fun _ => 1) k0)), (0, .ref b), (1, .ref (gx.2.2 0)), (2, .ref (gr.2.2 0)), (3, .ref qo), (4, .int i)]) hx hb dL_law__2531 hl (by decide) rfl (fun ls hl => ?_)
    refine lv_aload_n hx hb dL_law__2533 rfl (lv_at hl 3 rfl) ?_
    refine lv_aload_n hx hb dL_law__2534 rfl (lv_at hl 1 rfl) ?_
    refine lv_iload hx hb dL_law__2535 (lv_at hl 5 rfl) ?_
    refine lv_iconst (v := 1) hx hb dL_law__2537 (by decide) ?_
    refine lv_iadd hx hb dL_law__2538 ?_
    refine va_sld hx hb hX hbl (Nat.not_le.mpr hbl) hZ.2.2.2 hi1 dL_law__2539 ?_
    refine lv_aload_n hx hb dL_law__2540 rfl (lv_at hl 1 rfl) ?_
    refine lv_iload hx hb dL_law__2541 (lv_at hl 5 rfl) ?_
    refine lv_iconst (v := 2) hx hb dL_law__2543 (by decide) ?_
    refine lv_iadd hx hb dL_law__2544 ?_
    refine va_sld hx hb hX hbl (Nat.not_le.mpr hbl) hZ.2.2.2 hi2 dL_law__2545 ?_
    refine lr_i (zrunV (As := [.int (xs (i + 1).toNatClampNeg), .int (xs (i + 2).toNatClampNeg)]) (rest := []) Er (hZ.r A) (by decide) (re_0 _) rfl rfl v_X11_odds kw_2013 (c_X11_odds l gr N (xs (i + 1).toNatClampNeg) (xs (i + 2).toNatClampNeg) hfr _) rfl hl.1 rfl (Nat.le_of_ble_eq_true rfl) ⟨by decide, by decide⟩ ⟨by show _ ≤ 601024; omega, by show _ ≤ 7293033; omega⟩ dL_law__2546) A hZ (fun x9 N9 H locs hp hZ => ?_)
    obtain ⟨rfl, rfl⟩ := Prod.mk.inj hp
    refine lv_istore (lv' := [(6, .int b9), (5, .int ((fun _ => 1) k0)), (0, .ref b), (1, .ref (gx.2.2 0)), (2, .ref (gr.2.2 0)), (3, .ref qo), (4, .int i)]) hx hb dL_law__2549 hl (by decide) rfl (fun ls hl => ?_)
    refine lv_aload_n hx hb dL_law__2551 rfl (lv_at hl 4 rfl) ?_
    refine lr_i (zrunV (As := []) (rest := []) Er (hZ.r A) (by decide) (re_0 _) rfl rfl v_X11_thrown kw_1358 (c_X11_thrown l gr N1 (r := N1 0 0) rfl _) rfl hl.1 rfl (Nat.le_of_ble_eq_true rfl) ⟨by decide, by decide⟩ ⟨by show _ ≤ 601024; omega, by show _ ≤ 7293033; omega⟩ dL_law__2552) A hZ (fun x9 N9 H locs hp hZ => ?_)
    obtain ⟨e1, e2⟩ := hp
    rw [e2] at hZ
    rw [e1]
    refine lv_iload hx hb dL_law__2555 (lv_at hl 1 rfl) ?_
    refine lv_icmp_eq (tgt := 2562) hx hb dL_law__2557 (by decide) (fun _ => ?_) (fun hne => absurd ht hne)
    refine lv_iload hx hb dL_law__2562 (lv_at hl 1 rfl) ?_
    refine lv_if_ne (tgt := 2579) hx hb dL_law__2564 (by decide) (fun _ => ?_) (fun h0 => absurd h0 (by show ¬ (1 : Int32) = 0; decide))
    refine lv_goto (tgt := 3069) hx hb dL_law__2579 (by decide) ?_
    refine W.widen (k := cells + 60) (n := slots + 360) (by omega) (by omega) ?_
    exact kk _ _ _ _ _ _ hR1 hZ (lv_sub hl [2, 3, 4, 5, 6] rfl)
  · refine lv_aload_n hx hb dL_law__2514 rfl (lv_at hl 1 rfl) ?_
    refine lv_aload_n hx hb dL_law__2515 rfl (lv_at hl 0 rfl) ?_
    refine lv_iload hx hb dL_law__2516 (lv_at hl 4 rfl) ?_
    refine lv_iconst (v := 1) hx hb dL_law__2518 (by decide) ?_
    refine lv_iadd hx hb dL_law__2519 ?_
    refine va_sld hx hb hX hbl (Nat.not_le.mpr hbl) hZ.2.2.2 hi1 dL_law__2520 ?_
    refine lv_aload_n hx hb dL_law__2521 rfl (lv_at hl 0 rfl) ?_
    refine lv_iload hx hb dL_law__2522 (lv_at hl 4 rfl) ?_
    refine lv_iconst (v := 2) hx hb dL_law__2524 (by decide) ?_
    refine lv_iadd hx hb dL_law__2525 ?_
    refine va_sld hx hb hX hbl (Nat.not_le.mpr hbl) hZ.2.2.2 hi2 dL_law__2526 ?_
    refine lv_aload_n hx hb dL_law__2527 rfl (lv_at hl 3 rfl) ?_
    refine lw_i (lrunW (n := 4) (As := [.ref (gx.2.2 0), .int (xs (i + 1).toNatClampNeg), .int (xs (i + 2).toNatClampNeg), .ref qo]) (rest := []) E hT hKo hNc A hZ kw_1286 kw_0 kw_1285 ⟨by decide, by decide, by decide +kernel⟩ kw_1284 (cw_L_odds l hst gx cO qo M v (xs (i + 1).toNatClampNeg) (xs (i + 2).toNatClampNeg) hfx (fun _ _ h => by cases h)) rfl hl.1 rfl (Nat.le_of_ble_eq_true rfl) ⟨by decide, by decide⟩ ⟨by show cells + 2 ≤ 601024; omega, by show slots + 12 ≤ 7293033; omega⟩ dL_law__2528) A hZ (fun H locs hZ => ?_)
    have hZ : zLS gx gr cO qo s H locs M1 N (b9.toInt64) := hZ
    refine W.widen (k := cells + 48) (n := slots + 288) (by omega) (by omega) ?_
    refine lv_istore (lv' := [(5, .int 0), (0, .ref b), (1, .ref (gx.2.2 0)), (2, .ref (gr.2.2 0)), (3, .ref qo), (4, .int i)]) hx hb dL_law__2531 hl (by decide) rfl (fun ls hl => ?_)
    refine lv_aload_n hx hb dL_law__2533 rfl (lv_at hl 3 rfl) ?_
    refine lv_aload_n hx hb dL_law__2534 rfl (lv_at hl 1 rfl) ?_
    refine lv_iload hx hb dL_law__2535 (lv_at hl 5 rfl) ?_
    refine lv_iconst (v := 1) hx hb dL_law__2537 (by decide) ?_
    refine lv_iadd hx hb dL_law__2538 ?_
    refine va_sld hx hb hX hbl (Nat.not_le.mpr hbl) hZ.2.2.2 hi1 dL_law__2539 ?_
    refine lv_aload_n hx hb dL_law__2540 rfl (lv_at hl 1 rfl) ?_
    refine lv_iload hx hb dL_law__2541 (lv_at hl 5 rfl) ?_
    refine lv_iconst (v := 2) hx hb dL_law__2543 (by decide) ?_
    refine lv_iadd hx hb dL_law__2544 ?_
    refine va_sld hx hb hX hbl (Nat.not_le.mpr hbl) hZ.2.2.2 hi2 dL_law__2545 ?_
    refine lr_i (zrunV (As := [.int (xs (i + 1).toNatClampNeg), .int (xs (i + 2).toNatClampNeg)]) (rest := []) Er (hZ.r A) (by decide) (re_0 _) rfl rfl v_X11_odds kw_2013 (c_X11_odds l gr N (xs (i + 1).toNatClampNeg) (xs (i + 2).toNatClampNeg) hfr _) rfl hl.1 rfl (Nat.le_of_ble_eq_true rfl) ⟨by decide, by decide⟩ ⟨by show _ ≤ 601024; omega, by show _ ≤ 7293033; omega⟩ dL_law__2546) A hZ (fun x9 N9 H locs hp hZ => ?_)
    obtain ⟨rfl, rfl⟩ := Prod.mk.inj hp
    refine lv_istore (lv' := [(6, .int b9), (5, .int 0), (0, .ref b), (1, .ref (gx.2.2 0)), (2, .ref (gr.2.2 0)), (3, .ref qo), (4, .int i)]) hx hb dL_law__2549 hl (by decide) rfl (fun ls hl => ?_)
    refine lv_aload_n hx hb dL_law__2551 rfl (lv_at hl 4 rfl) ?_
    refine lr_i (zrunV (As := []) (rest := []) Er (hZ.r A) (by decide) (re_0 _) rfl rfl v_X11_thrown kw_1358 (c_X11_thrown l gr N1 (r := N1 0 0) rfl _) rfl hl.1 rfl (Nat.le_of_ble_eq_true rfl) ⟨by decide, by decide⟩ ⟨by show _ ≤ 601024; omega, by show _ ≤ 7293033; omega⟩ dL_law__2552) A hZ (fun x9 N9 H locs hp hZ => ?_)
    obtain ⟨e1, e2⟩ := hp
    rw [e2] at hZ
    rw [e1]
    refine lv_iload hx hb dL_law__2555 (lv_at hl 1 rfl) ?_
    refine lv_icmp_eq (tgt := 2562) hx hb dL_law__2557 (by decide) (fun _ => ?_) (fun hne => absurd ht hne)
    refine lv_iload hx hb dL_law__2562 (lv_at hl 1 rfl) ?_
    refine lv_if_ne (tgt := 2579) hx hb dL_law__2564 (by decide) (fun hne => absurd rfl hne) (fun _ => ?_)
    refine lv_aload_n hx hb dL_law__2567 rfl (lv_at hl 5 rfl) ?_
    refine lv_iconst (v := 0) hx hb dL_law__2568 (by decide) ?_
    refine va_lald hx hb hKo hZ.2.2.1 0 0 rfl rfl (zin_of (by decide)) dL_law__2569 ?_
    refine lv_iload hx hb dL_law__2570 (lv_at hl 0 rfl) ?_
    refine lv_i2l hx hb dL_law__2572 rfl ?_
    refine W.lcmp hx hb dL_law__2573 ?_
    refine lv_if_eq (tgt := 2579) hx hb dL_law__2574 (by decide) (fun _ => ?_) (fun hne => absurd (zcmp_self _) hne)
    refine lv_goto (tgt := 3069) hx hb dL_law__2579 (by decide) ?_
    refine W.widen (k := cells + 60) (n := slots + 360) (by omega) (by omega) ?_
    exact kk _ _ _ _ _ _ hR1 hZ (lv_sub hl [2, 3, 4, 5, 6] rfl)
def zs_risk (Rel Rel' : zM → zM → Prop) : Prop := ∀ (M N : zM), Rel M N → ∀ x1 x2 x3 : Int32, zsT Rel' (f_X10_risk M x1 x2 x3) (f_X11_risk N x1 x2 x3) (fun k => k = 0 ∨ k = 1) (fun k => if k = 0 then 1 else 2)
set_option maxRecDepth 100000 in
set_option maxHeartbeats 4000000 in
theorem lc_risk (C : zLC p l s m args c gx gr cO qo b L xs Ts) (hz : zs_risk Rel Rel') (hR : Rel M N) (hZ : zLS gx gr cO qo s H locs M N v) (hl : lv_has ls 7 (zLl b gx gr qo i)) (hi1 : vp_in (i + 1) L) (hi2 : vp_in (i + 2) L) (hi3 : vp_in (i + 3) L) (hi4 : vp_in (i + 4) L) (hi5 : vp_in (i + 5) L) (hc : cells + 60 ≤ 601024) (hsl : slots + 360 ≤ 7293033) (kk : zLK p l e s m args below meth c Q Rel' gx gr cO qo b i cells slots) : W p l e room_1 s m args below meth c H locs cells slots Q (F0 m 2582 ls []) := by
  obtain ⟨hst, E, Er, hT, S, hKo, hNc, A, hX, hbl⟩ := C
  have hx := E.1.1
  have hb := E.1.2.1
  have hl : lv_has ls 7 [(0, .ref b), (1, .ref (gx.2.2 0)), (2, .ref (gr.2.2 0)), (3, .ref qo), (4, .int i)] := hl
  obtain ⟨M1, b9, N1, hfr, hR1, hcc⟩ := hz M N hR (xs (i + 1).toNatClampNeg) (xs (i + 2).toNatClampNeg) (xs (i + 3).toNatClampNeg) 
  rcases hcc with ⟨k0, hfx, hk0, ht⟩ | ⟨hfx, ht⟩
  · refine lv_aload_n hx hb dL_law__2582 rfl (lv_at hl 1 rfl) ?_
    refine lv_aload_n hx hb dL_law__2583 rfl (lv_at hl 0 rfl) ?_
    refine lv_iload hx hb dL_law__2584 (lv_at hl 4 rfl) ?_
    refine lv_iconst (v := 1) hx hb dL_law__2586 (by decide) ?_
    refine lv_iadd hx hb dL_law__2587 ?_
    refine va_sld hx hb hX hbl (Nat.not_le.mpr hbl) hZ.2.2.2 hi1 dL_law__2588 ?_
    refine lv_aload_n hx hb dL_law__2589 rfl (lv_at hl 0 rfl) ?_
    refine lv_iload hx hb dL_law__2590 (lv_at hl 4 rfl) ?_
    refine lv_iconst (v := 2) hx hb dL_law__2592 (by decide) ?_
    refine lv_iadd hx hb dL_law__2593 ?_
    refine va_sld hx hb hX hbl (Nat.not_le.mpr hbl) hZ.2.2.2 hi2 dL_law__2594 ?_
    refine lv_aload_n hx hb dL_law__2595 rfl (lv_at hl 0 rfl) ?_
    refine lv_iload hx hb dL_law__2596 (lv_at hl 4 rfl) ?_
    refine lv_iconst (v := 3) hx hb dL_law__2598 (by decide) ?_
    refine lv_iadd hx hb dL_law__2599 ?_
    refine va_sld hx hb hX hbl (Nat.not_le.mpr hbl) hZ.2.2.2 hi3 dL_law__2600 ?_
    refine lv_aload_n hx hb dL_law__2601 rfl (lv_at hl 3 rfl) ?_
    refine lw_i (lrunW (n := 5) (As := [.ref (gx.2.2 0), .int (xs (i + 1).toNatClampNeg), .int (xs (i + 2).toNatClampNeg), .int (xs (i + 3).toNatClampNeg), .ref qo]) (rest := []) E hT hKo hNc A hZ kw_1303 kw_0 kw_1302 ⟨by decide, by decide, by decide +kernel⟩ kw_1301 (cw_L_risk l hst gx cO qo M v (xs (i + 1).toNatClampNeg) (xs (i + 2).toNatClampNeg) (xs (i + 3).toNatClampNeg) hfx (fun _ _ h => by cases h; exact hk0)) rfl hl.1 rfl (Nat.le_of_ble_eq_true rfl) ⟨by decide, by decide⟩ ⟨by show cells + 3 ≤ 601024; omega, by show slots + 18 ≤ 7293033; omega⟩ dL_law__2602) A hZ (fun H locs hZ => ?_)
    have hZ : zLS gx gr cO qo s H locs M1 N v := hZ
    refine W.widen (k := cells + 48) (n := slots + 288) (by omega) (by omega) ?_
    refine lv_istore (lv' := [(5, .int ((fun k => if k = 0 then 1 else 2) k0)), (0, .ref b), (1, .ref (gx.2.2 0)), (2, .ref (gr.2.2 0)), (3, .ref qo), (4, .int i)]) hx hb dL_law__2605 hl (by decide) rfl (fun ls hl => ?_)
    refine lv_aload_n hx hb dL_law__2607 rfl (lv_at hl 3 rfl) ?_
    refine lv_aload_n hx hb dL_law__2608 rfl (lv_at hl 1 rfl) ?_
    refine lv_iload hx hb dL_law__2609 (lv_at hl 5 rfl) ?_
    refine lv_iconst (v := 1) hx hb dL_law__2611 (by decide) ?_
    refine lv_iadd hx hb dL_law__2612 ?_
    refine va_sld hx hb hX hbl (Nat.not_le.mpr hbl) hZ.2.2.2 hi1 dL_law__2613 ?_
    refine lv_aload_n hx hb dL_law__2614 rfl (lv_at hl 1 rfl) ?_
    refine lv_iload hx hb dL_law__2615 (lv_at hl 5 rfl) ?_
    refine lv_iconst (v := 2) hx hb dL_law__2617 (by decide) ?_
    refine lv_iadd hx hb dL_law__2618 ?_
    refine va_sld hx hb hX hbl (Nat.not_le.mpr hbl) hZ.2.2.2 hi2 dL_law__2619 ?_
    refine lv_aload_n hx hb dL_law__2620 rfl (lv_at hl 1 rfl) ?_
    refine lv_iload hx hb dL_law__2621 (lv_at hl 5 rfl) ?_
    refine lv_iconst (v := 3) hx hb dL_law__2623 (by decide) ?_
    refine lv_iadd hx hb dL_law__2624 ?_
    refine va_sld hx hb hX hbl (Nat.not_le.mpr hbl) hZ.2.2.2 hi3 dL_law__2625 ?_
    refine lr_i (zrunV (As := [.int (xs (i + 1).toNatClampNeg), .int (xs (i + 2).toNatClampNeg), .int (xs (i + 3).toNatClampNeg)]) (rest := []) Er (hZ.r A) (by decide) (re_0 _) rfl rfl v_X11_risk kw_1737 (c_X11_risk l gr N (xs (i + 1).toNatClampNeg) (xs (i + 2).toNatClampNeg) (xs (i + 3).toNatClampNeg) hfr _) rfl hl.1 rfl (Nat.le_of_ble_eq_true rfl) ⟨by decide, by decide⟩ ⟨by show _ ≤ 601024; omega, by show _ ≤ 7293033; omega⟩ dL_law__2626) A hZ (fun x9 N9 H locs hp hZ => ?_)
    obtain ⟨rfl, rfl⟩ := Prod.mk.inj hp
    refine lv_istore (lv' := [(6, .int b9), (5, .int ((fun k => if k = 0 then 1 else 2) k0)), (0, .ref b), (1, .ref (gx.2.2 0)), (2, .ref (gr.2.2 0)), (3, .ref qo), (4, .int i)]) hx hb dL_law__2629 hl (by decide) rfl (fun ls hl => ?_)
    refine lv_aload_n hx hb dL_law__2631 rfl (lv_at hl 4 rfl) ?_
    refine lr_i (zrunV (As := []) (rest := []) Er (hZ.r A) (by decide) (re_0 _) rfl rfl v_X11_thrown kw_1358 (c_X11_thrown l gr N1 (r := N1 0 0) rfl _) rfl hl.1 rfl (Nat.le_of_ble_eq_true rfl) ⟨by decide, by decide⟩ ⟨by show _ ≤ 601024; omega, by show _ ≤ 7293033; omega⟩ dL_law__2632) A hZ (fun x9 N9 H locs hp hZ => ?_)
    obtain ⟨e1, e2⟩ := hp
    rw [e2] at hZ
    rw [e1]
    refine lv_iload hx hb dL_law__2635 (lv_at hl 1 rfl) ?_
    refine lv_icmp_eq (tgt := 2642) hx hb dL_law__2637 (by decide) (fun _ => ?_) (fun hne => absurd ht hne)
    refine lv_iload hx hb dL_law__2642 (lv_at hl 1 rfl) ?_
    refine lv_if_ne (tgt := 2659) hx hb dL_law__2644 (by decide) (fun _ => ?_) (fun h0 => absurd h0 (by show ¬ (if k0 = 0 then (1 : Int32) else 2) = 0; split <;> decide))
    refine lv_goto (tgt := 3069) hx hb dL_law__2659 (by decide) ?_
    refine W.widen (k := cells + 60) (n := slots + 360) (by omega) (by omega) ?_
    exact kk _ _ _ _ _ _ hR1 hZ (lv_sub hl [2, 3, 4, 5, 6] rfl)
  · refine lv_aload_n hx hb dL_law__2582 rfl (lv_at hl 1 rfl) ?_
    refine lv_aload_n hx hb dL_law__2583 rfl (lv_at hl 0 rfl) ?_
    refine lv_iload hx hb dL_law__2584 (lv_at hl 4 rfl) ?_
    refine lv_iconst (v := 1) hx hb dL_law__2586 (by decide) ?_
    refine lv_iadd hx hb dL_law__2587 ?_
    refine va_sld hx hb hX hbl (Nat.not_le.mpr hbl) hZ.2.2.2 hi1 dL_law__2588 ?_
    refine lv_aload_n hx hb dL_law__2589 rfl (lv_at hl 0 rfl) ?_
    refine lv_iload hx hb dL_law__2590 (lv_at hl 4 rfl) ?_
    refine lv_iconst (v := 2) hx hb dL_law__2592 (by decide) ?_
    refine lv_iadd hx hb dL_law__2593 ?_
    refine va_sld hx hb hX hbl (Nat.not_le.mpr hbl) hZ.2.2.2 hi2 dL_law__2594 ?_
    refine lv_aload_n hx hb dL_law__2595 rfl (lv_at hl 0 rfl) ?_
    refine lv_iload hx hb dL_law__2596 (lv_at hl 4 rfl) ?_
    refine lv_iconst (v := 3) hx hb dL_law__2598 (by decide) ?_
    refine lv_iadd hx hb dL_law__2599 ?_
    refine va_sld hx hb hX hbl (Nat.not_le.mpr hbl) hZ.2.2.2 hi3 dL_law__2600 ?_
    refine lv_aload_n hx hb dL_law__2601 rfl (lv_at hl 3 rfl) ?_
    refine lw_i (lrunW (n := 5) (As := [.ref (gx.2.2 0), .int (xs (i + 1).toNatClampNeg), .int (xs (i + 2).toNatClampNeg), .int (xs (i + 3).toNatClampNeg), .ref qo]) (rest := []) E hT hKo hNc A hZ kw_1303 kw_0 kw_1302 ⟨by decide, by decide, by decide +kernel⟩ kw_1301 (cw_L_risk l hst gx cO qo M v (xs (i + 1).toNatClampNeg) (xs (i + 2).toNatClampNeg) (xs (i + 3).toNatClampNeg) hfx (fun _ _ h => by cases h)) rfl hl.1 rfl (Nat.le_of_ble_eq_true rfl) ⟨by decide, by decide⟩ ⟨by show cells + 3 ≤ 601024; omega, by show slots + 18 ≤ 7293033; omega⟩ dL_law__2602) A hZ (fun H locs hZ => ?_)
    have hZ : zLS gx gr cO qo s H locs M1 N (b9.toInt64) := hZ
    refine W.widen (k := cells + 48) (n := slots + 288) (by omega) (by omega) ?_
    refine lv_istore (lv' := [(5, .int 0), (0, .ref b), (1, .ref (gx.2.2 0)), (2, .ref (gr.2.2 0)), (3, .ref qo), (4, .int i)]) hx hb dL_law__2605 hl (by decide) rfl (fun ls hl => ?_)
    refine lv_aload_n hx hb dL_law__2607 rfl (lv_at hl 3 rfl) ?_
    refine lv_aload_n hx hb dL_law__2608 rfl (lv_at hl 1 rfl) ?_
    refine lv_iload hx hb dL_law__2609 (lv_at hl 5 rfl) ?_
    refine lv_iconst (v := 1) hx hb dL_law__2611 (by decide) ?_
    refine lv_iadd hx hb dL_law__2612 ?_
    refine va_sld hx hb hX hbl (Nat.not_le.mpr hbl) hZ.2.2.2 hi1 dL_law__2613 ?_
    refine lv_aload_n hx hb dL_law__2614 rfl (lv_at hl 1 rfl) ?_
    refine lv_iload hx hb dL_law__2615 (lv_at hl 5 rfl) ?_
    refine lv_iconst (v := 2) hx hb dL_law__2617 (by decide) ?_
    refine lv_iadd hx hb dL_law__2618 ?_
    refine va_sld hx hb hX hbl (Nat.not_le.mpr hbl) hZ.2.2.2 hi2 dL_law__2619 ?_
    refine lv_aload_n hx hb dL_law__2620 rfl (lv_at hl 1 rfl) ?_
    refine lv_iload hx hb dL_law__2621 (lv_at hl 5 rfl) ?_
    refine lv_iconst (v := 3) hx hb dL_law__2623 (by decide) ?_
    refine lv_iadd hx hb dL_law__2624 ?_
    refine va_sld hx hb hX hbl (Nat.not_le.mpr hbl) hZ.2.2.2 hi3 dL_law__2625 ?_
    refine lr_i (zrunV (As := [.int (xs (i + 1).toNatClampNeg), .int (xs (i + 2).toNatClampNeg), .int (xs (i + 3).toNatClampNeg)]) (rest := []) Er (hZ.r A) (by decide) (re_0 _) rfl rfl v_X11_risk kw_1737 (c_X11_risk l gr N (xs (i + 1).toNatClampNeg) (xs (i + 2).toNatClampNeg) (xs (i + 3).toNatClampNeg) hfr _) rfl hl.1 rfl (Nat.le_of_ble_eq_true rfl) ⟨by decide, by decide⟩ ⟨by show _ ≤ 601024; omega, by show _ ≤ 7293033; omega⟩ dL_law__2626) A hZ (fun x9 N9 H locs hp hZ => ?_)
    obtain ⟨rfl, rfl⟩ := Prod.mk.inj hp
    refine lv_istore (lv' := [(6, .int b9), (5, .int 0), (0, .ref b), (1, .ref (gx.2.2 0)), (2, .ref (gr.2.2 0)), (3, .ref qo), (4, .int i)]) hx hb dL_law__2629 hl (by decide) rfl (fun ls hl => ?_)
    refine lv_aload_n hx hb dL_law__2631 rfl (lv_at hl 4 rfl) ?_
    refine lr_i (zrunV (As := []) (rest := []) Er (hZ.r A) (by decide) (re_0 _) rfl rfl v_X11_thrown kw_1358 (c_X11_thrown l gr N1 (r := N1 0 0) rfl _) rfl hl.1 rfl (Nat.le_of_ble_eq_true rfl) ⟨by decide, by decide⟩ ⟨by show _ ≤ 601024; omega, by show _ ≤ 7293033; omega⟩ dL_law__2632) A hZ (fun x9 N9 H locs hp hZ => ?_)
    obtain ⟨e1, e2⟩ := hp
    rw [e2] at hZ
    rw [e1]
    refine lv_iload hx hb dL_law__2635 (lv_at hl 1 rfl) ?_
    refine lv_icmp_eq (tgt := 2642) hx hb dL_law__2637 (by decide) (fun _ => ?_) (fun hne => absurd ht hne)
    refine lv_iload hx hb dL_law__2642 (lv_at hl 1 rfl) ?_
    refine lv_if_ne (tgt := 2659) hx hb dL_law__2644 (by decide) (fun hne => absurd rfl hne) (fun _ => ?_)
    refine lv_aload_n hx hb dL_law__2647 rfl (lv_at hl 5 rfl) ?_
    refine lv_iconst (v := 0) hx hb dL_law__2648 (by decide) ?_
    refine va_lald hx hb hKo hZ.2.2.1 0 0 rfl rfl (zin_of (by decide)) dL_law__2649 ?_
    refine lv_iload hx hb dL_law__2650 (lv_at hl 0 rfl) ?_
    refine lv_i2l hx hb dL_law__2652 rfl ?_
    refine W.lcmp hx hb dL_law__2653 ?_
    refine lv_if_eq (tgt := 2659) hx hb dL_law__2654 (by decide) (fun _ => ?_) (fun hne => absurd (zcmp_self _) hne)
    refine lv_goto (tgt := 3069) hx hb dL_law__2659 (by decide) ?_
    refine W.widen (k := cells + 60) (n := slots + 360) (by omega) (by omega) ?_
    exact kk _ _ _ _ _ _ hR1 hZ (lv_sub hl [2, 3, 4, 5, 6] rfl)
def zs_trial (Rel Rel' : zM → zM → Prop) : Prop := ∀ (M N : zM), Rel M N → ∀ x1 x2 : Int32, (x2 = 0 ∨ x2 = 1) → zsT Rel' (f_X10_trial M x1 x2) (f_X11_trial N x1 x2) (fun k => k = 1) (fun _ => 1)
set_option maxRecDepth 100000 in
set_option maxHeartbeats 4000000 in
theorem lc_trial (C : zLC p l s m args c gx gr cO qo b L xs Ts) (hz : zs_trial Rel Rel') (hR : Rel M N) (hZ : zLS gx gr cO qo s H locs M N v) (hl : lv_has ls 7 (zLl b gx gr qo i)) (hi1 : vp_in (i + 1) L) (hi2 : vp_in (i + 2) L) (hi3 : vp_in (i + 3) L) (hi4 : vp_in (i + 4) L) (hi5 : vp_in (i + 5) L) (hc : cells + 60 ≤ 601024) (hsl : slots + 360 ≤ 7293033) (kk : zLK p l e s m args below meth c Q Rel' gx gr cO qo b i cells slots) : W p l e room_1 s m args below meth c H locs cells slots Q (F0 m 2662 ls []) := by
  obtain ⟨hst, E, Er, hT, S, hKo, hNc, A, hX, hbl⟩ := C
  have hx := E.1.1
  have hb := E.1.2.1
  have hl : lv_has ls 7 [(0, .ref b), (1, .ref (gx.2.2 0)), (2, .ref (gr.2.2 0)), (3, .ref qo), (4, .int i)] := hl
  by_cases hb2 : (xs (i + 2).toNatClampNeg) = 0
  · obtain ⟨M1, b9, N1, hfr, hR1, hcc⟩ := hz M N hR (xs (i + 1).toNatClampNeg) 0 (Or.inl rfl)
    rcases hcc with ⟨k0, hfx, hk0, ht⟩ | ⟨hfx, ht⟩
    · refine lv_aload_n hx hb dL_law__2662 rfl (lv_at hl 1 rfl) ?_
      refine lv_aload_n hx hb dL_law__2663 rfl (lv_at hl 0 rfl) ?_
      refine lv_iload hx hb dL_law__2664 (lv_at hl 4 rfl) ?_
      refine lv_iconst (v := 1) hx hb dL_law__2666 (by decide) ?_
      refine lv_iadd hx hb dL_law__2667 ?_
      refine va_sld hx hb hX hbl (Nat.not_le.mpr hbl) hZ.2.2.2 hi1 dL_law__2668 ?_
      refine lv_aload_n hx hb dL_law__2669 rfl (lv_at hl 0 rfl) ?_
      refine lv_iload hx hb dL_law__2670 (lv_at hl 4 rfl) ?_
      refine lv_iconst (v := 2) hx hb dL_law__2672 (by decide) ?_
      refine lv_iadd hx hb dL_law__2673 ?_
      refine va_sld hx hb hX hbl (Nat.not_le.mpr hbl) hZ.2.2.2 hi2 dL_law__2674 ?_
      refine lv_if_eq (tgt := 2682) hx hb dL_law__2675 (by decide) (fun _ => ?_) (fun hne => absurd hb2 hne)
      refine lv_iconst (v := 0) hx hb dL_law__2682 (by decide) ?_
      refine lv_aload_n hx hb dL_law__2683 rfl (lv_at hl 3 rfl) ?_
      refine lw_i (lrunW (n := 4) (As := [.ref (gx.2.2 0), .int (xs (i + 1).toNatClampNeg), .int 0, .ref qo]) (rest := []) E hT hKo hNc A hZ kw_1311 kw_0 kw_1310 ⟨by decide, by decide, by decide +kernel⟩ kw_1309 (cw_L_trial l hst gx cO qo M v (xs (i + 1).toNatClampNeg) 0 hfx (fun _ _ h => by cases h; exact hk0)) rfl hl.1 rfl (Nat.le_of_ble_eq_true rfl) ⟨by decide, by decide⟩ ⟨by show cells + 1 ≤ 601024; omega, by show slots + 6 ≤ 7293033; omega⟩ dL_law__2684) A hZ (fun H locs hZ => ?_)
      have hZ : zLS gx gr cO qo s H locs M1 N v := hZ
      refine W.widen (k := cells + 48) (n := slots + 288) (by omega) (by omega) ?_
      refine lv_istore (lv' := [(5, .int ((fun _ => 1) k0)), (0, .ref b), (1, .ref (gx.2.2 0)), (2, .ref (gr.2.2 0)), (3, .ref qo), (4, .int i)]) hx hb dL_law__2687 hl (by decide) rfl (fun ls hl => ?_)
      refine lv_aload_n hx hb dL_law__2689 rfl (lv_at hl 3 rfl) ?_
      refine lv_aload_n hx hb dL_law__2690 rfl (lv_at hl 1 rfl) ?_
      refine lv_iload hx hb dL_law__2691 (lv_at hl 5 rfl) ?_
      refine lv_iconst (v := 1) hx hb dL_law__2693 (by decide) ?_
      refine lv_iadd hx hb dL_law__2694 ?_
      refine va_sld hx hb hX hbl (Nat.not_le.mpr hbl) hZ.2.2.2 hi1 dL_law__2695 ?_
      refine lv_aload_n hx hb dL_law__2696 rfl (lv_at hl 1 rfl) ?_
      refine lv_iload hx hb dL_law__2697 (lv_at hl 5 rfl) ?_
      refine lv_iconst (v := 2) hx hb dL_law__2699 (by decide) ?_
      refine lv_iadd hx hb dL_law__2700 ?_
      refine va_sld hx hb hX hbl (Nat.not_le.mpr hbl) hZ.2.2.2 hi2 dL_law__2701 ?_
      refine lv_if_eq (tgt := 2709) hx hb dL_law__2702 (by decide) (fun _ => ?_) (fun hne => absurd hb2 hne)
      refine lv_iconst (v := 0) hx hb dL_law__2709 (by decide) ?_
      refine lr_i (zrunV (As := [.int (xs (i + 1).toNatClampNeg), .int 0]) (rest := []) Er (hZ.r A) (by decide) (re_0 _) rfl rfl v_X11_trial kw_2019 (c_X11_trial l gr N (xs (i + 1).toNatClampNeg) 0 hfr _) rfl hl.1 rfl (Nat.le_of_ble_eq_true rfl) ⟨by decide, by decide⟩ ⟨by show _ ≤ 601024; omega, by show _ ≤ 7293033; omega⟩ dL_law__2710) A hZ (fun x9 N9 H locs hp hZ => ?_)
      obtain ⟨rfl, rfl⟩ := Prod.mk.inj hp
      refine lv_istore (lv' := [(6, .int b9), (5, .int ((fun _ => 1) k0)), (0, .ref b), (1, .ref (gx.2.2 0)), (2, .ref (gr.2.2 0)), (3, .ref qo), (4, .int i)]) hx hb dL_law__2713 hl (by decide) rfl (fun ls hl => ?_)
      refine lv_aload_n hx hb dL_law__2715 rfl (lv_at hl 4 rfl) ?_
      refine lr_i (zrunV (As := []) (rest := []) Er (hZ.r A) (by decide) (re_0 _) rfl rfl v_X11_thrown kw_1358 (c_X11_thrown l gr N1 (r := N1 0 0) rfl _) rfl hl.1 rfl (Nat.le_of_ble_eq_true rfl) ⟨by decide, by decide⟩ ⟨by show _ ≤ 601024; omega, by show _ ≤ 7293033; omega⟩ dL_law__2716) A hZ (fun x9 N9 H locs hp hZ => ?_)
      obtain ⟨e1, e2⟩ := hp
      rw [e2] at hZ
      rw [e1]
      refine lv_iload hx hb dL_law__2719 (lv_at hl 1 rfl) ?_
      refine lv_icmp_eq (tgt := 2726) hx hb dL_law__2721 (by decide) (fun _ => ?_) (fun hne => absurd ht hne)
      refine lv_iload hx hb dL_law__2726 (lv_at hl 1 rfl) ?_
      refine lv_if_ne (tgt := 2743) hx hb dL_law__2728 (by decide) (fun _ => ?_) (fun h0 => absurd h0 (by show ¬ (1 : Int32) = 0; decide))
      refine lv_goto (tgt := 3069) hx hb dL_law__2743 (by decide) ?_
      refine W.widen (k := cells + 60) (n := slots + 360) (by omega) (by omega) ?_
      exact kk _ _ _ _ _ _ hR1 hZ (lv_sub hl [2, 3, 4, 5, 6] rfl)
    · refine lv_aload_n hx hb dL_law__2662 rfl (lv_at hl 1 rfl) ?_
      refine lv_aload_n hx hb dL_law__2663 rfl (lv_at hl 0 rfl) ?_
      refine lv_iload hx hb dL_law__2664 (lv_at hl 4 rfl) ?_
      refine lv_iconst (v := 1) hx hb dL_law__2666 (by decide) ?_
      refine lv_iadd hx hb dL_law__2667 ?_
      refine va_sld hx hb hX hbl (Nat.not_le.mpr hbl) hZ.2.2.2 hi1 dL_law__2668 ?_
      refine lv_aload_n hx hb dL_law__2669 rfl (lv_at hl 0 rfl) ?_
      refine lv_iload hx hb dL_law__2670 (lv_at hl 4 rfl) ?_
      refine lv_iconst (v := 2) hx hb dL_law__2672 (by decide) ?_
      refine lv_iadd hx hb dL_law__2673 ?_
      refine va_sld hx hb hX hbl (Nat.not_le.mpr hbl) hZ.2.2.2 hi2 dL_law__2674 ?_
      refine lv_if_eq (tgt := 2682) hx hb dL_law__2675 (by decide) (fun _ => ?_) (fun hne => absurd hb2 hne)
      refine lv_iconst (v := 0) hx hb dL_law__2682 (by decide) ?_
      refine lv_aload_n hx hb dL_law__2683 rfl (lv_at hl 3 rfl) ?_
      refine lw_i (lrunW (n := 4) (As := [.ref (gx.2.2 0), .int (xs (i + 1).toNatClampNeg), .int 0, .ref qo]) (rest := []) E hT hKo hNc A hZ kw_1311 kw_0 kw_1310 ⟨by decide, by decide, by decide +kernel⟩ kw_1309 (cw_L_trial l hst gx cO qo M v (xs (i + 1).toNatClampNeg) 0 hfx (fun _ _ h => by cases h)) rfl hl.1 rfl (Nat.le_of_ble_eq_true rfl) ⟨by decide, by decide⟩ ⟨by show cells + 1 ≤ 601024; omega, by show slots + 6 ≤ 7293033; omega⟩ dL_law__2684) A hZ (fun H locs hZ => ?_)
      have hZ : zLS gx gr cO qo s H locs M1 N (b9.toInt64) := hZ
      refine W.widen (k := cells + 48) (n := slots + 288) (by omega) (by omega) ?_
      refine lv_istore (lv' := [(5, .int 0), (0, .ref b), (1, .ref (gx.2.2 0)), (2, .ref (gr.2.2 0)), (3, .ref qo), (4, .int i)]) hx hb dL_law__2687 hl (by decide) rfl (fun ls hl => ?_)
      refine lv_aload_n hx hb dL_law__2689 rfl (lv_at hl 3 rfl) ?_
      refine lv_aload_n hx hb dL_law__2690 rfl (lv_at hl 1 rfl) ?_
      refine lv_iload hx hb dL_law__2691 (lv_at hl 5 rfl) ?_
      refine lv_iconst (v := 1) hx hb dL_law__2693 (by decide) ?_
      refine lv_iadd hx hb dL_law__2694 ?_
      refine va_sld hx hb hX hbl (Nat.not_le.mpr hbl) hZ.2.2.2 hi1 dL_law__2695 ?_
      refine lv_aload_n hx hb dL_law__2696 rfl (lv_at hl 1 rfl) ?_
      refine lv_iload hx hb dL_law__2697 (lv_at hl 5 rfl) ?_
      refine lv_iconst (v := 2) hx hb dL_law__2699 (by decide) ?_
      refine lv_iadd hx hb dL_law__2700 ?_
      refine va_sld hx hb hX hbl (Nat.not_le.mpr hbl) hZ.2.2.2 hi2 dL_law__2701 ?_
      refine lv_if_eq (tgt := 2709) hx hb dL_law__2702 (by decide) (fun _ => ?_) (fun hne => absurd hb2 hne)
      refine lv_iconst (v := 0) hx hb dL_law__2709 (by decide) ?_
      refine lr_i (zrunV (As := [.int (xs (i + 1).toNatClampNeg), .int 0]) (rest := []) Er (hZ.r A) (by decide) (re_0 _) rfl rfl v_X11_trial kw_2019 (c_X11_trial l gr N (xs (i + 1).toNatClampNeg) 0 hfr _) rfl hl.1 rfl (Nat.le_of_ble_eq_true rfl) ⟨by decide, by decide⟩ ⟨by show _ ≤ 601024; omega, by show _ ≤ 7293033; omega⟩ dL_law__2710) A hZ (fun x9 N9 H locs hp hZ => ?_)
      obtain ⟨rfl, rfl⟩ := Prod.mk.inj hp
      refine lv_istore (lv' := [(6, .int b9), (5, .int 0), (0, .ref b), (1, .ref (gx.2.2 0)), (2, .ref (gr.2.2 0)), (3, .ref qo), (4, .int i)]) hx hb dL_law__2713 hl (by decide) rfl (fun ls hl => ?_)
      refine lv_aload_n hx hb dL_law__2715 rfl (lv_at hl 4 rfl) ?_
      refine lr_i (zrunV (As := []) (rest := []) Er (hZ.r A) (by decide) (re_0 _) rfl rfl v_X11_thrown kw_1358 (c_X11_thrown l gr N1 (r := N1 0 0) rfl _) rfl hl.1 rfl (Nat.le_of_ble_eq_true rfl) ⟨by decide, by decide⟩ ⟨by show _ ≤ 601024; omega, by show _ ≤ 7293033; omega⟩ dL_law__2716) A hZ (fun x9 N9 H locs hp hZ => ?_)
      obtain ⟨e1, e2⟩ := hp
      rw [e2] at hZ
      rw [e1]
      refine lv_iload hx hb dL_law__2719 (lv_at hl 1 rfl) ?_
      refine lv_icmp_eq (tgt := 2726) hx hb dL_law__2721 (by decide) (fun _ => ?_) (fun hne => absurd ht hne)
      refine lv_iload hx hb dL_law__2726 (lv_at hl 1 rfl) ?_
      refine lv_if_ne (tgt := 2743) hx hb dL_law__2728 (by decide) (fun hne => absurd rfl hne) (fun _ => ?_)
      refine lv_aload_n hx hb dL_law__2731 rfl (lv_at hl 5 rfl) ?_
      refine lv_iconst (v := 0) hx hb dL_law__2732 (by decide) ?_
      refine va_lald hx hb hKo hZ.2.2.1 0 0 rfl rfl (zin_of (by decide)) dL_law__2733 ?_
      refine lv_iload hx hb dL_law__2734 (lv_at hl 0 rfl) ?_
      refine lv_i2l hx hb dL_law__2736 rfl ?_
      refine W.lcmp hx hb dL_law__2737 ?_
      refine lv_if_eq (tgt := 2743) hx hb dL_law__2738 (by decide) (fun _ => ?_) (fun hne => absurd (zcmp_self _) hne)
      refine lv_goto (tgt := 3069) hx hb dL_law__2743 (by decide) ?_
      refine W.widen (k := cells + 60) (n := slots + 360) (by omega) (by omega) ?_
      exact kk _ _ _ _ _ _ hR1 hZ (lv_sub hl [2, 3, 4, 5, 6] rfl)
  · obtain ⟨M1, b9, N1, hfr, hR1, hcc⟩ := hz M N hR (xs (i + 1).toNatClampNeg) 1 (Or.inr rfl)
    rcases hcc with ⟨k0, hfx, hk0, ht⟩ | ⟨hfx, ht⟩
    · refine lv_aload_n hx hb dL_law__2662 rfl (lv_at hl 1 rfl) ?_
      refine lv_aload_n hx hb dL_law__2663 rfl (lv_at hl 0 rfl) ?_
      refine lv_iload hx hb dL_law__2664 (lv_at hl 4 rfl) ?_
      refine lv_iconst (v := 1) hx hb dL_law__2666 (by decide) ?_
      refine lv_iadd hx hb dL_law__2667 ?_
      refine va_sld hx hb hX hbl (Nat.not_le.mpr hbl) hZ.2.2.2 hi1 dL_law__2668 ?_
      refine lv_aload_n hx hb dL_law__2669 rfl (lv_at hl 0 rfl) ?_
      refine lv_iload hx hb dL_law__2670 (lv_at hl 4 rfl) ?_
      refine lv_iconst (v := 2) hx hb dL_law__2672 (by decide) ?_
      refine lv_iadd hx hb dL_law__2673 ?_
      refine va_sld hx hb hX hbl (Nat.not_le.mpr hbl) hZ.2.2.2 hi2 dL_law__2674 ?_
      refine lv_if_eq (tgt := 2682) hx hb dL_law__2675 (by decide) (fun he => absurd he hb2) (fun _ => ?_)
      refine lv_iconst (v := 1) hx hb dL_law__2678 (by decide) ?_
      refine lv_goto (tgt := 2683) hx hb dL_law__2679 (by decide) ?_
      refine lv_aload_n hx hb dL_law__2683 rfl (lv_at hl 3 rfl) ?_
      refine lw_i (lrunW (n := 4) (As := [.ref (gx.2.2 0), .int (xs (i + 1).toNatClampNeg), .int 1, .ref qo]) (rest := []) E hT hKo hNc A hZ kw_1311 kw_0 kw_1310 ⟨by decide, by decide, by decide +kernel⟩ kw_1309 (cw_L_trial l hst gx cO qo M v (xs (i + 1).toNatClampNeg) 1 hfx (fun _ _ h => by cases h; exact hk0)) rfl hl.1 rfl (Nat.le_of_ble_eq_true rfl) ⟨by decide, by decide⟩ ⟨by show cells + 1 ≤ 601024; omega, by show slots + 6 ≤ 7293033; omega⟩ dL_law__2684) A hZ (fun H locs hZ => ?_)
      have hZ : zLS gx gr cO qo s H locs M1 N v := hZ
      refine W.widen (k := cells + 48) (n := slots + 288) (by omega) (by omega) ?_
      refine lv_istore (lv' := [(5, .int ((fun _ => 1) k0)), (0, .ref b), (1, .ref (gx.2.2 0)), (2, .ref (gr.2.2 0)), (3, .ref qo), (4, .int i)]) hx hb dL_law__2687 hl (by decide) rfl (fun ls hl => ?_)
      refine lv_aload_n hx hb dL_law__2689 rfl (lv_at hl 3 rfl) ?_
      refine lv_aload_n hx hb dL_law__2690 rfl (lv_at hl 1 rfl) ?_
      refine lv_iload hx hb dL_law__2691 (lv_at hl 5 rfl) ?_
      refine lv_iconst (v := 1) hx hb dL_law__2693 (by decide) ?_
      refine lv_iadd hx hb dL_law__2694 ?_
      refine va_sld hx hb hX hbl (Nat.not_le.mpr hbl) hZ.2.2.2 hi1 dL_law__2695 ?_
      refine lv_aload_n hx hb dL_law__2696 rfl (lv_at hl 1 rfl) ?_
      refine lv_iload hx hb dL_law__2697 (lv_at hl 5 rfl) ?_
      refine lv_iconst (v := 2) hx hb dL_law__2699 (by decide) ?_
      refine lv_iadd hx hb dL_law__2700 ?_
      refine va_sld hx hb hX hbl (Nat.not_le.mpr hbl) hZ.2.2.2 hi2 dL_law__2701 ?_
      refine lv_if_eq (tgt := 2709) hx hb dL_law__2702 (by decide) (fun he => absurd he hb2) (fun _ => ?_)
      refine lv_iconst (v := 1) hx hb dL_law__2705 (by decide) ?_
      refine lv_goto (tgt := 2710) hx hb dL_law__2706 (by decide) ?_
      refine lr_i (zrunV (As := [.int (xs (i + 1).toNatClampNeg), .int 1]) (rest := []) Er (hZ.r A) (by decide) (re_0 _) rfl rfl v_X11_trial kw_2019 (c_X11_trial l gr N (xs (i + 1).toNatClampNeg) 1 hfr _) rfl hl.1 rfl (Nat.le_of_ble_eq_true rfl) ⟨by decide, by decide⟩ ⟨by show _ ≤ 601024; omega, by show _ ≤ 7293033; omega⟩ dL_law__2710) A hZ (fun x9 N9 H locs hp hZ => ?_)
      obtain ⟨rfl, rfl⟩ := Prod.mk.inj hp
      refine lv_istore (lv' := [(6, .int b9), (5, .int ((fun _ => 1) k0)), (0, .ref b), (1, .ref (gx.2.2 0)), (2, .ref (gr.2.2 0)), (3, .ref qo), (4, .int i)]) hx hb dL_law__2713 hl (by decide) rfl (fun ls hl => ?_)
      refine lv_aload_n hx hb dL_law__2715 rfl (lv_at hl 4 rfl) ?_
      refine lr_i (zrunV (As := []) (rest := []) Er (hZ.r A) (by decide) (re_0 _) rfl rfl v_X11_thrown kw_1358 (c_X11_thrown l gr N1 (r := N1 0 0) rfl _) rfl hl.1 rfl (Nat.le_of_ble_eq_true rfl) ⟨by decide, by decide⟩ ⟨by show _ ≤ 601024; omega, by show _ ≤ 7293033; omega⟩ dL_law__2716) A hZ (fun x9 N9 H locs hp hZ => ?_)
      obtain ⟨e1, e2⟩ := hp
      rw [e2] at hZ
      rw [e1]
      refine lv_iload hx hb dL_law__2719 (lv_at hl 1 rfl) ?_
      refine lv_icmp_eq (tgt := 2726) hx hb dL_law__2721 (by decide) (fun _ => ?_) (fun hne => absurd ht hne)
      refine lv_iload hx hb dL_law__2726 (lv_at hl 1 rfl) ?_
      refine lv_if_ne (tgt := 2743) hx hb dL_law__2728 (by decide) (fun _ => ?_) (fun h0 => absurd h0 (by show ¬ (1 : Int32) = 0; decide))
      refine lv_goto (tgt := 3069) hx hb dL_law__2743 (by decide) ?_
      refine W.widen (k := cells + 60) (n := slots + 360) (by omega) (by omega) ?_
      exact kk _ _ _ _ _ _ hR1 hZ (lv_sub hl [2, 3, 4, 5, 6] rfl)
    · refine lv_aload_n hx hb dL_law__2662 rfl (lv_at hl 1 rfl) ?_
      refine lv_aload_n hx hb dL_law__2663 rfl (lv_at hl 0 rfl) ?_
      refine lv_iload hx hb dL_law__2664 (lv_at hl 4 rfl) ?_
      refine lv_iconst (v := 1) hx hb dL_law__2666 (by decide) ?_
      refine lv_iadd hx hb dL_law__2667 ?_
      refine va_sld hx hb hX hbl (Nat.not_le.mpr hbl) hZ.2.2.2 hi1 dL_law__2668 ?_
      refine lv_aload_n hx hb dL_law__2669 rfl (lv_at hl 0 rfl) ?_
      refine lv_iload hx hb dL_law__2670 (lv_at hl 4 rfl) ?_
      refine lv_iconst (v := 2) hx hb dL_law__2672 (by decide) ?_
      refine lv_iadd hx hb dL_law__2673 ?_
      refine va_sld hx hb hX hbl (Nat.not_le.mpr hbl) hZ.2.2.2 hi2 dL_law__2674 ?_
      refine lv_if_eq (tgt := 2682) hx hb dL_law__2675 (by decide) (fun he => absurd he hb2) (fun _ => ?_)
      refine lv_iconst (v := 1) hx hb dL_law__2678 (by decide) ?_
      refine lv_goto (tgt := 2683) hx hb dL_law__2679 (by decide) ?_
      refine lv_aload_n hx hb dL_law__2683 rfl (lv_at hl 3 rfl) ?_
      refine lw_i (lrunW (n := 4) (As := [.ref (gx.2.2 0), .int (xs (i + 1).toNatClampNeg), .int 1, .ref qo]) (rest := []) E hT hKo hNc A hZ kw_1311 kw_0 kw_1310 ⟨by decide, by decide, by decide +kernel⟩ kw_1309 (cw_L_trial l hst gx cO qo M v (xs (i + 1).toNatClampNeg) 1 hfx (fun _ _ h => by cases h)) rfl hl.1 rfl (Nat.le_of_ble_eq_true rfl) ⟨by decide, by decide⟩ ⟨by show cells + 1 ≤ 601024; omega, by show slots + 6 ≤ 7293033; omega⟩ dL_law__2684) A hZ (fun H locs hZ => ?_)
      have hZ : zLS gx gr cO qo s H locs M1 N (b9.toInt64) := hZ
      refine W.widen (k := cells + 48) (n := slots + 288) (by omega) (by omega) ?_
      refine lv_istore (lv' := [(5, .int 0), (0, .ref b), (1, .ref (gx.2.2 0)), (2, .ref (gr.2.2 0)), (3, .ref qo), (4, .int i)]) hx hb dL_law__2687 hl (by decide) rfl (fun ls hl => ?_)
      refine lv_aload_n hx hb dL_law__2689 rfl (lv_at hl 3 rfl) ?_
      refine lv_aload_n hx hb dL_law__2690 rfl (lv_at hl 1 rfl) ?_
      refine lv_iload hx hb dL_law__2691 (lv_at hl 5 rfl) ?_
      refine lv_iconst (v := 1) hx hb dL_law__2693 (by decide) ?_
      refine lv_iadd hx hb dL_law__2694 ?_
      refine va_sld hx hb hX hbl (Nat.not_le.mpr hbl) hZ.2.2.2 hi1 dL_law__2695 ?_
      refine lv_aload_n hx hb dL_law__2696 rfl (lv_at hl 1 rfl) ?_
      refine lv_iload hx hb dL_law__2697 (lv_at hl 5 rfl) ?_
      refine lv_iconst (v := 2) hx hb dL_law__2699 (by decide) ?_
      refine lv_iadd hx hb dL_law__2700 ?_
      refine va_sld hx hb hX hbl (Nat.not_le.mpr hbl) hZ.2.2.2 hi2 dL_law__2701 ?_
      refine lv_if_eq (tgt := 2709) hx hb dL_law__2702 (by decide) (fun he => absurd he hb2) (fun _ => ?_)
      refine lv_iconst (v := 1) hx hb dL_law__2705 (by decide) ?_
      refine lv_goto (tgt := 2710) hx hb dL_law__2706 (by decide) ?_
      refine lr_i (zrunV (As := [.int (xs (i + 1).toNatClampNeg), .int 1]) (rest := []) Er (hZ.r A) (by decide) (re_0 _) rfl rfl v_X11_trial kw_2019 (c_X11_trial l gr N (xs (i + 1).toNatClampNeg) 1 hfr _) rfl hl.1 rfl (Nat.le_of_ble_eq_true rfl) ⟨by decide, by decide⟩ ⟨by show _ ≤ 601024; omega, by show _ ≤ 7293033; omega⟩ dL_law__2710) A hZ (fun x9 N9 H locs hp hZ => ?_)
      obtain ⟨rfl, rfl⟩ := Prod.mk.inj hp
      refine lv_istore (lv' := [(6, .int b9), (5, .int 0), (0, .ref b), (1, .ref (gx.2.2 0)), (2, .ref (gr.2.2 0)), (3, .ref qo), (4, .int i)]) hx hb dL_law__2713 hl (by decide) rfl (fun ls hl => ?_)
      refine lv_aload_n hx hb dL_law__2715 rfl (lv_at hl 4 rfl) ?_
      refine lr_i (zrunV (As := []) (rest := []) Er (hZ.r A) (by decide) (re_0 _) rfl rfl v_X11_thrown kw_1358 (c_X11_thrown l gr N1 (r := N1 0 0) rfl _) rfl hl.1 rfl (Nat.le_of_ble_eq_true rfl) ⟨by decide, by decide⟩ ⟨by show _ ≤ 601024; omega, by show _ ≤ 7293033; omega⟩ dL_law__2716) A hZ (fun x9 N9 H locs hp hZ => ?_)
      obtain ⟨e1, e2⟩ := hp
      rw [e2] at hZ
      rw [e1]
      refine lv_iload hx hb dL_law__2719 (lv_at hl 1 rfl) ?_
      refine lv_icmp_eq (tgt := 2726) hx hb dL_law__2721 (by decide) (fun _ => ?_) (fun hne => absurd ht hne)
      refine lv_iload hx hb dL_law__2726 (lv_at hl 1 rfl) ?_
      refine lv_if_ne (tgt := 2743) hx hb dL_law__2728 (by decide) (fun hne => absurd rfl hne) (fun _ => ?_)
      refine lv_aload_n hx hb dL_law__2731 rfl (lv_at hl 5 rfl) ?_
      refine lv_iconst (v := 0) hx hb dL_law__2732 (by decide) ?_
      refine va_lald hx hb hKo hZ.2.2.1 0 0 rfl rfl (zin_of (by decide)) dL_law__2733 ?_
      refine lv_iload hx hb dL_law__2734 (lv_at hl 0 rfl) ?_
      refine lv_i2l hx hb dL_law__2736 rfl ?_
      refine W.lcmp hx hb dL_law__2737 ?_
      refine lv_if_eq (tgt := 2743) hx hb dL_law__2738 (by decide) (fun _ => ?_) (fun hne => absurd (zcmp_self _) hne)
      refine lv_goto (tgt := 3069) hx hb dL_law__2743 (by decide) ?_
      refine W.widen (k := cells + 60) (n := slots + 360) (by omega) (by omega) ?_
      exact kk _ _ _ _ _ _ hR1 hZ (lv_sub hl [2, 3, 4, 5, 6] rfl)
def zs_span (Rel Rel' : zM → zM → Prop) : Prop := ∀ (M N : zM), Rel M N → ∀ x1 x2 : Int32, (x2 = 0 ∨ x2 = 1) → zsT Rel' (f_X10_span M x1 x2) (f_X11_span N x1 x2) (fun k => k = 1) (fun _ => 1)
set_option maxRecDepth 100000 in
set_option maxHeartbeats 4000000 in
theorem lc_span (C : zLC p l s m args c gx gr cO qo b L xs Ts) (hz : zs_span Rel Rel') (hR : Rel M N) (hZ : zLS gx gr cO qo s H locs M N v) (hl : lv_has ls 7 (zLl b gx gr qo i)) (hi1 : vp_in (i + 1) L) (hi2 : vp_in (i + 2) L) (hi3 : vp_in (i + 3) L) (hi4 : vp_in (i + 4) L) (hi5 : vp_in (i + 5) L) (hc : cells + 60 ≤ 601024) (hsl : slots + 360 ≤ 7293033) (kk : zLK p l e s m args below meth c Q Rel' gx gr cO qo b i cells slots) : W p l e room_1 s m args below meth c H locs cells slots Q (F0 m 2746 ls []) := by
  obtain ⟨hst, E, Er, hT, S, hKo, hNc, A, hX, hbl⟩ := C
  have hx := E.1.1
  have hb := E.1.2.1
  have hl : lv_has ls 7 [(0, .ref b), (1, .ref (gx.2.2 0)), (2, .ref (gr.2.2 0)), (3, .ref qo), (4, .int i)] := hl
  by_cases hb2 : (xs (i + 2).toNatClampNeg) = 0
  · obtain ⟨M1, b9, N1, hfr, hR1, hcc⟩ := hz M N hR (xs (i + 1).toNatClampNeg) 0 (Or.inl rfl)
    rcases hcc with ⟨k0, hfx, hk0, ht⟩ | ⟨hfx, ht⟩
    · refine lv_aload_n hx hb dL_law__2746 rfl (lv_at hl 1 rfl) ?_
      refine lv_aload_n hx hb dL_law__2747 rfl (lv_at hl 0 rfl) ?_
      refine lv_iload hx hb dL_law__2748 (lv_at hl 4 rfl) ?_
      refine lv_iconst (v := 1) hx hb dL_law__2750 (by decide) ?_
      refine lv_iadd hx hb dL_law__2751 ?_
      refine va_sld hx hb hX hbl (Nat.not_le.mpr hbl) hZ.2.2.2 hi1 dL_law__2752 ?_
      refine lv_aload_n hx hb dL_law__2753 rfl (lv_at hl 0 rfl) ?_
      refine lv_iload hx hb dL_law__2754 (lv_at hl 4 rfl) ?_
      refine lv_iconst (v := 2) hx hb dL_law__2756 (by decide) ?_
      refine lv_iadd hx hb dL_law__2757 ?_
      refine va_sld hx hb hX hbl (Nat.not_le.mpr hbl) hZ.2.2.2 hi2 dL_law__2758 ?_
      refine lv_if_eq (tgt := 2766) hx hb dL_law__2759 (by decide) (fun _ => ?_) (fun hne => absurd hb2 hne)
      refine lv_iconst (v := 0) hx hb dL_law__2766 (by decide) ?_
      refine lv_aload_n hx hb dL_law__2767 rfl (lv_at hl 3 rfl) ?_
      refine lw_i (lrunW (n := 4) (As := [.ref (gx.2.2 0), .int (xs (i + 1).toNatClampNeg), .int 0, .ref qo]) (rest := []) E hT hKo hNc A hZ kw_1318 kw_0 kw_1317 ⟨by decide, by decide, by decide +kernel⟩ kw_1316 (cw_L_span l hst gx cO qo M v (xs (i + 1).toNatClampNeg) 0 hfx (fun _ _ h => by cases h; exact hk0)) rfl hl.1 rfl (Nat.le_of_ble_eq_true rfl) ⟨by decide, by decide⟩ ⟨by show cells + 1 ≤ 601024; omega, by show slots + 6 ≤ 7293033; omega⟩ dL_law__2768) A hZ (fun H locs hZ => ?_)
      have hZ : zLS gx gr cO qo s H locs M1 N v := hZ
      refine W.widen (k := cells + 48) (n := slots + 288) (by omega) (by omega) ?_
      refine lv_istore (lv' := [(5, .int ((fun _ => 1) k0)), (0, .ref b), (1, .ref (gx.2.2 0)), (2, .ref (gr.2.2 0)), (3, .ref qo), (4, .int i)]) hx hb dL_law__2771 hl (by decide) rfl (fun ls hl => ?_)
      refine lv_aload_n hx hb dL_law__2773 rfl (lv_at hl 3 rfl) ?_
      refine lv_aload_n hx hb dL_law__2774 rfl (lv_at hl 1 rfl) ?_
      refine lv_iload hx hb dL_law__2775 (lv_at hl 5 rfl) ?_
      refine lv_iconst (v := 1) hx hb dL_law__2777 (by decide) ?_
      refine lv_iadd hx hb dL_law__2778 ?_
      refine va_sld hx hb hX hbl (Nat.not_le.mpr hbl) hZ.2.2.2 hi1 dL_law__2779 ?_
      refine lv_aload_n hx hb dL_law__2780 rfl (lv_at hl 1 rfl) ?_
      refine lv_iload hx hb dL_law__2781 (lv_at hl 5 rfl) ?_
      refine lv_iconst (v := 2) hx hb dL_law__2783 (by decide) ?_
      refine lv_iadd hx hb dL_law__2784 ?_
      refine va_sld hx hb hX hbl (Nat.not_le.mpr hbl) hZ.2.2.2 hi2 dL_law__2785 ?_
      refine lv_if_eq (tgt := 2793) hx hb dL_law__2786 (by decide) (fun _ => ?_) (fun hne => absurd hb2 hne)
      refine lv_iconst (v := 0) hx hb dL_law__2793 (by decide) ?_
      refine lr_i (zrunV (As := [.int (xs (i + 1).toNatClampNeg), .int 0]) (rest := []) Er (hZ.r A) (by decide) (re_0 _) rfl rfl v_X11_span kw_2023 (c_X11_span l gr N (xs (i + 1).toNatClampNeg) 0 hfr _) rfl hl.1 rfl (Nat.le_of_ble_eq_true rfl) ⟨by decide, by decide⟩ ⟨by show _ ≤ 601024; omega, by show _ ≤ 7293033; omega⟩ dL_law__2794) A hZ (fun x9 N9 H locs hp hZ => ?_)
      obtain ⟨rfl, rfl⟩ := Prod.mk.inj hp
      refine lv_istore (lv' := [(6, .int b9), (5, .int ((fun _ => 1) k0)), (0, .ref b), (1, .ref (gx.2.2 0)), (2, .ref (gr.2.2 0)), (3, .ref qo), (4, .int i)]) hx hb dL_law__2797 hl (by decide) rfl (fun ls hl => ?_)
      refine lv_aload_n hx hb dL_law__2799 rfl (lv_at hl 4 rfl) ?_
      refine lr_i (zrunV (As := []) (rest := []) Er (hZ.r A) (by decide) (re_0 _) rfl rfl v_X11_thrown kw_1358 (c_X11_thrown l gr N1 (r := N1 0 0) rfl _) rfl hl.1 rfl (Nat.le_of_ble_eq_true rfl) ⟨by decide, by decide⟩ ⟨by show _ ≤ 601024; omega, by show _ ≤ 7293033; omega⟩ dL_law__2800) A hZ (fun x9 N9 H locs hp hZ => ?_)
      obtain ⟨e1, e2⟩ := hp
      rw [e2] at hZ
      rw [e1]
      refine lv_iload hx hb dL_law__2803 (lv_at hl 1 rfl) ?_
      refine lv_icmp_eq (tgt := 2810) hx hb dL_law__2805 (by decide) (fun _ => ?_) (fun hne => absurd ht hne)
      refine lv_iload hx hb dL_law__2810 (lv_at hl 1 rfl) ?_
      refine lv_if_ne (tgt := 2827) hx hb dL_law__2812 (by decide) (fun _ => ?_) (fun h0 => absurd h0 (by show ¬ (1 : Int32) = 0; decide))
      refine lv_goto (tgt := 3069) hx hb dL_law__2827 (by decide) ?_
      refine W.widen (k := cells + 60) (n := slots + 360) (by omega) (by omega) ?_
      exact kk _ _ _ _ _ _ hR1 hZ (lv_sub hl [2, 3, 4, 5, 6] rfl)
    · refine lv_aload_n hx hb dL_law__2746 rfl (lv_at hl 1 rfl) ?_
      refine lv_aload_n hx hb dL_law__2747 rfl (lv_at hl 0 rfl) ?_
      refine lv_iload hx hb dL_law__2748 (lv_at hl 4 rfl) ?_
      refine lv_iconst (v := 1) hx hb dL_law__2750 (by decide) ?_
      refine lv_iadd hx hb dL_law__2751 ?_
      refine va_sld hx hb hX hbl (Nat.not_le.mpr hbl) hZ.2.2.2 hi1 dL_law__2752 ?_
      refine lv_aload_n hx hb dL_law__2753 rfl (lv_at hl 0 rfl) ?_
      refine lv_iload hx hb dL_law__2754 (lv_at hl 4 rfl) ?_
      refine lv_iconst (v := 2) hx hb dL_law__2756 (by decide) ?_
      refine lv_iadd hx hb dL_law__2757 ?_
      refine va_sld hx hb hX hbl (Nat.not_le.mpr hbl) hZ.2.2.2 hi2 dL_law__2758 ?_
      refine lv_if_eq (tgt := 2766) hx hb dL_law__2759 (by decide) (fun _ => ?_) (fun hne => absurd hb2 hne)
      refine lv_iconst (v := 0) hx hb dL_law__2766 (by decide) ?_
      refine lv_aload_n hx hb dL_law__2767 rfl (lv_at hl 3 rfl) ?_
      refine lw_i (lrunW (n := 4) (As := [.ref (gx.2.2 0), .int (xs (i + 1).toNatClampNeg), .int 0, .ref qo]) (rest := []) E hT hKo hNc A hZ kw_1318 kw_0 kw_1317 ⟨by decide, by decide, by decide +kernel⟩ kw_1316 (cw_L_span l hst gx cO qo M v (xs (i + 1).toNatClampNeg) 0 hfx (fun _ _ h => by cases h)) rfl hl.1 rfl (Nat.le_of_ble_eq_true rfl) ⟨by decide, by decide⟩ ⟨by show cells + 1 ≤ 601024; omega, by show slots + 6 ≤ 7293033; omega⟩ dL_law__2768) A hZ (fun H locs hZ => ?_)
      have hZ : zLS gx gr cO qo s H locs M1 N (b9.toInt64) := hZ
      refine W.widen (k := cells + 48) (n := slots + 288) (by omega) (by omega) ?_
      refine lv_istore (lv' := [(5, .int 0), (0, .ref b), (1, .ref (gx.2.2 0)), (2, .ref (gr.2.2 0)), (3, .ref qo), (4, .int i)]) hx hb dL_law__2771 hl (by decide) rfl (fun ls hl => ?_)
      refine lv_aload_n hx hb dL_law__2773 rfl (lv_at hl 3 rfl) ?_
      refine lv_aload_n hx hb dL_law__2774 rfl (lv_at hl 1 rfl) ?_
      refine lv_iload hx hb dL_law__2775 (lv_at hl 5 rfl) ?_
      refine lv_iconst (v := 1) hx hb dL_law__2777 (by decide) ?_
      refine lv_iadd hx hb dL_law__2778 ?_
      refine va_sld hx hb hX hbl (Nat.not_le.mpr hbl) hZ.2.2.2 hi1 dL_law__2779 ?_
      refine lv_aload_n hx hb dL_law__2780 rfl (lv_at hl 1 rfl) ?_
      refine lv_iload hx hb dL_law__2781 (lv_at hl 5 rfl) ?_
      refine lv_iconst (v := 2) hx hb dL_law__2783 (by decide) ?_
      refine lv_iadd hx hb dL_law__2784 ?_
      refine va_sld hx hb hX hbl (Nat.not_le.mpr hbl) hZ.2.2.2 hi2 dL_law__2785 ?_
      refine lv_if_eq (tgt := 2793) hx hb dL_law__2786 (by decide) (fun _ => ?_) (fun hne => absurd hb2 hne)
      refine lv_iconst (v := 0) hx hb dL_law__2793 (by decide) ?_
      refine lr_i (zrunV (As := [.int (xs (i + 1).toNatClampNeg), .int 0]) (rest := []) Er (hZ.r A) (by decide) (re_0 _) rfl rfl v_X11_span kw_2023 (c_X11_span l gr N (xs (i + 1).toNatClampNeg) 0 hfr _) rfl hl.1 rfl (Nat.le_of_ble_eq_true rfl) ⟨by decide, by decide⟩ ⟨by show _ ≤ 601024; omega, by show _ ≤ 7293033; omega⟩ dL_law__2794) A hZ (fun x9 N9 H locs hp hZ => ?_)
      obtain ⟨rfl, rfl⟩ := Prod.mk.inj hp
      refine lv_istore (lv' := [(6, .int b9), (5, .int 0), (0, .ref b), (1, .ref (gx.2.2 0)), (2, .ref (gr.2.2 0)), (3, .ref qo), (4, .int i)]) hx hb dL_law__2797 hl (by decide) rfl (fun ls hl => ?_)
      refine lv_aload_n hx hb dL_law__2799 rfl (lv_at hl 4 rfl) ?_
      refine lr_i (zrunV (As := []) (rest := []) Er (hZ.r A) (by decide) (re_0 _) rfl rfl v_X11_thrown kw_1358 (c_X11_thrown l gr N1 (r := N1 0 0) rfl _) rfl hl.1 rfl (Nat.le_of_ble_eq_true rfl) ⟨by decide, by decide⟩ ⟨by show _ ≤ 601024; omega, by show _ ≤ 7293033; omega⟩ dL_law__2800) A hZ (fun x9 N9 H locs hp hZ => ?_)
      obtain ⟨e1, e2⟩ := hp
      rw [e2] at hZ
      rw [e1]
      refine lv_iload hx hb dL_law__2803 (lv_at hl 1 rfl) ?_
      refine lv_icmp_eq (tgt := 2810) hx hb dL_law__2805 (by decide) (fun _ => ?_) (fun hne => absurd ht hne)
      refine lv_iload hx hb dL_law__2810 (lv_at hl 1 rfl) ?_
      refine lv_if_ne (tgt := 2827) hx hb dL_law__2812 (by decide) (fun hne => absurd rfl hne) (fun _ => ?_)
      refine lv_aload_n hx hb dL_law__2815 rfl (lv_at hl 5 rfl) ?_
      refine lv_iconst (v := 0) hx hb dL_law__2816 (by decide) ?_
      refine va_lald hx hb hKo hZ.2.2.1 0 0 rfl rfl (zin_of (by decide)) dL_law__2817 ?_
      refine lv_iload hx hb dL_law__2818 (lv_at hl 0 rfl) ?_
      refine lv_i2l hx hb dL_law__2820 rfl ?_
      refine W.lcmp hx hb dL_law__2821 ?_
      refine lv_if_eq (tgt := 2827) hx hb dL_law__2822 (by decide) (fun _ => ?_) (fun hne => absurd (zcmp_self _) hne)
      refine lv_goto (tgt := 3069) hx hb dL_law__2827 (by decide) ?_
      refine W.widen (k := cells + 60) (n := slots + 360) (by omega) (by omega) ?_
      exact kk _ _ _ _ _ _ hR1 hZ (lv_sub hl [2, 3, 4, 5, 6] rfl)
  · obtain ⟨M1, b9, N1, hfr, hR1, hcc⟩ := hz M N hR (xs (i + 1).toNatClampNeg) 1 (Or.inr rfl)
    rcases hcc with ⟨k0, hfx, hk0, ht⟩ | ⟨hfx, ht⟩
    · refine lv_aload_n hx hb dL_law__2746 rfl (lv_at hl 1 rfl) ?_
      refine lv_aload_n hx hb dL_law__2747 rfl (lv_at hl 0 rfl) ?_
      refine lv_iload hx hb dL_law__2748 (lv_at hl 4 rfl) ?_
      refine lv_iconst (v := 1) hx hb dL_law__2750 (by decide) ?_
      refine lv_iadd hx hb dL_law__2751 ?_
      refine va_sld hx hb hX hbl (Nat.not_le.mpr hbl) hZ.2.2.2 hi1 dL_law__2752 ?_
      refine lv_aload_n hx hb dL_law__2753 rfl (lv_at hl 0 rfl) ?_
      refine lv_iload hx hb dL_law__2754 (lv_at hl 4 rfl) ?_
      refine lv_iconst (v := 2) hx hb dL_law__2756 (by decide) ?_
      refine lv_iadd hx hb dL_law__2757 ?_
      refine va_sld hx hb hX hbl (Nat.not_le.mpr hbl) hZ.2.2.2 hi2 dL_law__2758 ?_
      refine lv_if_eq (tgt := 2766) hx hb dL_law__2759 (by decide) (fun he => absurd he hb2) (fun _ => ?_)
      refine lv_iconst (v := 1) hx hb dL_law__2762 (by decide) ?_
      refine lv_goto (tgt := 2767) hx hb dL_law__2763 (by decide) ?_
      refine lv_aload_n hx hb dL_law__2767 rfl (lv_at hl 3 rfl) ?_
      refine lw_i (lrunW (n := 4) (As := [.ref (gx.2.2 0), .int (xs (i + 1).toNatClampNeg), .int 1, .ref qo]) (rest := []) E hT hKo hNc A hZ kw_1318 kw_0 kw_1317 ⟨by decide, by decide, by decide +kernel⟩ kw_1316 (cw_L_span l hst gx cO qo M v (xs (i + 1).toNatClampNeg) 1 hfx (fun _ _ h => by cases h; exact hk0)) rfl hl.1 rfl (Nat.le_of_ble_eq_true rfl) ⟨by decide, by decide⟩ ⟨by show cells + 1 ≤ 601024; omega, by show slots + 6 ≤ 7293033; omega⟩ dL_law__2768) A hZ (fun H locs hZ => ?_)
      have hZ : zLS gx gr cO qo s H locs M1 N v := hZ
      refine W.widen (k := cells + 48) (n := slots + 288) (by omega) (by omega) ?_
      refine lv_istore (lv' := [(5, .int ((fun _ => 1) k0)), (0, .ref b), (1, .ref (gx.2.2 0)), (2, .ref (gr.2.2 0)), (3, .ref qo), (4, .int i)]) hx hb dL_law__2771 hl (by decide) rfl (fun ls hl => ?_)
      refine lv_aload_n hx hb dL_law__2773 rfl (lv_at hl 3 rfl) ?_
      refine lv_aload_n hx hb dL_law__2774 rfl (lv_at hl 1 rfl) ?_
      refine lv_iload hx hb dL_law__2775 (lv_at hl 5 rfl) ?_
      refine lv_iconst (v := 1) hx hb dL_law__2777 (by decide) ?_
      refine lv_iadd hx hb dL_law__2778 ?_
      refine va_sld hx hb hX hbl (Nat.not_le.mpr hbl) hZ.2.2.2 hi1 dL_law__2779 ?_
      refine lv_aload_n hx hb dL_law__2780 rfl (lv_at hl 1 rfl) ?_
      refine lv_iload hx hb dL_law__2781 (lv_at hl 5 rfl) ?_
      refine lv_iconst (v := 2) hx hb dL_law__2783 (by decide) ?_
      refine lv_iadd hx hb dL_law__2784 ?_
      refine va_sld hx hb hX hbl (Nat.not_le.mpr hbl) hZ.2.2.2 hi2 dL_law__2785 ?_
      refine lv_if_eq (tgt := 2793) hx hb dL_law__2786 (by decide) (fun he => absurd he hb2) (fun _ => ?_)
      refine lv_iconst (v := 1) hx hb dL_law__2789 (by decide) ?_
      refine lv_goto (tgt := 2794) hx hb dL_law__2790 (by decide) ?_
      refine lr_i (zrunV (As := [.int (xs (i + 1).toNatClampNeg), .int 1]) (rest := []) Er (hZ.r A) (by decide) (re_0 _) rfl rfl v_X11_span kw_2023 (c_X11_span l gr N (xs (i + 1).toNatClampNeg) 1 hfr _) rfl hl.1 rfl (Nat.le_of_ble_eq_true rfl) ⟨by decide, by decide⟩ ⟨by show _ ≤ 601024; omega, by show _ ≤ 7293033; omega⟩ dL_law__2794) A hZ (fun x9 N9 H locs hp hZ => ?_)
      obtain ⟨rfl, rfl⟩ := Prod.mk.inj hp
      refine lv_istore (lv' := [(6, .int b9), (5, .int ((fun _ => 1) k0)), (0, .ref b), (1, .ref (gx.2.2 0)), (2, .ref (gr.2.2 0)), (3, .ref qo), (4, .int i)]) hx hb dL_law__2797 hl (by decide) rfl (fun ls hl => ?_)
      refine lv_aload_n hx hb dL_law__2799 rfl (lv_at hl 4 rfl) ?_
      refine lr_i (zrunV (As := []) (rest := []) Er (hZ.r A) (by decide) (re_0 _) rfl rfl v_X11_thrown kw_1358 (c_X11_thrown l gr N1 (r := N1 0 0) rfl _) rfl hl.1 rfl (Nat.le_of_ble_eq_true rfl) ⟨by decide, by decide⟩ ⟨by show _ ≤ 601024; omega, by show _ ≤ 7293033; omega⟩ dL_law__2800) A hZ (fun x9 N9 H locs hp hZ => ?_)
      obtain ⟨e1, e2⟩ := hp
      rw [e2] at hZ
      rw [e1]
      refine lv_iload hx hb dL_law__2803 (lv_at hl 1 rfl) ?_
      refine lv_icmp_eq (tgt := 2810) hx hb dL_law__2805 (by decide) (fun _ => ?_) (fun hne => absurd ht hne)
      refine lv_iload hx hb dL_law__2810 (lv_at hl 1 rfl) ?_
      refine lv_if_ne (tgt := 2827) hx hb dL_law__2812 (by decide) (fun _ => ?_) (fun h0 => absurd h0 (by show ¬ (1 : Int32) = 0; decide))
      refine lv_goto (tgt := 3069) hx hb dL_law__2827 (by decide) ?_
      refine W.widen (k := cells + 60) (n := slots + 360) (by omega) (by omega) ?_
      exact kk _ _ _ _ _ _ hR1 hZ (lv_sub hl [2, 3, 4, 5, 6] rfl)
    · refine lv_aload_n hx hb dL_law__2746 rfl (lv_at hl 1 rfl) ?_
      refine lv_aload_n hx hb dL_law__2747 rfl (lv_at hl 0 rfl) ?_
      refine lv_iload hx hb dL_law__2748 (lv_at hl 4 rfl) ?_
      refine lv_iconst (v := 1) hx hb dL_law__2750 (by decide) ?_
      refine lv_iadd hx hb dL_law__2751 ?_
      refine va_sld hx hb hX hbl (Nat.not_le.mpr hbl) hZ.2.2.2 hi1 dL_law__2752 ?_
      refine lv_aload_n hx hb dL_law__2753 rfl (lv_at hl 0 rfl) ?_
      refine lv_iload hx hb dL_law__2754 (lv_at hl 4 rfl) ?_
      refine lv_iconst (v := 2) hx hb dL_law__2756 (by decide) ?_
      refine lv_iadd hx hb dL_law__2757 ?_
      refine va_sld hx hb hX hbl (Nat.not_le.mpr hbl) hZ.2.2.2 hi2 dL_law__2758 ?_
      refine lv_if_eq (tgt := 2766) hx hb dL_law__2759 (by decide) (fun he => absurd he hb2) (fun _ => ?_)
      refine lv_iconst (v := 1) hx hb dL_law__2762 (by decide) ?_
      refine lv_goto (tgt := 2767) hx hb dL_law__2763 (by decide) ?_
      refine lv_aload_n hx hb dL_law__2767 rfl (lv_at hl 3 rfl) ?_
      refine lw_i (lrunW (n := 4) (As := [.ref (gx.2.2 0), .int (xs (i + 1).toNatClampNeg), .int 1, .ref qo]) (rest := []) E hT hKo hNc A hZ kw_1318 kw_0 kw_1317 ⟨by decide, by decide, by decide +kernel⟩ kw_1316 (cw_L_span l hst gx cO qo M v (xs (i + 1).toNatClampNeg) 1 hfx (fun _ _ h => by cases h)) rfl hl.1 rfl (Nat.le_of_ble_eq_true rfl) ⟨by decide, by decide⟩ ⟨by show cells + 1 ≤ 601024; omega, by show slots + 6 ≤ 7293033; omega⟩ dL_law__2768) A hZ (fun H locs hZ => ?_)
      have hZ : zLS gx gr cO qo s H locs M1 N (b9.toInt64) := hZ
      refine W.widen (k := cells + 48) (n := slots + 288) (by omega) (by omega) ?_
      refine lv_istore (lv' := [(5, .int 0), (0, .ref b), (1, .ref (gx.2.2 0)), (2, .ref (gr.2.2 0)), (3, .ref qo), (4, .int i)]) hx hb dL_law__2771 hl (by decide) rfl (fun ls hl => ?_)
      refine lv_aload_n hx hb dL_law__2773 rfl (lv_at hl 3 rfl) ?_
      refine lv_aload_n hx hb dL_law__2774 rfl (lv_at hl 1 rfl) ?_
      refine lv_iload hx hb dL_law__2775 (lv_at hl 5 rfl) ?_
      refine lv_iconst (v := 1) hx hb dL_law__2777 (by decide) ?_
      refine lv_iadd hx hb dL_law__2778 ?_
      refine va_sld hx hb hX hbl (Nat.not_le.mpr hbl) hZ.2.2.2 hi1 dL_law__2779 ?_
      refine lv_aload_n hx hb dL_law__2780 rfl (lv_at hl 1 rfl) ?_
      refine lv_iload hx hb dL_law__2781 (lv_at hl 5 rfl) ?_
      refine lv_iconst (v := 2) hx hb dL_law__2783 (by decide) ?_
      refine lv_iadd hx hb dL_law__2784 ?_
      refine va_sld hx hb hX hbl (Nat.not_le.mpr hbl) hZ.2.2.2 hi2 dL_law__2785 ?_
      refine lv_if_eq (tgt := 2793) hx hb dL_law__2786 (by decide) (fun he => absurd he hb2) (fun _ => ?_)
      refine lv_iconst (v := 1) hx hb dL_law__2789 (by decide) ?_
      refine lv_goto (tgt := 2794) hx hb dL_law__2790 (by decide) ?_
      refine lr_i (zrunV (As := [.int (xs (i + 1).toNatClampNeg), .int 1]) (rest := []) Er (hZ.r A) (by decide) (re_0 _) rfl rfl v_X11_span kw_2023 (c_X11_span l gr N (xs (i + 1).toNatClampNeg) 1 hfr _) rfl hl.1 rfl (Nat.le_of_ble_eq_true rfl) ⟨by decide, by decide⟩ ⟨by show _ ≤ 601024; omega, by show _ ≤ 7293033; omega⟩ dL_law__2794) A hZ (fun x9 N9 H locs hp hZ => ?_)
      obtain ⟨rfl, rfl⟩ := Prod.mk.inj hp
      refine lv_istore (lv' := [(6, .int b9), (5, .int 0), (0, .ref b), (1, .ref (gx.2.2 0)), (2, .ref (gr.2.2 0)), (3, .ref qo), (4, .int i)]) hx hb dL_law__2797 hl (by decide) rfl (fun ls hl => ?_)
      refine lv_aload_n hx hb dL_law__2799 rfl (lv_at hl 4 rfl) ?_
      refine lr_i (zrunV (As := []) (rest := []) Er (hZ.r A) (by decide) (re_0 _) rfl rfl v_X11_thrown kw_1358 (c_X11_thrown l gr N1 (r := N1 0 0) rfl _) rfl hl.1 rfl (Nat.le_of_ble_eq_true rfl) ⟨by decide, by decide⟩ ⟨by show _ ≤ 601024; omega, by show _ ≤ 7293033; omega⟩ dL_law__2800) A hZ (fun x9 N9 H locs hp hZ => ?_)
      obtain ⟨e1, e2⟩ := hp
      rw [e2] at hZ
      rw [e1]
      refine lv_iload hx hb dL_law__2803 (lv_at hl 1 rfl) ?_
      refine lv_icmp_eq (tgt := 2810) hx hb dL_law__2805 (by decide) (fun _ => ?_) (fun hne => absurd ht hne)
      refine lv_iload hx hb dL_law__2810 (lv_at hl 1 rfl) ?_
      refine lv_if_ne (tgt := 2827) hx hb dL_law__2812 (by decide) (fun hne => absurd rfl hne) (fun _ => ?_)
      refine lv_aload_n hx hb dL_law__2815 rfl (lv_at hl 5 rfl) ?_
      refine lv_iconst (v := 0) hx hb dL_law__2816 (by decide) ?_
      refine va_lald hx hb hKo hZ.2.2.1 0 0 rfl rfl (zin_of (by decide)) dL_law__2817 ?_
      refine lv_iload hx hb dL_law__2818 (lv_at hl 0 rfl) ?_
      refine lv_i2l hx hb dL_law__2820 rfl ?_
      refine W.lcmp hx hb dL_law__2821 ?_
      refine lv_if_eq (tgt := 2827) hx hb dL_law__2822 (by decide) (fun _ => ?_) (fun hne => absurd (zcmp_self _) hne)
      refine lv_goto (tgt := 3069) hx hb dL_law__2827 (by decide) ?_
      refine W.widen (k := cells + 60) (n := slots + 360) (by omega) (by omega) ?_
      exact kk _ _ _ _ _ _ hR1 hZ (lv_sub hl [2, 3, 4, 5, 6] rfl)
def zs_led (Rel Rel' : zM → zM → Prop) : Prop := ∀ (M N : zM), Rel M N → ∀ x1 x2 : Int32, (x2 = 0 ∨ x2 = 1) → zsT Rel' (f_X10_led M x1 x2) (f_X11_led N x1 x2) (fun k => k = 0) (fun _ => 1)
set_option maxRecDepth 100000 in
set_option maxHeartbeats 4000000 in
theorem lc_led (C : zLC p l s m args c gx gr cO qo b L xs Ts) (hz : zs_led Rel Rel') (hR : Rel M N) (hZ : zLS gx gr cO qo s H locs M N v) (hl : lv_has ls 7 (zLl b gx gr qo i)) (hi1 : vp_in (i + 1) L) (hi2 : vp_in (i + 2) L) (hi3 : vp_in (i + 3) L) (hi4 : vp_in (i + 4) L) (hi5 : vp_in (i + 5) L) (hc : cells + 60 ≤ 601024) (hsl : slots + 360 ≤ 7293033) (kk : zLK p l e s m args below meth c Q Rel' gx gr cO qo b i cells slots) : W p l e room_1 s m args below meth c H locs cells slots Q (F0 m 2830 ls []) := by
  obtain ⟨hst, E, Er, hT, S, hKo, hNc, A, hX, hbl⟩ := C
  have hx := E.1.1
  have hb := E.1.2.1
  have hl : lv_has ls 7 [(0, .ref b), (1, .ref (gx.2.2 0)), (2, .ref (gr.2.2 0)), (3, .ref qo), (4, .int i)] := hl
  by_cases hb2 : (xs (i + 2).toNatClampNeg) = 0
  · obtain ⟨M1, b9, N1, hfr, hR1, hcc⟩ := hz M N hR (xs (i + 1).toNatClampNeg) 0 (Or.inl rfl)
    rcases hcc with ⟨k0, hfx, hk0, ht⟩ | ⟨hfx, ht⟩
    · refine lv_aload_n hx hb dL_law__2830 rfl (lv_at hl 1 rfl) ?_
      refine lv_aload_n hx hb dL_law__2831 rfl (lv_at hl 0 rfl) ?_
      refine lv_iload hx hb dL_law__2832 (lv_at hl 4 rfl) ?_
      refine lv_iconst (v := 1) hx hb dL_law__2834 (by decide) ?_
      refine lv_iadd hx hb dL_law__2835 ?_
      refine va_sld hx hb hX hbl (Nat.not_le.mpr hbl) hZ.2.2.2 hi1 dL_law__2836 ?_
      refine lv_aload_n hx hb dL_law__2837 rfl (lv_at hl 0 rfl) ?_
      refine lv_iload hx hb dL_law__2838 (lv_at hl 4 rfl) ?_
      refine lv_iconst (v := 2) hx hb dL_law__2840 (by decide) ?_
      refine lv_iadd hx hb dL_law__2841 ?_
      refine va_sld hx hb hX hbl (Nat.not_le.mpr hbl) hZ.2.2.2 hi2 dL_law__2842 ?_
      refine lv_if_eq (tgt := 2850) hx hb dL_law__2843 (by decide) (fun _ => ?_) (fun hne => absurd hb2 hne)
      refine lv_iconst (v := 0) hx hb dL_law__2850 (by decide) ?_
      refine lv_aload_n hx hb dL_law__2851 rfl (lv_at hl 3 rfl) ?_
      refine lw_i (lrunW (n := 4) (As := [.ref (gx.2.2 0), .int (xs (i + 1).toNatClampNeg), .int 0, .ref qo]) (rest := []) E hT hKo hNc A hZ kw_1326 kw_0 kw_1325 ⟨by decide, by decide, by decide +kernel⟩ kw_1324 (cw_L_led l hst gx cO qo M v (xs (i + 1).toNatClampNeg) 0 hfx (fun _ _ h => by cases h; exact hk0)) rfl hl.1 rfl (Nat.le_of_ble_eq_true rfl) ⟨by decide, by decide⟩ ⟨by show cells + 1 ≤ 601024; omega, by show slots + 6 ≤ 7293033; omega⟩ dL_law__2852) A hZ (fun H locs hZ => ?_)
      have hZ : zLS gx gr cO qo s H locs M1 N v := hZ
      refine W.widen (k := cells + 48) (n := slots + 288) (by omega) (by omega) ?_
      refine lv_istore (lv' := [(5, .int ((fun _ => 1) k0)), (0, .ref b), (1, .ref (gx.2.2 0)), (2, .ref (gr.2.2 0)), (3, .ref qo), (4, .int i)]) hx hb dL_law__2855 hl (by decide) rfl (fun ls hl => ?_)
      refine lv_aload_n hx hb dL_law__2857 rfl (lv_at hl 3 rfl) ?_
      refine lv_aload_n hx hb dL_law__2858 rfl (lv_at hl 1 rfl) ?_
      refine lv_iload hx hb dL_law__2859 (lv_at hl 5 rfl) ?_
      refine lv_iconst (v := 1) hx hb dL_law__2861 (by decide) ?_
      refine lv_iadd hx hb dL_law__2862 ?_
      refine va_sld hx hb hX hbl (Nat.not_le.mpr hbl) hZ.2.2.2 hi1 dL_law__2863 ?_
      refine lv_aload_n hx hb dL_law__2864 rfl (lv_at hl 1 rfl) ?_
      refine lv_iload hx hb dL_law__2865 (lv_at hl 5 rfl) ?_
      refine lv_iconst (v := 2) hx hb dL_law__2867 (by decide) ?_
      refine lv_iadd hx hb dL_law__2868 ?_
      refine va_sld hx hb hX hbl (Nat.not_le.mpr hbl) hZ.2.2.2 hi2 dL_law__2869 ?_
      refine lv_if_eq (tgt := 2877) hx hb dL_law__2870 (by decide) (fun _ => ?_) (fun hne => absurd hb2 hne)
      refine lv_iconst (v := 0) hx hb dL_law__2877 (by decide) ?_
      refine lr_i (zrunV (As := [.int (xs (i + 1).toNatClampNeg), .int 0]) (rest := []) Er (hZ.r A) (by decide) (re_0 _) rfl rfl v_X11_led kw_2027 (c_X11_led l gr N (xs (i + 1).toNatClampNeg) 0 hfr _) rfl hl.1 rfl (Nat.le_of_ble_eq_true rfl) ⟨by decide, by decide⟩ ⟨by show _ ≤ 601024; omega, by show _ ≤ 7293033; omega⟩ dL_law__2878) A hZ (fun x9 N9 H locs hp hZ => ?_)
      obtain ⟨rfl, rfl⟩ := Prod.mk.inj hp
      refine lv_istore (lv' := [(6, .int b9), (5, .int ((fun _ => 1) k0)), (0, .ref b), (1, .ref (gx.2.2 0)), (2, .ref (gr.2.2 0)), (3, .ref qo), (4, .int i)]) hx hb dL_law__2881 hl (by decide) rfl (fun ls hl => ?_)
      refine lv_aload_n hx hb dL_law__2883 rfl (lv_at hl 4 rfl) ?_
      refine lr_i (zrunV (As := []) (rest := []) Er (hZ.r A) (by decide) (re_0 _) rfl rfl v_X11_thrown kw_1358 (c_X11_thrown l gr N1 (r := N1 0 0) rfl _) rfl hl.1 rfl (Nat.le_of_ble_eq_true rfl) ⟨by decide, by decide⟩ ⟨by show _ ≤ 601024; omega, by show _ ≤ 7293033; omega⟩ dL_law__2884) A hZ (fun x9 N9 H locs hp hZ => ?_)
      obtain ⟨e1, e2⟩ := hp
      rw [e2] at hZ
      rw [e1]
      refine lv_iload hx hb dL_law__2887 (lv_at hl 1 rfl) ?_
      refine lv_icmp_eq (tgt := 2894) hx hb dL_law__2889 (by decide) (fun _ => ?_) (fun hne => absurd ht hne)
      refine lv_iload hx hb dL_law__2894 (lv_at hl 1 rfl) ?_
      refine lv_if_ne (tgt := 2911) hx hb dL_law__2896 (by decide) (fun _ => ?_) (fun h0 => absurd h0 (by show ¬ (1 : Int32) = 0; decide))
      refine lv_goto (tgt := 3069) hx hb dL_law__2911 (by decide) ?_
      refine W.widen (k := cells + 60) (n := slots + 360) (by omega) (by omega) ?_
      exact kk _ _ _ _ _ _ hR1 hZ (lv_sub hl [2, 3, 4, 5, 6] rfl)
    · refine lv_aload_n hx hb dL_law__2830 rfl (lv_at hl 1 rfl) ?_
      refine lv_aload_n hx hb dL_law__2831 rfl (lv_at hl 0 rfl) ?_
      refine lv_iload hx hb dL_law__2832 (lv_at hl 4 rfl) ?_
      refine lv_iconst (v := 1) hx hb dL_law__2834 (by decide) ?_
      refine lv_iadd hx hb dL_law__2835 ?_
      refine va_sld hx hb hX hbl (Nat.not_le.mpr hbl) hZ.2.2.2 hi1 dL_law__2836 ?_
      refine lv_aload_n hx hb dL_law__2837 rfl (lv_at hl 0 rfl) ?_
      refine lv_iload hx hb dL_law__2838 (lv_at hl 4 rfl) ?_
      refine lv_iconst (v := 2) hx hb dL_law__2840 (by decide) ?_
      refine lv_iadd hx hb dL_law__2841 ?_
      refine va_sld hx hb hX hbl (Nat.not_le.mpr hbl) hZ.2.2.2 hi2 dL_law__2842 ?_
      refine lv_if_eq (tgt := 2850) hx hb dL_law__2843 (by decide) (fun _ => ?_) (fun hne => absurd hb2 hne)
      refine lv_iconst (v := 0) hx hb dL_law__2850 (by decide) ?_
      refine lv_aload_n hx hb dL_law__2851 rfl (lv_at hl 3 rfl) ?_
      refine lw_i (lrunW (n := 4) (As := [.ref (gx.2.2 0), .int (xs (i + 1).toNatClampNeg), .int 0, .ref qo]) (rest := []) E hT hKo hNc A hZ kw_1326 kw_0 kw_1325 ⟨by decide, by decide, by decide +kernel⟩ kw_1324 (cw_L_led l hst gx cO qo M v (xs (i + 1).toNatClampNeg) 0 hfx (fun _ _ h => by cases h)) rfl hl.1 rfl (Nat.le_of_ble_eq_true rfl) ⟨by decide, by decide⟩ ⟨by show cells + 1 ≤ 601024; omega, by show slots + 6 ≤ 7293033; omega⟩ dL_law__2852) A hZ (fun H locs hZ => ?_)
      have hZ : zLS gx gr cO qo s H locs M1 N (b9.toInt64) := hZ
      refine W.widen (k := cells + 48) (n := slots + 288) (by omega) (by omega) ?_
      refine lv_istore (lv' := [(5, .int 0), (0, .ref b), (1, .ref (gx.2.2 0)), (2, .ref (gr.2.2 0)), (3, .ref qo), (4, .int i)]) hx hb dL_law__2855 hl (by decide) rfl (fun ls hl => ?_)
      refine lv_aload_n hx hb dL_law__2857 rfl (lv_at hl 3 rfl) ?_
      refine lv_aload_n hx hb dL_law__2858 rfl (lv_at hl 1 rfl) ?_
      refine lv_iload hx hb dL_law__2859 (lv_at hl 5 rfl) ?_
      refine lv_iconst (v := 1) hx hb dL_law__2861 (by decide) ?_
      refine lv_iadd hx hb dL_law__2862 ?_
      refine va_sld hx hb hX hbl (Nat.not_le.mpr hbl) hZ.2.2.2 hi1 dL_law__2863 ?_
      refine lv_aload_n hx hb dL_law__2864 rfl (lv_at hl 1 rfl) ?_
      refine lv_iload hx hb dL_law__2865 (lv_at hl 5 rfl) ?_
      refine lv_iconst (v := 2) hx hb dL_law__2867 (by decide) ?_
      refine lv_iadd hx hb dL_law__2868 ?_
      refine va_sld hx hb hX hbl (Nat.not_le.mpr hbl) hZ.2.2.2 hi2 dL_law__2869 ?_
      refine lv_if_eq (tgt := 2877) hx hb dL_law__2870 (by decide) (fun _ => ?_) (fun hne => absurd hb2 hne)
      refine lv_iconst (v := 0) hx hb dL_law__2877 (by decide) ?_
      refine lr_i (zrunV (As := [.int (xs (i + 1).toNatClampNeg), .int 0]) (rest := []) Er (hZ.r A) (by decide) (re_0 _) rfl rfl v_X11_led kw_2027 (c_X11_led l gr N (xs (i + 1).toNatClampNeg) 0 hfr _) rfl hl.1 rfl (Nat.le_of_ble_eq_true rfl) ⟨by decide, by decide⟩ ⟨by show _ ≤ 601024; omega, by show _ ≤ 7293033; omega⟩ dL_law__2878) A hZ (fun x9 N9 H locs hp hZ => ?_)
      obtain ⟨rfl, rfl⟩ := Prod.mk.inj hp
      refine lv_istore (lv' := [(6, .int b9), (5, .int 0), (0, .ref b), (1, .ref (gx.2.2 0)), (2, .ref (gr.2.2 0)), (3, .ref qo), (4, .int i)]) hx hb dL_law__2881 hl (by decide) rfl (fun ls hl => ?_)
      refine lv_aload_n hx hb dL_law__2883 rfl (lv_at hl 4 rfl) ?_
      refine lr_i (zrunV (As := []) (rest := []) Er (hZ.r A) (by decide) (re_0 _) rfl rfl v_X11_thrown kw_1358 (c_X11_thrown l gr N1 (r := N1 0 0) rfl _) rfl hl.1 rfl (Nat.le_of_ble_eq_true rfl) ⟨by decide, by decide⟩ ⟨by show _ ≤ 601024; omega, by show _ ≤ 7293033; omega⟩ dL_law__2884) A hZ (fun x9 N9 H locs hp hZ => ?_)
      obtain ⟨e1, e2⟩ := hp
      rw [e2] at hZ
      rw [e1]
      refine lv_iload hx hb dL_law__2887 (lv_at hl 1 rfl) ?_
      refine lv_icmp_eq (tgt := 2894) hx hb dL_law__2889 (by decide) (fun _ => ?_) (fun hne => absurd ht hne)
      refine lv_iload hx hb dL_law__2894 (lv_at hl 1 rfl) ?_
      refine lv_if_ne (tgt := 2911) hx hb dL_law__2896 (by decide) (fun hne => absurd rfl hne) (fun _ => ?_)
      refine lv_aload_n hx hb dL_law__2899 rfl (lv_at hl 5 rfl) ?_
      refine lv_iconst (v := 0) hx hb dL_law__2900 (by decide) ?_
      refine va_lald hx hb hKo hZ.2.2.1 0 0 rfl rfl (zin_of (by decide)) dL_law__2901 ?_
      refine lv_iload hx hb dL_law__2902 (lv_at hl 0 rfl) ?_
      refine lv_i2l hx hb dL_law__2904 rfl ?_
      refine W.lcmp hx hb dL_law__2905 ?_
      refine lv_if_eq (tgt := 2911) hx hb dL_law__2906 (by decide) (fun _ => ?_) (fun hne => absurd (zcmp_self _) hne)
      refine lv_goto (tgt := 3069) hx hb dL_law__2911 (by decide) ?_
      refine W.widen (k := cells + 60) (n := slots + 360) (by omega) (by omega) ?_
      exact kk _ _ _ _ _ _ hR1 hZ (lv_sub hl [2, 3, 4, 5, 6] rfl)
  · obtain ⟨M1, b9, N1, hfr, hR1, hcc⟩ := hz M N hR (xs (i + 1).toNatClampNeg) 1 (Or.inr rfl)
    rcases hcc with ⟨k0, hfx, hk0, ht⟩ | ⟨hfx, ht⟩
    · refine lv_aload_n hx hb dL_law__2830 rfl (lv_at hl 1 rfl) ?_
      refine lv_aload_n hx hb dL_law__2831 rfl (lv_at hl 0 rfl) ?_
      refine lv_iload hx hb dL_law__2832 (lv_at hl 4 rfl) ?_
      refine lv_iconst (v := 1) hx hb dL_law__2834 (by decide) ?_
      refine lv_iadd hx hb dL_law__2835 ?_
      refine va_sld hx hb hX hbl (Nat.not_le.mpr hbl) hZ.2.2.2 hi1 dL_law__2836 ?_
      refine lv_aload_n hx hb dL_law__2837 rfl (lv_at hl 0 rfl) ?_
      refine lv_iload hx hb dL_law__2838 (lv_at hl 4 rfl) ?_
      refine lv_iconst (v := 2) hx hb dL_law__2840 (by decide) ?_
      refine lv_iadd hx hb dL_law__2841 ?_
      refine va_sld hx hb hX hbl (Nat.not_le.mpr hbl) hZ.2.2.2 hi2 dL_law__2842 ?_
      refine lv_if_eq (tgt := 2850) hx hb dL_law__2843 (by decide) (fun he => absurd he hb2) (fun _ => ?_)
      refine lv_iconst (v := 1) hx hb dL_law__2846 (by decide) ?_
      refine lv_goto (tgt := 2851) hx hb dL_law__2847 (by decide) ?_
      refine lv_aload_n hx hb dL_law__2851 rfl (lv_at hl 3 rfl) ?_
      refine lw_i (lrunW (n := 4) (As := [.ref (gx.2.2 0), .int (xs (i + 1).toNatClampNeg), .int 1, .ref qo]) (rest := []) E hT hKo hNc A hZ kw_1326 kw_0 kw_1325 ⟨by decide, by decide, by decide +kernel⟩ kw_1324 (cw_L_led l hst gx cO qo M v (xs (i + 1).toNatClampNeg) 1 hfx (fun _ _ h => by cases h; exact hk0)) rfl hl.1 rfl (Nat.le_of_ble_eq_true rfl) ⟨by decide, by decide⟩ ⟨by show cells + 1 ≤ 601024; omega, by show slots + 6 ≤ 7293033; omega⟩ dL_law__2852) A hZ (fun H locs hZ => ?_)
      have hZ : zLS gx gr cO qo s H locs M1 N v := hZ
      refine W.widen (k := cells + 48) (n := slots + 288) (by omega) (by omega) ?_
      refine lv_istore (lv' := [(5, .int ((fun _ => 1) k0)), (0, .ref b), (1, .ref (gx.2.2 0)), (2, .ref (gr.2.2 0)), (3, .ref qo), (4, .int i)]) hx hb dL_law__2855 hl (by decide) rfl (fun ls hl => ?_)
      refine lv_aload_n hx hb dL_law__2857 rfl (lv_at hl 3 rfl) ?_
      refine lv_aload_n hx hb dL_law__2858 rfl (lv_at hl 1 rfl) ?_
      refine lv_iload hx hb dL_law__2859 (lv_at hl 5 rfl) ?_
      refine lv_iconst (v := 1) hx hb dL_law__2861 (by decide) ?_
      refine lv_iadd hx hb dL_law__2862 ?_
      refine va_sld hx hb hX hbl (Nat.not_le.mpr hbl) hZ.2.2.2 hi1 dL_law__2863 ?_
      refine lv_aload_n hx hb dL_law__2864 rfl (lv_at hl 1 rfl) ?_
      refine lv_iload hx hb dL_law__2865 (lv_at hl 5 rfl) ?_
      refine lv_iconst (v := 2) hx hb dL_law__2867 (by decide) ?_
      refine lv_iadd hx hb dL_law__2868 ?_
      refine va_sld hx hb hX hbl (Nat.not_le.mpr hbl) hZ.2.2.2 hi2 dL_law__2869 ?_
      refine lv_if_eq (tgt := 2877) hx hb dL_law__2870 (by decide) (fun he => absurd he hb2) (fun _ => ?_)
      refine lv_iconst (v := 1) hx hb dL_law__2873 (by decide) ?_
      refine lv_goto (tgt := 2878) hx hb dL_law__2874 (by decide) ?_
      refine lr_i (zrunV (As := [.int (xs (i + 1).toNatClampNeg), .int 1]) (rest := []) Er (hZ.r A) (by decide) (re_0 _) rfl rfl v_X11_led kw_2027 (c_X11_led l gr N (xs (i + 1).toNatClampNeg) 1 hfr _) rfl hl.1 rfl (Nat.le_of_ble_eq_true rfl) ⟨by decide, by decide⟩ ⟨by show _ ≤ 601024; omega, by show _ ≤ 7293033; omega⟩ dL_law__2878) A hZ (fun x9 N9 H locs hp hZ => ?_)
      obtain ⟨rfl, rfl⟩ := Prod.mk.inj hp
      refine lv_istore (lv' := [(6, .int b9), (5, .int ((fun _ => 1) k0)), (0, .ref b), (1, .ref (gx.2.2 0)), (2, .ref (gr.2.2 0)), (3, .ref qo), (4, .int i)]) hx hb dL_law__2881 hl (by decide) rfl (fun ls hl => ?_)
      refine lv_aload_n hx hb dL_law__2883 rfl (lv_at hl 4 rfl) ?_
      refine lr_i (zrunV (As := []) (rest := []) Er (hZ.r A) (by decide) (re_0 _) rfl rfl v_X11_thrown kw_1358 (c_X11_thrown l gr N1 (r := N1 0 0) rfl _) rfl hl.1 rfl (Nat.le_of_ble_eq_true rfl) ⟨by decide, by decide⟩ ⟨by show _ ≤ 601024; omega, by show _ ≤ 7293033; omega⟩ dL_law__2884) A hZ (fun x9 N9 H locs hp hZ => ?_)
      obtain ⟨e1, e2⟩ := hp
      rw [e2] at hZ
      rw [e1]
      refine lv_iload hx hb dL_law__2887 (lv_at hl 1 rfl) ?_
      refine lv_icmp_eq (tgt := 2894) hx hb dL_law__2889 (by decide) (fun _ => ?_) (fun hne => absurd ht hne)
      refine lv_iload hx hb dL_law__2894 (lv_at hl 1 rfl) ?_
      refine lv_if_ne (tgt := 2911) hx hb dL_law__2896 (by decide) (fun _ => ?_) (fun h0 => absurd h0 (by show ¬ (1 : Int32) = 0; decide))
      refine lv_goto (tgt := 3069) hx hb dL_law__2911 (by decide) ?_
      refine W.widen (k := cells + 60) (n := slots + 360) (by omega) (by omega) ?_
      exact kk _ _ _ _ _ _ hR1 hZ (lv_sub hl [2, 3, 4, 5, 6] rfl)
    · refine lv_aload_n hx hb dL_law__2830 rfl (lv_at hl 1 rfl) ?_
      refine lv_aload_n hx hb dL_law__2831 rfl (lv_at hl 0 rfl) ?_
      refine lv_iload hx hb dL_law__2832 (lv_at hl 4 rfl) ?_
      refine lv_iconst (v := 1) hx hb dL_law__2834 (by decide) ?_
      refine lv_iadd hx hb dL_law__2835 ?_
      refine va_sld hx hb hX hbl (Nat.not_le.mpr hbl) hZ.2.2.2 hi1 dL_law__2836 ?_
      refine lv_aload_n hx hb dL_law__2837 rfl (lv_at hl 0 rfl) ?_
      refine lv_iload hx hb dL_law__2838 (lv_at hl 4 rfl) ?_
      refine lv_iconst (v := 2) hx hb dL_law__2840 (by decide) ?_
      refine lv_iadd hx hb dL_law__2841 ?_
      refine va_sld hx hb hX hbl (Nat.not_le.mpr hbl) hZ.2.2.2 hi2 dL_law__2842 ?_
      refine lv_if_eq (tgt := 2850) hx hb dL_law__2843 (by decide) (fun he => absurd he hb2) (fun _ => ?_)
      refine lv_iconst (v := 1) hx hb dL_law__2846 (by decide) ?_
      refine lv_goto (tgt := 2851) hx hb dL_law__2847 (by decide) ?_
      refine lv_aload_n hx hb dL_law__2851 rfl (lv_at hl 3 rfl) ?_
      refine lw_i (lrunW (n := 4) (As := [.ref (gx.2.2 0), .int (xs (i + 1).toNatClampNeg), .int 1, .ref qo]) (rest := []) E hT hKo hNc A hZ kw_1326 kw_0 kw_1325 ⟨by decide, by decide, by decide +kernel⟩ kw_1324 (cw_L_led l hst gx cO qo M v (xs (i + 1).toNatClampNeg) 1 hfx (fun _ _ h => by cases h)) rfl hl.1 rfl (Nat.le_of_ble_eq_true rfl) ⟨by decide, by decide⟩ ⟨by show cells + 1 ≤ 601024; omega, by show slots + 6 ≤ 7293033; omega⟩ dL_law__2852) A hZ (fun H locs hZ => ?_)
      have hZ : zLS gx gr cO qo s H locs M1 N (b9.toInt64) := hZ
      refine W.widen (k := cells + 48) (n := slots + 288) (by omega) (by omega) ?_
      refine lv_istore (lv' := [(5, .int 0), (0, .ref b), (1, .ref (gx.2.2 0)), (2, .ref (gr.2.2 0)), (3, .ref qo), (4, .int i)]) hx hb dL_law__2855 hl (by decide) rfl (fun ls hl => ?_)
      refine lv_aload_n hx hb dL_law__2857 rfl (lv_at hl 3 rfl) ?_
      refine lv_aload_n hx hb dL_law__2858 rfl (lv_at hl 1 rfl) ?_
      refine lv_iload hx hb dL_law__2859 (lv_at hl 5 rfl) ?_
      refine lv_iconst (v := 1) hx hb dL_law__2861 (by decide) ?_
      refine lv_iadd hx hb dL_law__2862 ?_
      refine va_sld hx hb hX hbl (Nat.not_le.mpr hbl) hZ.2.2.2 hi1 dL_law__2863 ?_
      refine lv_aload_n hx hb dL_law__2864 rfl (lv_at hl 1 rfl) ?_
      refine lv_iload hx hb dL_law__2865 (lv_at hl 5 rfl) ?_
      refine lv_iconst (v := 2) hx hb dL_law__2867 (by decide) ?_
      refine lv_iadd hx hb dL_law__2868 ?_
      refine va_sld hx hb hX hbl (Nat.not_le.mpr hbl) hZ.2.2.2 hi2 dL_law__2869 ?_
      refine lv_if_eq (tgt := 2877) hx hb dL_law__2870 (by decide) (fun he => absurd he hb2) (fun _ => ?_)
      refine lv_iconst (v := 1) hx hb dL_law__2873 (by decide) ?_
      refine lv_goto (tgt := 2878) hx hb dL_law__2874 (by decide) ?_
      refine lr_i (zrunV (As := [.int (xs (i + 1).toNatClampNeg), .int 1]) (rest := []) Er (hZ.r A) (by decide) (re_0 _) rfl rfl v_X11_led kw_2027 (c_X11_led l gr N (xs (i + 1).toNatClampNeg) 1 hfr _) rfl hl.1 rfl (Nat.le_of_ble_eq_true rfl) ⟨by decide, by decide⟩ ⟨by show _ ≤ 601024; omega, by show _ ≤ 7293033; omega⟩ dL_law__2878) A hZ (fun x9 N9 H locs hp hZ => ?_)
      obtain ⟨rfl, rfl⟩ := Prod.mk.inj hp
      refine lv_istore (lv' := [(6, .int b9), (5, .int 0), (0, .ref b), (1, .ref (gx.2.2 0)), (2, .ref (gr.2.2 0)), (3, .ref qo), (4, .int i)]) hx hb dL_law__2881 hl (by decide) rfl (fun ls hl => ?_)
      refine lv_aload_n hx hb dL_law__2883 rfl (lv_at hl 4 rfl) ?_
      refine lr_i (zrunV (As := []) (rest := []) Er (hZ.r A) (by decide) (re_0 _) rfl rfl v_X11_thrown kw_1358 (c_X11_thrown l gr N1 (r := N1 0 0) rfl _) rfl hl.1 rfl (Nat.le_of_ble_eq_true rfl) ⟨by decide, by decide⟩ ⟨by show _ ≤ 601024; omega, by show _ ≤ 7293033; omega⟩ dL_law__2884) A hZ (fun x9 N9 H locs hp hZ => ?_)
      obtain ⟨e1, e2⟩ := hp
      rw [e2] at hZ
      rw [e1]
      refine lv_iload hx hb dL_law__2887 (lv_at hl 1 rfl) ?_
      refine lv_icmp_eq (tgt := 2894) hx hb dL_law__2889 (by decide) (fun _ => ?_) (fun hne => absurd ht hne)
      refine lv_iload hx hb dL_law__2894 (lv_at hl 1 rfl) ?_
      refine lv_if_ne (tgt := 2911) hx hb dL_law__2896 (by decide) (fun hne => absurd rfl hne) (fun _ => ?_)
      refine lv_aload_n hx hb dL_law__2899 rfl (lv_at hl 5 rfl) ?_
      refine lv_iconst (v := 0) hx hb dL_law__2900 (by decide) ?_
      refine va_lald hx hb hKo hZ.2.2.1 0 0 rfl rfl (zin_of (by decide)) dL_law__2901 ?_
      refine lv_iload hx hb dL_law__2902 (lv_at hl 0 rfl) ?_
      refine lv_i2l hx hb dL_law__2904 rfl ?_
      refine W.lcmp hx hb dL_law__2905 ?_
      refine lv_if_eq (tgt := 2911) hx hb dL_law__2906 (by decide) (fun _ => ?_) (fun hne => absurd (zcmp_self _) hne)
      refine lv_goto (tgt := 3069) hx hb dL_law__2911 (by decide) ?_
      refine W.widen (k := cells + 60) (n := slots + 360) (by omega) (by omega) ?_
      exact kk _ _ _ _ _ _ hR1 hZ (lv_sub hl [2, 3, 4, 5, 6] rfl)
def zs_log (Rel Rel' : zM → zM → Prop) : Prop := ∀ (M N : zM), Rel M N → ∀ x1 x2 : Int32, zsT Rel' (f_X10_log M x1 x2) (f_X11_log N x1 x2) (fun k => k = 3) (fun _ => 1)
set_option maxRecDepth 100000 in
set_option maxHeartbeats 4000000 in
theorem lc_log (C : zLC p l s m args c gx gr cO qo b L xs Ts) (hz : zs_log Rel Rel') (hR : Rel M N) (hZ : zLS gx gr cO qo s H locs M N v) (hl : lv_has ls 7 (zLl b gx gr qo i)) (hi1 : vp_in (i + 1) L) (hi2 : vp_in (i + 2) L) (hi3 : vp_in (i + 3) L) (hi4 : vp_in (i + 4) L) (hi5 : vp_in (i + 5) L) (hc : cells + 60 ≤ 601024) (hsl : slots + 360 ≤ 7293033) (kk : zLK p l e s m args below meth c Q Rel' gx gr cO qo b i cells slots) : W p l e room_1 s m args below meth c H locs cells slots Q (F0 m 2914 ls []) := by
  obtain ⟨hst, E, Er, hT, S, hKo, hNc, A, hX, hbl⟩ := C
  have hx := E.1.1
  have hb := E.1.2.1
  have hl : lv_has ls 7 [(0, .ref b), (1, .ref (gx.2.2 0)), (2, .ref (gr.2.2 0)), (3, .ref qo), (4, .int i)] := hl
  obtain ⟨M1, b9, N1, hfr, hR1, hcc⟩ := hz M N hR (xs (i + 1).toNatClampNeg) (xs (i + 2).toNatClampNeg) 
  rcases hcc with ⟨k0, hfx, hk0, ht⟩ | ⟨hfx, ht⟩
  · refine lv_aload_n hx hb dL_law__2914 rfl (lv_at hl 1 rfl) ?_
    refine lv_aload_n hx hb dL_law__2915 rfl (lv_at hl 0 rfl) ?_
    refine lv_iload hx hb dL_law__2916 (lv_at hl 4 rfl) ?_
    refine lv_iconst (v := 1) hx hb dL_law__2918 (by decide) ?_
    refine lv_iadd hx hb dL_law__2919 ?_
    refine va_sld hx hb hX hbl (Nat.not_le.mpr hbl) hZ.2.2.2 hi1 dL_law__2920 ?_
    refine lv_aload_n hx hb dL_law__2921 rfl (lv_at hl 0 rfl) ?_
    refine lv_iload hx hb dL_law__2922 (lv_at hl 4 rfl) ?_
    refine lv_iconst (v := 2) hx hb dL_law__2924 (by decide) ?_
    refine lv_iadd hx hb dL_law__2925 ?_
    refine va_sld hx hb hX hbl (Nat.not_le.mpr hbl) hZ.2.2.2 hi2 dL_law__2926 ?_
    refine lv_aload_n hx hb dL_law__2927 rfl (lv_at hl 3 rfl) ?_
    refine lw_i (lrunW (n := 4) (As := [.ref (gx.2.2 0), .int (xs (i + 1).toNatClampNeg), .int (xs (i + 2).toNatClampNeg), .ref qo]) (rest := []) E hT hKo hNc A hZ kw_1345 kw_0 kw_1344 ⟨by decide, by decide, by decide +kernel⟩ kw_1343 (cw_L_log l hst gx cO qo M v (xs (i + 1).toNatClampNeg) (xs (i + 2).toNatClampNeg) hfx (fun _ _ h => by cases h; exact hk0)) rfl hl.1 rfl (Nat.le_of_ble_eq_true rfl) ⟨by decide, by decide⟩ ⟨by show cells + 1 ≤ 601024; omega, by show slots + 6 ≤ 7293033; omega⟩ dL_law__2928) A hZ (fun H locs hZ => ?_)
    have hZ : zLS gx gr cO qo s H locs M1 N v := hZ
    refine W.widen (k := cells + 48) (n := slots + 288) (by omega) (by omega) ?_
    refine lv_istore (lv' := [(5, .int ((fun _ => 1) k0)), (0, .ref b), (1, .ref (gx.2.2 0)), (2, .ref (gr.2.2 0)), (3, .ref qo), (4, .int i)]) hx hb dL_law__2931 hl (by decide) rfl (fun ls hl => ?_)
    refine lv_aload_n hx hb dL_law__2933 rfl (lv_at hl 3 rfl) ?_
    refine lv_aload_n hx hb dL_law__2934 rfl (lv_at hl 1 rfl) ?_
    refine lv_iload hx hb dL_law__2935 (lv_at hl 5 rfl) ?_
    refine lv_iconst (v := 1) hx hb dL_law__2937 (by decide) ?_
    refine lv_iadd hx hb dL_law__2938 ?_
    refine va_sld hx hb hX hbl (Nat.not_le.mpr hbl) hZ.2.2.2 hi1 dL_law__2939 ?_
    refine lv_aload_n hx hb dL_law__2940 rfl (lv_at hl 1 rfl) ?_
    refine lv_iload hx hb dL_law__2941 (lv_at hl 5 rfl) ?_
    refine lv_iconst (v := 2) hx hb dL_law__2943 (by decide) ?_
    refine lv_iadd hx hb dL_law__2944 ?_
    refine va_sld hx hb hX hbl (Nat.not_le.mpr hbl) hZ.2.2.2 hi2 dL_law__2945 ?_
    refine lr_i (zrunV (As := [.int (xs (i + 1).toNatClampNeg), .int (xs (i + 2).toNatClampNeg)]) (rest := []) Er (hZ.r A) (by decide) (re_0 _) rfl rfl v_X11_log kw_2035 (c_X11_log l gr N (xs (i + 1).toNatClampNeg) (xs (i + 2).toNatClampNeg) hfr _) rfl hl.1 rfl (Nat.le_of_ble_eq_true rfl) ⟨by decide, by decide⟩ ⟨by show _ ≤ 601024; omega, by show _ ≤ 7293033; omega⟩ dL_law__2946) A hZ (fun x9 N9 H locs hp hZ => ?_)
    obtain ⟨rfl, rfl⟩ := Prod.mk.inj hp
    refine lv_istore (lv' := [(6, .int b9), (5, .int ((fun _ => 1) k0)), (0, .ref b), (1, .ref (gx.2.2 0)), (2, .ref (gr.2.2 0)), (3, .ref qo), (4, .int i)]) hx hb dL_law__2949 hl (by decide) rfl (fun ls hl => ?_)
    refine lv_aload_n hx hb dL_law__2951 rfl (lv_at hl 4 rfl) ?_
    refine lr_i (zrunV (As := []) (rest := []) Er (hZ.r A) (by decide) (re_0 _) rfl rfl v_X11_thrown kw_1358 (c_X11_thrown l gr N1 (r := N1 0 0) rfl _) rfl hl.1 rfl (Nat.le_of_ble_eq_true rfl) ⟨by decide, by decide⟩ ⟨by show _ ≤ 601024; omega, by show _ ≤ 7293033; omega⟩ dL_law__2952) A hZ (fun x9 N9 H locs hp hZ => ?_)
    obtain ⟨e1, e2⟩ := hp
    rw [e2] at hZ
    rw [e1]
    refine lv_iload hx hb dL_law__2955 (lv_at hl 1 rfl) ?_
    refine lv_icmp_eq (tgt := 2962) hx hb dL_law__2957 (by decide) (fun _ => ?_) (fun hne => absurd ht hne)
    refine lv_iload hx hb dL_law__2962 (lv_at hl 1 rfl) ?_
    refine lv_if_ne (tgt := 2979) hx hb dL_law__2964 (by decide) (fun _ => ?_) (fun h0 => absurd h0 (by show ¬ (1 : Int32) = 0; decide))
    refine lv_goto (tgt := 3069) hx hb dL_law__2979 (by decide) ?_
    refine W.widen (k := cells + 60) (n := slots + 360) (by omega) (by omega) ?_
    exact kk _ _ _ _ _ _ hR1 hZ (lv_sub hl [2, 3, 4, 5, 6] rfl)
  · refine lv_aload_n hx hb dL_law__2914 rfl (lv_at hl 1 rfl) ?_
    refine lv_aload_n hx hb dL_law__2915 rfl (lv_at hl 0 rfl) ?_
    refine lv_iload hx hb dL_law__2916 (lv_at hl 4 rfl) ?_
    refine lv_iconst (v := 1) hx hb dL_law__2918 (by decide) ?_
    refine lv_iadd hx hb dL_law__2919 ?_
    refine va_sld hx hb hX hbl (Nat.not_le.mpr hbl) hZ.2.2.2 hi1 dL_law__2920 ?_
    refine lv_aload_n hx hb dL_law__2921 rfl (lv_at hl 0 rfl) ?_
    refine lv_iload hx hb dL_law__2922 (lv_at hl 4 rfl) ?_
    refine lv_iconst (v := 2) hx hb dL_law__2924 (by decide) ?_
    refine lv_iadd hx hb dL_law__2925 ?_
    refine va_sld hx hb hX hbl (Nat.not_le.mpr hbl) hZ.2.2.2 hi2 dL_law__2926 ?_
    refine lv_aload_n hx hb dL_law__2927 rfl (lv_at hl 3 rfl) ?_
    refine lw_i (lrunW (n := 4) (As := [.ref (gx.2.2 0), .int (xs (i + 1).toNatClampNeg), .int (xs (i + 2).toNatClampNeg), .ref qo]) (rest := []) E hT hKo hNc A hZ kw_1345 kw_0 kw_1344 ⟨by decide, by decide, by decide +kernel⟩ kw_1343 (cw_L_log l hst gx cO qo M v (xs (i + 1).toNatClampNeg) (xs (i + 2).toNatClampNeg) hfx (fun _ _ h => by cases h)) rfl hl.1 rfl (Nat.le_of_ble_eq_true rfl) ⟨by decide, by decide⟩ ⟨by show cells + 1 ≤ 601024; omega, by show slots + 6 ≤ 7293033; omega⟩ dL_law__2928) A hZ (fun H locs hZ => ?_)
    have hZ : zLS gx gr cO qo s H locs M1 N (b9.toInt64) := hZ
    refine W.widen (k := cells + 48) (n := slots + 288) (by omega) (by omega) ?_
    refine lv_istore (lv' := [(5, .int 0), (0, .ref b), (1, .ref (gx.2.2 0)), (2, .ref (gr.2.2 0)), (3, .ref qo), (4, .int i)]) hx hb dL_law__2931 hl (by decide) rfl (fun ls hl => ?_)
    refine lv_aload_n hx hb dL_law__2933 rfl (lv_at hl 3 rfl) ?_
    refine lv_aload_n hx hb dL_law__2934 rfl (lv_at hl 1 rfl) ?_
    refine lv_iload hx hb dL_law__2935 (lv_at hl 5 rfl) ?_
    refine lv_iconst (v := 1) hx hb dL_law__2937 (by decide) ?_
    refine lv_iadd hx hb dL_law__2938 ?_
    refine va_sld hx hb hX hbl (Nat.not_le.mpr hbl) hZ.2.2.2 hi1 dL_law__2939 ?_
    refine lv_aload_n hx hb dL_law__2940 rfl (lv_at hl 1 rfl) ?_
    refine lv_iload hx hb dL_law__2941 (lv_at hl 5 rfl) ?_
    refine lv_iconst (v := 2) hx hb dL_law__2943 (by decide) ?_
    refine lv_iadd hx hb dL_law__2944 ?_
    refine va_sld hx hb hX hbl (Nat.not_le.mpr hbl) hZ.2.2.2 hi2 dL_law__2945 ?_
    refine lr_i (zrunV (As := [.int (xs (i + 1).toNatClampNeg), .int (xs (i + 2).toNatClampNeg)]) (rest := []) Er (hZ.r A) (by decide) (re_0 _) rfl rfl v_X11_log kw_2035 (c_X11_log l gr N (xs (i + 1).toNatClampNeg) (xs (i + 2).toNatClampNeg) hfr _) rfl hl.1 rfl (Nat.le_of_ble_eq_true rfl) ⟨by decide, by decide⟩ ⟨by show _ ≤ 601024; omega, by show _ ≤ 7293033; omega⟩ dL_law__2946) A hZ (fun x9 N9 H locs hp hZ => ?_)
    obtain ⟨rfl, rfl⟩ := Prod.mk.inj hp
    refine lv_istore (lv' := [(6, .int b9), (5, .int 0), (0, .ref b), (1, .ref (gx.2.2 0)), (2, .ref (gr.2.2 0)), (3, .ref qo), (4, .int i)]) hx hb dL_law__2949 hl (by decide) rfl (fun ls hl => ?_)
    refine lv_aload_n hx hb dL_law__2951 rfl (lv_at hl 4 rfl) ?_
    refine lr_i (zrunV (As := []) (rest := []) Er (hZ.r A) (by decide) (re_0 _) rfl rfl v_X11_thrown kw_1358 (c_X11_thrown l gr N1 (r := N1 0 0) rfl _) rfl hl.1 rfl (Nat.le_of_ble_eq_true rfl) ⟨by decide, by decide⟩ ⟨by show _ ≤ 601024; omega, by show _ ≤ 7293033; omega⟩ dL_law__2952) A hZ (fun x9 N9 H locs hp hZ => ?_)
    obtain ⟨e1, e2⟩ := hp
    rw [e2] at hZ
    rw [e1]
    refine lv_iload hx hb dL_law__2955 (lv_at hl 1 rfl) ?_
    refine lv_icmp_eq (tgt := 2962) hx hb dL_law__2957 (by decide) (fun _ => ?_) (fun hne => absurd ht hne)
    refine lv_iload hx hb dL_law__2962 (lv_at hl 1 rfl) ?_
    refine lv_if_ne (tgt := 2979) hx hb dL_law__2964 (by decide) (fun hne => absurd rfl hne) (fun _ => ?_)
    refine lv_aload_n hx hb dL_law__2967 rfl (lv_at hl 5 rfl) ?_
    refine lv_iconst (v := 0) hx hb dL_law__2968 (by decide) ?_
    refine va_lald hx hb hKo hZ.2.2.1 0 0 rfl rfl (zin_of (by decide)) dL_law__2969 ?_
    refine lv_iload hx hb dL_law__2970 (lv_at hl 0 rfl) ?_
    refine lv_i2l hx hb dL_law__2972 rfl ?_
    refine W.lcmp hx hb dL_law__2973 ?_
    refine lv_if_eq (tgt := 2979) hx hb dL_law__2974 (by decide) (fun _ => ?_) (fun hne => absurd (zcmp_self _) hne)
    refine lv_goto (tgt := 3069) hx hb dL_law__2979 (by decide) ?_
    refine W.widen (k := cells + 60) (n := slots + 360) (by omega) (by omega) ?_
    exact kk _ _ _ _ _ _ hR1 hZ (lv_sub hl [2, 3, 4, 5, 6] rfl)
def zs_seed (Rel Rel' : zM → zM → Prop) : Prop := ∀ (M N : zM), Rel M N → ∀ x1 : Int32, zsS Rel' (f_X10_seed M x1) (f_X11_seed N x1)
set_option maxRecDepth 100000 in
set_option maxHeartbeats 4000000 in
theorem lc_seed (C : zLC p l s m args c gx gr cO qo b L xs Ts) (hz : zs_seed Rel Rel') (hR : Rel M N) (hZ : zLS gx gr cO qo s H locs M N v) (hl : lv_has ls 7 (zLl b gx gr qo i)) (hi1 : vp_in (i + 1) L) (hi2 : vp_in (i + 2) L) (hi3 : vp_in (i + 3) L) (hi4 : vp_in (i + 4) L) (hi5 : vp_in (i + 5) L) (hc : cells + 60 ≤ 601024) (hsl : slots + 360 ≤ 7293033) (kk : zLK p l e s m args below meth c Q Rel' gx gr cO qo b i cells slots) : W p l e room_1 s m args below meth c H locs cells slots Q (F0 m 2982 ls []) := by
  obtain ⟨hst, E, Er, hT, S, hKo, hNc, A, hX, hbl⟩ := C
  have hx := E.1.1
  have hb := E.1.2.1
  have hl : lv_has ls 7 [(0, .ref b), (1, .ref (gx.2.2 0)), (2, .ref (gr.2.2 0)), (3, .ref qo), (4, .int i)] := hl
  obtain ⟨b9, M1, N1, hfx, hfr, hR1⟩ := hz M N hR (xs (i + 1).toNatClampNeg) 
  refine lv_aload_n hx hb dL_law__2982 rfl (lv_at hl 1 rfl) ?_
  refine lv_aload_n hx hb dL_law__2983 rfl (lv_at hl 0 rfl) ?_
  refine lv_iload hx hb dL_law__2984 (lv_at hl 4 rfl) ?_
  refine lv_iconst (v := 1) hx hb dL_law__2986 (by decide) ?_
  refine lv_iadd hx hb dL_law__2987 ?_
  refine va_sld hx hb hX hbl (Nat.not_le.mpr hbl) hZ.2.2.2 hi1 dL_law__2988 ?_
  refine lx_i (zrunV (As := [.int (xs (i + 1).toNatClampNeg)]) (rest := []) E (hZ.x A) (xb_X10 xs_0) (xe_X10 xs_0 _) rfl rfl v_X10_seed kw_516 (c_X10_seed l gx M (xs (i + 1).toNatClampNeg) hfx _) rfl hl.1 rfl (Nat.le_of_ble_eq_true rfl) ⟨by decide, by decide⟩ ⟨by show _ ≤ 601024; omega, by show _ ≤ 7293033; omega⟩ dL_law__2989) A hZ (fun x9 M9 H locs hp hZ => ?_)
  obtain ⟨rfl, rfl⟩ := Prod.mk.inj hp
  refine lv_aload_n hx hb dL_law__2992 rfl (lv_at hl 2 rfl) ?_
  refine lv_aload_n hx hb dL_law__2993 rfl (lv_at hl 0 rfl) ?_
  refine lv_iload hx hb dL_law__2994 (lv_at hl 4 rfl) ?_
  refine lv_iconst (v := 1) hx hb dL_law__2996 (by decide) ?_
  refine lv_iadd hx hb dL_law__2997 ?_
  refine va_sld hx hb hX hbl (Nat.not_le.mpr hbl) hZ.2.2.2 hi1 dL_law__2998 ?_
  refine lr_i (zrunV (As := [.int (xs (i + 1).toNatClampNeg)]) (rest := [.int b9]) Er (hZ.r A) (by decide) (re_0 _) rfl rfl v_X11_seed kw_2039 (c_X11_seed l gr N (xs (i + 1).toNatClampNeg) hfr _) rfl hl.1 rfl (Nat.le_of_ble_eq_true rfl) ⟨by decide, by decide⟩ ⟨by show _ ≤ 601024; omega, by show _ ≤ 7293033; omega⟩ dL_law__2999) A hZ (fun x9 N9 H locs hp hZ => ?_)
  obtain ⟨rfl, rfl⟩ := Prod.mk.inj hp
  refine lv_icmp_eq (tgt := 3069) hx hb dL_law__3002 (by decide) (fun _ => ?_) (fun hne => absurd rfl hne)
  refine W.widen (k := cells + 60) (n := slots + 360) (by omega) (by omega) ?_
  exact kk _ _ _ _ _ _ hR1 hZ (lv_sub hl [0, 1, 2, 3, 4] rfl)
def zs_undo (Rel Rel' : zM → zM → Prop) : Prop := ∀ (M N : zM), Rel M N → zsS Rel' (f_X10_undo M ) (f_X11_undo N )
set_option maxRecDepth 100000 in
set_option maxHeartbeats 4000000 in
theorem lc_undo (C : zLC p l s m args c gx gr cO qo b L xs Ts) (hz : zs_undo Rel Rel') (hR : Rel M N) (hZ : zLS gx gr cO qo s H locs M N v) (hl : lv_has ls 7 (zLl b gx gr qo i)) (hi1 : vp_in (i + 1) L) (hi2 : vp_in (i + 2) L) (hi3 : vp_in (i + 3) L) (hi4 : vp_in (i + 4) L) (hi5 : vp_in (i + 5) L) (hc : cells + 60 ≤ 601024) (hsl : slots + 360 ≤ 7293033) (kk : zLK p l e s m args below meth c Q Rel' gx gr cO qo b i cells slots) : W p l e room_1 s m args below meth c H locs cells slots Q (F0 m 3007 ls []) := by
  obtain ⟨hst, E, Er, hT, S, hKo, hNc, A, hX, hbl⟩ := C
  have hx := E.1.1
  have hb := E.1.2.1
  have hl : lv_has ls 7 [(0, .ref b), (1, .ref (gx.2.2 0)), (2, .ref (gr.2.2 0)), (3, .ref qo), (4, .int i)] := hl
  obtain ⟨b9, M1, N1, hfx, hfr, hR1⟩ := hz M N hR  
  refine lv_aload_n hx hb dL_law__3007 rfl (lv_at hl 1 rfl) ?_
  refine lx_i (zrunV (As := []) (rest := []) E (hZ.x A) (xb_X10 xs_0) (xe_X10 xs_0 _) rfl rfl v_X10_undo kw_520 (c_X10_undo l gx M  hfx _) rfl hl.1 rfl (Nat.le_of_ble_eq_true rfl) ⟨by decide, by decide⟩ ⟨by show _ ≤ 601024; omega, by show _ ≤ 7293033; omega⟩ dL_law__3008) A hZ (fun x9 M9 H locs hp hZ => ?_)
  obtain ⟨rfl, rfl⟩ := Prod.mk.inj hp
  refine lv_aload_n hx hb dL_law__3011 rfl (lv_at hl 2 rfl) ?_
  refine lr_i (zrunV (As := []) (rest := [.int b9]) Er (hZ.r A) (by decide) (re_0 _) rfl rfl v_X11_undo kw_1452 (c_X11_undo l gr N  hfr _) rfl hl.1 rfl (Nat.le_of_ble_eq_true rfl) ⟨by decide, by decide⟩ ⟨by show _ ≤ 601024; omega, by show _ ≤ 7293033; omega⟩ dL_law__3012) A hZ (fun x9 N9 H locs hp hZ => ?_)
  obtain ⟨rfl, rfl⟩ := Prod.mk.inj hp
  refine lv_icmp_eq (tgt := 3069) hx hb dL_law__3015 (by decide) (fun _ => ?_) (fun hne => absurd rfl hne)
  refine W.widen (k := cells + 60) (n := slots + 360) (by omega) (by omega) ?_
  exact kk _ _ _ _ _ _ hR1 hZ (lv_sub hl [0, 1, 2, 3, 4] rfl)
def zs_image (Rel Rel' : zM → zM → Prop) : Prop := ∀ (M N : zM), Rel M N → zsV Rel' (f_X10_image M ) (f_X11_image N )
set_option maxRecDepth 100000 in
set_option maxHeartbeats 4000000 in
theorem lc_image (C : zLC p l s m args c gx gr cO qo b L xs Ts) (hz : zs_image Rel Rel') (hR : Rel M N) (hZ : zLS gx gr cO qo s H locs M N v) (hl : lv_has ls 7 (zLl b gx gr qo i)) (hi1 : vp_in (i + 1) L) (hi2 : vp_in (i + 2) L) (hi3 : vp_in (i + 3) L) (hi4 : vp_in (i + 4) L) (hi5 : vp_in (i + 5) L) (hc : cells + 60 ≤ 601024) (hsl : slots + 360 ≤ 7293033) (kk : zLK p l e s m args below meth c Q Rel' gx gr cO qo b i cells slots) : W p l e room_1 s m args below meth c H locs cells slots Q (F0 m 3020 ls []) := by
  obtain ⟨hst, E, Er, hT, S, hKo, hNc, A, hX, hbl⟩ := C
  have hx := E.1.1
  have hb := E.1.2.1
  have hl : lv_has ls 7 [(0, .ref b), (1, .ref (gx.2.2 0)), (2, .ref (gr.2.2 0)), (3, .ref qo), (4, .int i)] := hl
  obtain ⟨M1, N1, hfx, hfr, hR1⟩ := hz M N hR  
  refine lv_aload_n hx hb dL_law__3020 rfl (lv_at hl 1 rfl) ?_
  refine lx_v (zrunV (As := []) (rest := []) E (hZ.x A) (xb_X10 xs_0) (xe_X10 xs_0 _) rfl rfl v_X10_image kw_545 (c_X10_image l gx M  hfx _) rfl hl.1 rfl (Nat.le_of_ble_eq_true rfl) ⟨by decide, by decide⟩ ⟨by show _ ≤ 601024; omega, by show _ ≤ 7293033; omega⟩ dL_law__3021) A hZ (fun M9 H locs hp hZ => ?_)
  rw [hp] at hZ
  refine lv_aload_n hx hb dL_law__3024 rfl (lv_at hl 2 rfl) ?_
  refine lr_v (zrunV (As := []) (rest := []) Er (hZ.r A) (by decide) (re_0 _) rfl rfl v_X11_image kw_1444 (c_X11_image l gr N  hfr _) rfl hl.1 rfl (Nat.le_of_ble_eq_true rfl) ⟨by decide, by decide⟩ ⟨by show _ ≤ 601024; omega, by show _ ≤ 7293033; omega⟩ dL_law__3025) A hZ (fun N9 H locs hp hZ => ?_)
  rw [hp] at hZ
  refine lv_goto (tgt := 3069) hx hb dL_law__3028 (by decide) ?_
  refine W.widen (k := cells + 60) (n := slots + 360) (by omega) (by omega) ?_
  exact kk _ _ _ _ _ _ hR1 hZ (lv_sub hl [0, 1, 2, 3, 4] rfl)
def zs_back (Rel Rel' : zM → zM → Prop) : Prop := ∀ (M N : zM), Rel M N → zsS Rel' (f_X10_back M ) (f_X11_back N )
set_option maxRecDepth 100000 in
set_option maxHeartbeats 4000000 in
theorem lc_back (C : zLC p l s m args c gx gr cO qo b L xs Ts) (hz : zs_back Rel Rel') (hR : Rel M N) (hZ : zLS gx gr cO qo s H locs M N v) (hl : lv_has ls 7 (zLl b gx gr qo i)) (hi1 : vp_in (i + 1) L) (hi2 : vp_in (i + 2) L) (hi3 : vp_in (i + 3) L) (hi4 : vp_in (i + 4) L) (hi5 : vp_in (i + 5) L) (hc : cells + 60 ≤ 601024) (hsl : slots + 360 ≤ 7293033) (kk : zLK p l e s m args below meth c Q Rel' gx gr cO qo b i cells slots) : W p l e room_1 s m args below meth c H locs cells slots Q (F0 m 3031 ls []) := by
  obtain ⟨hst, E, Er, hT, S, hKo, hNc, A, hX, hbl⟩ := C
  have hx := E.1.1
  have hb := E.1.2.1
  have hl : lv_has ls 7 [(0, .ref b), (1, .ref (gx.2.2 0)), (2, .ref (gr.2.2 0)), (3, .ref qo), (4, .int i)] := hl
  obtain ⟨b9, M1, N1, hfx, hfr, hR1⟩ := hz M N hR  
  refine lv_aload_n hx hb dL_law__3031 rfl (lv_at hl 1 rfl) ?_
  refine lx_i (zrunV (As := []) (rest := []) E (hZ.x A) (xb_X10 xs_0) (xe_X10 xs_0 _) rfl rfl v_X10_back kw_555 (c_X10_back l gx M  hfx _) rfl hl.1 rfl (Nat.le_of_ble_eq_true rfl) ⟨by decide, by decide⟩ ⟨by show _ ≤ 601024; omega, by show _ ≤ 7293033; omega⟩ dL_law__3032) A hZ (fun x9 M9 H locs hp hZ => ?_)
  obtain ⟨rfl, rfl⟩ := Prod.mk.inj hp
  refine lv_aload_n hx hb dL_law__3035 rfl (lv_at hl 2 rfl) ?_
  refine lr_i (zrunV (As := []) (rest := [.int b9]) Er (hZ.r A) (by decide) (re_0 _) rfl rfl v_X11_back kw_1448 (c_X11_back l gr N  hfr _) rfl hl.1 rfl (Nat.le_of_ble_eq_true rfl) ⟨by decide, by decide⟩ ⟨by show _ ≤ 601024; omega, by show _ ≤ 7293033; omega⟩ dL_law__3036) A hZ (fun x9 N9 H locs hp hZ => ?_)
  obtain ⟨rfl, rfl⟩ := Prod.mk.inj hp
  refine lv_icmp_eq (tgt := 3069) hx hb dL_law__3039 (by decide) (fun _ => ?_) (fun hne => absurd rfl hne)
  refine W.widen (k := cells + 60) (n := slots + 360) (by omega) (by omega) ?_
  exact kk _ _ _ _ _ _ hR1 hZ (lv_sub hl [0, 1, 2, 3, 4] rfl)
def zs_count (Rel Rel' : zM → zM → Prop) : Prop := ∀ (M N : zM), Rel M N → ∀ x1 : Int32, zsR Rel' M (f_X10_count M x1) (f_X11_count N x1)
set_option maxRecDepth 100000 in
set_option maxHeartbeats 4000000 in
theorem lc_count (C : zLC p l s m args c gx gr cO qo b L xs Ts) (hz : zs_count Rel Rel') (hR : Rel M N) (hZ : zLS gx gr cO qo s H locs M N v) (hl : lv_has ls 7 (zLl b gx gr qo i)) (hi1 : vp_in (i + 1) L) (hi2 : vp_in (i + 2) L) (hi3 : vp_in (i + 3) L) (hi4 : vp_in (i + 4) L) (hi5 : vp_in (i + 5) L) (hc : cells + 60 ≤ 601024) (hsl : slots + 360 ≤ 7293033) (kk : zLK p l e s m args below meth c Q Rel' gx gr cO qo b i cells slots) : W p l e room_1 s m args below meth c H locs cells slots Q (F0 m 3044 ls []) := by
  obtain ⟨hst, E, Er, hT, S, hKo, hNc, A, hX, hbl⟩ := C
  have hx := E.1.1
  have hb := E.1.2.1
  have hl : lv_has ls 7 [(0, .ref b), (1, .ref (gx.2.2 0)), (2, .ref (gr.2.2 0)), (3, .ref qo), (4, .int i)] := hl
  obtain ⟨b9, N1, hfx, hfr, hR1⟩ := hz M N hR (xs (i + 1).toNatClampNeg) 
  refine lv_aload_n hx hb dL_law__3044 rfl (lv_at hl 1 rfl) ?_
  refine lv_aload_n hx hb dL_law__3045 rfl (lv_at hl 0 rfl) ?_
  refine lv_iload hx hb dL_law__3046 (lv_at hl 4 rfl) ?_
  refine lv_iconst (v := 1) hx hb dL_law__3048 (by decide) ?_
  refine lv_iadd hx hb dL_law__3049 ?_
  refine va_sld hx hb hX hbl (Nat.not_le.mpr hbl) hZ.2.2.2 hi1 dL_law__3050 ?_
  refine lx_i (zrunV (As := [.int (xs (i + 1).toNatClampNeg)]) (rest := []) E (hZ.x A) (xb_X10 xs_0) (xe_X10 xs_0 _) rfl rfl v_X10_count kw_563 (c_X10_count l gx M (xs (i + 1).toNatClampNeg) hfx _) rfl hl.1 rfl (Nat.le_of_ble_eq_true rfl) ⟨by decide, by decide⟩ ⟨by show _ ≤ 601024; omega, by show _ ≤ 7293033; omega⟩ dL_law__3051) A hZ (fun x9 M9 H locs hp hZ => ?_)
  obtain ⟨e1, e2⟩ := hp
  rw [e2] at hZ
  rw [e1]
  refine lv_aload_n hx hb dL_law__3054 rfl (lv_at hl 2 rfl) ?_
  refine lv_aload_n hx hb dL_law__3055 rfl (lv_at hl 0 rfl) ?_
  refine lv_iload hx hb dL_law__3056 (lv_at hl 4 rfl) ?_
  refine lv_iconst (v := 1) hx hb dL_law__3058 (by decide) ?_
  refine lv_iadd hx hb dL_law__3059 ?_
  refine va_sld hx hb hX hbl (Nat.not_le.mpr hbl) hZ.2.2.2 hi1 dL_law__3060 ?_
  refine lr_i (zrunV (As := [.int (xs (i + 1).toNatClampNeg)]) (rest := [.int b9]) Er (hZ.r A) (by decide) (re_0 _) rfl rfl v_X11_count kw_2043 (c_X11_count l gr N (xs (i + 1).toNatClampNeg) hfr _) rfl hl.1 rfl (Nat.le_of_ble_eq_true rfl) ⟨by decide, by decide⟩ ⟨by show _ ≤ 601024; omega, by show _ ≤ 7293033; omega⟩ dL_law__3061) A hZ (fun x9 N9 H locs hp hZ => ?_)
  obtain ⟨rfl, rfl⟩ := Prod.mk.inj hp
  refine lv_icmp_eq (tgt := 3069) hx hb dL_law__3064 (by decide) (fun _ => ?_) (fun hne => absurd rfl hne)
  refine W.widen (k := cells + 60) (n := slots + 360) (by omega) (by omega) ?_
  exact kk _ _ _ _ _ _ hR1 hZ (lv_sub hl [0, 1, 2, 3, 4] rfl)
end LAWC
