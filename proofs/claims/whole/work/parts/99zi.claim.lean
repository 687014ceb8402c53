section
def R_law : String := "TideBookLaw"
def lw_P (b : Addr) (xs : List Int32) (args : Array Value) (s : State) : Prop := args = #[.ref b] ∧ s.IntsAt b xs ∧ xs.length ≤ 3072 ∧ (Jvm.Cond.and given_1 narrow_1).before args s = true
def lw_Q (_ : Array Value) (s : State) (o : Outcome) (t : State) : Prop := o = .returned (some (.int 1)) ∧ Framed s o t [] 601024 7293033
def lw_Z (below : List Frame) (a : Array Value) (s : State) : State → Prop := fun t => ∃ o, t.status = .running ∧ Ended t below o ∧ lw_Q a s o t
theorem lw_ret {p : Program} {l : Launch} {e : Env} {s : State} {m : MethodId} {below : List Frame} {meth : Method} {c : Code} {b : Nat} (hx : p.tables.exec = Jvm.exec) (hb : c.code = code) (hr : meth.sig.returnType = ret) (hlocks : meth.locks = false) {pc : Nat} {H : Heap} {ls : Array Slot} (hdg : decode code pc = .ok (.ireturn, 1)) : W p l e room_1 s m #[Value.ref b] below meth c H [] 601024 7293033 (lw_Z below #[Value.ref b] s) (F0 m pc ls [.int 1]) := by
  intro T hT X
  obtain ⟨fs, hret, hrun, hended, hW, hframe⟩ := X.leave (v := some (.int 1)) (hlocks := hlocks) (fun h => by rw [hr] at h; cases h)
  have hmeth' : T.vm.method? m = some meth := X.method'
  refine ⟨T.setFrames fs, ?_, .returned (some (.int 1)), hrun, hended, rfl, ⟨_, rfl⟩, hW, hframe⟩
  jvm_step X.here [X.here.top, hx, hb, hdg, hmeth', hr, ret, narrow_b1]
  (try refine ⟨rfl, ?_⟩); (try refine ⟨rfl, ?_⟩)
  first | (intro acts; rw [hret _ acts rfl rfl rfl]) | rw [hret _ _ rfl rfl rfl]
  exact Steps.refl _
def lw_At (p : Program) (s : State) (m : MethodId) (meth : Method) (c : Code) (b L : Nat) (xs : Nat → Int32) : Prop :=
  p.tables.exec = Jvm.exec ∧ c.code = code ∧ meth.sig.returnType = ret ∧ c.maxLocals = 7 ∧ s.vm.findClass R_law = some m.cls ∧ (∀ w ∈ lw_tbl, w.before #[Value.ref b] s = true) ∧ va_X b L xs s s.heap ∧ b < s.heap.size ∧ meth.locks = false ∧ (Jvm.Cond.and given_1 narrow_1).before #[Value.ref b] s = true
theorem vk_S_ad {N : Nat} {len : List Nat} {byt : List (List Int32)} {adK adV adK' adV' : Nat → Nat} {A : Nat → Prop} {U : State} {H : Heap} (h : vk_S N len byt adK adV A U H) (h1 : ∀ i, i < N → adK' i = adK i) (h2 : ∀ i, i < N → adV' i = adV i) : vk_S N len byt adK' adV' A U H := ⟨fun i hi => by rw [h1 i hi, h2 i hi]; exact h.1 i hi, fun i j hi hj e => h.2 i j hi hj (by rw [← h1 i hi, ← h1 j hj]; exact e)⟩
theorem zN_of {s : State} {args : Array Value} (hts : ∀ w ∈ lw_tbl, w.before args s = true) : zN s := by
  intro w hw
  obtain ⟨h1, h2⟩ := List.mem_filter.mp hw
  have := hts w (List.mem_append_right _ h1)
  cases w <;> first | (simp at h2; done) | exact va_Nw.of rfl this
theorem zNc_of {s : State} {args : Array Value} (hF : ∀ w ∈ zFl, w.before args s = true) : zNc s := by
  have h : ∀ q ∈ zNcl, Cond.not (.castable q.1 q.2) ∈ zFl := by decide +kernel
  exact fun q hq => va_Nc.of (hF _ (h q hq))
theorem zSgs_of {s : State} {args : Array Value} (hts : ∀ w ∈ lw_tbl, w.before args s = true) (hF : ∀ w ∈ zFl, w.before args s = true) : ∃ adK adV : Nat → Nat, ∀ g : zG, (∀ i, g.2.2 (1000 + i) = zadr [] (fun _ => 0) adK adV (1000 + i) ∧ g.2.2 (2000 + i) = adV i) → zSgA g (fun q => s.heap.size ≤ q) s s.heap := by
  have hA : ∀ a : Nat, a < s.heap.size → ¬ (fun q : Nat => s.heap.size ≤ q) a := fun a h => Nat.not_le.mpr h
  obtain ⟨adK, adV, hVS, hEv⟩ := zs_Sof (A := fun q => s.heap.size ≤ q) hF hA
  refine ⟨adK, adV, fun g hg => ⟨vk_S_ad hVS (fun i hi => by rw [(hg i).1]; exact zadr_K (by omega)) (fun i _ => (hg i).2), ?_, ?_, fun q hq => ?_⟩⟩
  · exact va_Zof (hts (.laysStatic "java/lang/String" "COMPACT_STRINGS" "Z") (by decide +kernel)) (hts (.initialized "java/lang/String") (by decide +kernel)) (va_eqt (hF (.eq (.static "java/lang/String" "COMPACT_STRINGS" "Z") (.int 1)) (by decide +kernel))) hA
  · exact va_Zqof (hts (.laysStatic "jdk/internal/util/Preconditions" "SIOOBE_FORMATTER" "Ljava/util/function/BiFunction;") (by decide +kernel)) (hts (.initialized "jdk/internal/util/Preconditions") (by decide +kernel)) (hF (.isRef (.static "jdk/internal/util/Preconditions" "SIOOBE_FORMATTER" "Ljava/util/function/BiFunction;")) (by decide +kernel)) hA
  · obtain ⟨h1, h2⟩ := zf_ix q hq
    have h3 := hts _ (List.mem_append_right _ (zf_sr _ h1))
    have h4 := hEv _ h1
    unfold zTm at h4
    rw [h2] at h3 h4
    rw [(hg _).1, zadr_K (by omega)]
    exact vk_R.of h3 h4
set_option maxRecDepth 100000 in
set_option maxHeartbeats 4000000 in
theorem whole_start {p : Program} {e : Env} {s : State} {m : MethodId} {below : List Frame} {meth : Method} {c : Code} (l : Launch) (hst : l.stackTraces = false) {b L : Nat} {xs : Nat → Int32} (hL : L ≤ 3072) (C0 : lw_At p s m meth c b L xs) : W p l e room_1 s m #[Value.ref b] below meth c s.heap [] 0 0 (lw_Z below #[Value.ref b] s) (entryFrame m ([Value.ref b] : List Value).toArray 7) := by
  obtain ⟨hx, hb, hr, hml, hown, hts, hX, hbl, hlocks, hgv⟩ := id C0
  have hz : ∀ w ∈ zT, w.before #[Value.ref b] s = true := fun w h => hts w (List.mem_filter.mp h).1
  have hF : ∀ w ∈ zFl, w.before #[Value.ref b] s = true := flat_of_before _ hgv
  have hN : zN s := zN_of hts
  have hNc : zNc s := zNc_of hF
  have hAO : va_AO "TideBook$World" s := va_AO.of (hts _ (List.mem_append_right _ ka_world))
  obtain ⟨adK, adV, SAg⟩ := zSgs_of hts hF
  obtain ⟨D, hKc⟩ := z_known hz
  obtain ⟨tc, -, hTc, -, -⟩ := z_arrs hz hAO
  have hCF : CallFix p m c cL_law_ 7 s #[Value.ref b] lw_tbl "TideBookLaw" := ⟨hx, hb, hml, hown, hts⟩
  have hEg : ∀ g : zG, g.1 = D → g.2.1 = tc → zX g p m c cL_law_ 7 s #[Value.ref b] lw_tbl "TideBookLaw" := fun g h1 h2 => ⟨hCF, by unfold zty; rw [h1, h2]; exact ⟨hKc, hTc⟩, hN, fun w h => (List.mem_filter.mp h).1⟩
  have hl := lv_entry ([.ref b]) (n := 7) (Nat.le_of_ble_eq_true rfl)
  rw [lg_entry_eq]
  generalize (lg_sl ([.ref b]) ++ List.replicate (7 - (lg_sl ([.ref b])).length) Slot.unset).toArray = ls at hl ⊢
  have hl : lv_has ls 7 [(0, .ref b)] := hl
  show W p l e room_1 s m _ below meth c s.heap [] 0 0 _ _
  refine st_book (g0 := (D, tc, zadr [] (fun _ => 0) adK adV)) adK adV ⟨rfl, rfl⟩ (hEg _ rfl rfl) (SAg _ (fun i => ⟨rfl, by dsimp only; exact zadr_V⟩)) hAO hl (fun gx H locs g1 g2 hPx hDx hS => ?_)
  refine lv_astore_n (lv' := [(1, .ref (gx.2.2 0)), (0, .ref b)]) hx hb dL_law__7 rfl hl (by decide) rfl (fun ls hl => ?_)
  refine st_ref (adK := adK) (adV := adV) ⟨g1, g2⟩ (hEg gx g1 g2) hPx hDx hS hl (fun gr H locs r1 r2 r3 hPx hPr hDr hne hS => ?_)
  refine lv_astore_n (lv' := [(2, .ref (gr.2.2 0)), (1, .ref (gx.2.2 0)), (0, .ref b)]) hx hb dL_law__15 rfl hl (by decide) rfl (fun ls hl => ?_)
  refine lv_iconst (v := 1) hx hb dL_law__16 (by decide) ?_
  refine va_newaK (atype := .long) hx hb (hz _ ka_long) rfl dL_law__17 rfl (by decide) (N := 1) rfl (by decide) (by decide) (by decide) (h := H.size) rfl (fun H1 cO e1 z1 o1 hAr hNm => ?_)
  obtain ⟨qo, hqo⟩ : ∃ q, q = H.size := ⟨_, rfl⟩
  rw [← hqo] at e1 z1 o1 ⊢
  show W p l e room_1 s m _ below meth c H1 locs 141 14435 _ (F0 m 19 ls [.ref qo])
  have hPx1 : va_P D vwCl (zw gx xE 125 zM0) H1 := zw_kept hPx (fun k hk => o1 _ (by rw [hqo]; exact zw_lt hPx hk))
  have hPr1 : va_P D vwCl (zw gr rE 15 zN0) H1 := zw_kept hPr (fun k hk => o1 _ (by rw [hqo]; exact zw_lt hPr hk))
  have hPo : va_P D vwCl [zOut cO qo 0] H1 := fun k q h => by
    match k, h with
    | 0, h =>
      cases h
      show H1[qo]? = some (arrV cO 1 (fun j => .long (if j = 0 then 0 else 0)))
      rw [e1]
      rfl
    | k + 1, h => simp at h
  have hS1 : va_S (fun q => s.heap.size ≤ q) s.heap H1 locs := ⟨by rw [z1, hqo]; exact Nat.le_succ_of_le hS.1, fun q h1 h2 => (o1 q (by rw [hqo]; exact Nat.lt_of_lt_of_le h1 hS.1)).trans (hS.2.1 q h1 h2), hS.2.2⟩
  obtain ⟨ix, bx⟩ := zw_inj hDx
  obtain ⟨ir, br⟩ := zw_inj hDr
  have hAx : ∀ a : Nat, a < s.heap.size → ¬ zA gx 125 s.heap.size a := fun a h z => by
    rcases z with ⟨k, hk, rfl⟩ | z
    · exact absurd (bx k hk) (Nat.not_le.mpr h)
    · exact absurd z (Nat.not_le.mpr h)
  have hC : zLC p l s m #[Value.ref b] c gx gr cO qo b L xs lw_tbl := by
    refine ⟨hst, hEg gx g1 g2, hEg gr r1 r2, ⟨?_, ?_⟩, zSgA_narrow (SAg gr r3) (fun q h => ?_), ?_, hNc, ⟨⟨hne, fun i hi => ?_, fun j hj => ?_⟩, ⟨bx, br, by rw [hqo]; exact hS.1⟩, ix, ir⟩, hX, hbl⟩
    · exact vx_Zqof (hts (.laysStatic "java/lang/Throwable" "UNASSIGNED_STACK" "[Ljava/lang/StackTraceElement;") (by decide +kernel)) (hts (.initialized "java/lang/Throwable") (by decide +kernel)) (hF (.isRef (.static "java/lang/Throwable" "UNASSIGNED_STACK" "[Ljava/lang/StackTraceElement;")) (by decide +kernel)) hAx
    · exact vx_Zqof (hts (.laysStatic "java/lang/Throwable" "SUPPRESSED_SENTINEL" "Ljava/util/List;") (by decide +kernel)) (hts (.initialized "java/lang/Throwable") (by decide +kernel)) (hF (.isRef (.static "java/lang/Throwable" "SUPPRESSED_SENTINEL" "Ljava/util/List;")) (by decide +kernel)) hAx
    · rcases h with ⟨k, hk, rfl⟩ | h
      · exact br k hk
      · exact h
    · rw [g1]
      refine ⟨hKc, fun k q h => ?_⟩
      match k, h with
      | 0, h => cases h; exact ⟨hAr, hNm⟩
      | k + 1, h => simp at h
    · have := zw_lt hPx hi; omega
    · have := zw_lt hPr hj; omega
  refine lv_astore_n (lv' := [(3, .ref qo), (2, .ref (gr.2.2 0)), (1, .ref (gx.2.2 0)), (0, .ref b)]) hx hb dL_law__19 rfl hl (by decide) rfl (fun ls hl => ?_)
  refine lv_iconst (v := 0) hx hb dL_law__20 (by decide) ?_
  refine lv_istore (lv' := [(4, .int 0), (3, .ref qo), (2, .ref (gr.2.2 0)), (1, .ref (gx.2.2 0)), (0, .ref b)]) hx hb dL_law__21 hl (by decide) rfl (fun ls hl => ?_)
  refine l_loop (Rels := zRel) (c0 := 141) (s0 := 14435) hC hL zSteps_all (fun t M N h => h.more) (by decide) (by decide) (fun H locs ls hf => ?_) 512 0 H1 locs ls zM0 zN0 0 rfl zRel_0 ⟨by rw [g1]; exact hPx1, by rw [r1]; exact hPr1, by rw [g1]; exact hPo, hS1⟩ (lv_sub hl [4, 3, 2, 1, 0] rfl)
  refine va_forget hf ?_
  refine lv_iconst (v := 1) hx hb dL_law__3075 (by decide) ?_
  refine W.widen (k := 601024) (n := 7293033) (by decide) (by decide) ?_
  exact lw_ret hx hb hr hlocks dL_law__3076
set_option maxHeartbeats 4000000 in
theorem lw_walk (l : Launch) (hst : l.stackTraces = false) (b : Addr) (xs : List Int32) : MetFree l x (headSpec (Jvm.Cond.code x code maxLocals ret :: tables_1) room_1) (lw_P b xs) (fun _ _ _ _ _ => True) lw_Q := by
  refine MetFree.of_bodyS (code := code) (maxLocals := maxLocals) (ret := ret) (by decide) ?_ ?_
  · intro args s m h hn
    obtain ⟨meth, c, h1, h2, h3, h4, h5, h6, -, -⟩ := Cond.code_spec hn (atoms_spec (ws := Jvm.Cond.code x code maxLocals ret :: tables_1) h _ List.mem_cons_self)
    exact ⟨meth, c, h1, h2, h3, h4, h5, h6⟩
  · intro p e s m args below meth c s₁ B hml0 hP _
    obtain ⟨rfl, hx, hbd, hgv⟩ := hP
    obtain ⟨scr, harrAt, hlist, hof, hsmall⟩ := hx
    obtain ⟨hcb, hkn, -, -⟩ := State.arrayAt?_spec harrAt
    have hown : s.vm.findClass R_law = some m.cls := findClass_of_methodNamed B.named
    have hts0 : ∀ c ∈ (Jvm.Cond.code x code maxLocals ret :: tables_1), c.before #[Value.ref b] s = true := atoms_spec (ws := Jvm.Cond.code x code maxLocals ret :: tables_1) B.pre
    have hts : ∀ w ∈ lw_tbl, w.before #[Value.ref b] s = true := k2_hts_sels lw_privs (fun w hw => hts0 w (List.mem_cons_of_mem _ hw)) lw_privs_ok
    have hml : c.maxLocals = 7 := B.maxLocals_eq (hts0 _ List.mem_cons_self)
    have X₀ : Stand p l e room_1 s m #[Value.ref b] below meth c s₁ [] 0 0 := Stand.of_body B
    have hh0 : s₁.heap = s.heap := by rw [B.state]; rfl
    have hsz : scr.slots.size = xs.length := by rw [← Array.length_toList, hlist, List.length_map]
    have hval : ∀ j : Nat, j < xs.length → scr.slots[j]? = some (.int (xs.getD j 0)) := fun j hj => by
      rw [← Array.getElem?_toList, hlist]
      simp [hj]
    have hbl : b < s.heap.size := (Array.getElem?_eq_some_iff.mp hcb).1
    have hX : va_X b xs.length (fun j => xs.getD j 0) s s.heap := ⟨scr, hcb, hof, hkn, hsz, hval⟩
    have K : W p l e room_1 s m #[Value.ref b] below meth c s₁.heap [] 0 0 (lw_Z below #[Value.ref b] s) (entryFrame m ([Value.ref b] : List Value).toArray 7) := by
      rw [hh0]
      exact whole_start l hst hbd ⟨B.exec, B.bytes, B.returns, hml, hown, hts, hX, hbl, B.notSynchronized, hgv⟩
    obtain ⟨t, a1, o, b1, b2, b3⟩ := K s₁ rfl X₀
    exact ⟨t, o, a1, b1, b2, b3⟩
theorem lw_pre_spec {args : Array Value} {s : State} (h : (Jvm.Cond.and given_1 narrow_1).before args s = true) (hr : rest_1_c.before args s = true) : ∃ (b : Addr) (xs : List Int32), lw_P b xs args s := by
  have hs := flat_of_before _ h
  have hq := flat_of_before _ hr
  have hc : (Cond.count 1).before args s = true := hs _ (by decide +kernel)
  have harr : (Cond.arrayOf (.arg 0) .int).before args s = true := hs _ (by decide +kernel)
  have hle : (Cond.le (.length (.arg 0)) (.int 3072)).before args s = true := hs _ (by decide +kernel)
  have hlen : (Cond.isInt (.length (.arg 0))).before args s = true := hq _ (by decide +kernel)
  have hall : (Cond.all (.arg 0) (.isInt (.elem (.arg 0) (.index 0)))).before args s = true := hq _ (by decide +kernel)
  obtain ⟨b, xs, hb, hx⟩ := State.ints_of_pre rfl harr hlen hall
  have hsm : xs.length < 2 ^ 31 := hx.choose_spec.2.2.2
  have hev : (Term.length (.arg 0)).eval args s none [] s = some (.int xs.length.toInt32) := hx.length_eval hb
  have hv := Cond.le_ints hev (show (Term.int 3072).eval args s none [] s = some (.int 3072) from rfl)
  have hd : xs.length.toInt32 ≤ 3072 := by
    simpa [Cond.before, Cond.holds, hv] using hle
  have hN : xs.length ≤ 3072 := (Int32.ofNat_le_ofNat hsm (by decide)).mp (show Int32.ofNat xs.length ≤ Int32.ofNat 3072 from hd)
  exact ⟨b, xs, Cond.one_arg hc (show args[0]? = some (.ref b) from hb), hx, hN, h⟩
theorem lw_comes (l : Launch) (hst : l.stackTraces = false) : Comes l x (Jvm.Cond.code x code maxLocals ret :: tables_1) room_1 (fun tb e args s => Calls_1 tb e args s ∧ rest_1 tb e args s ∧ Pre_1 tb e args s)
    (fun _ _ args s o t => lw_Q args s o t) := by
  intro p e ha hc hk s m args below hf hfit hheap happ hpre
  obtain ⟨b, xs, hP⟩ := lw_pre_spec hpre.2.2 hpre.2.1
  obtain ⟨k, o, h1, h2, h3, hQ⟩ := lw_walk l hst b xs p e ha hc hk s m args below hf ((Spec.applies_iff_loose hf).mp happ).1 hP trivial
  exact ⟨k, o, h1, h2, h3, hQ⟩
theorem lw_frame {s t : State} {o : Outcome} {args : Array Value} (h : Framed s o t [] 601024 7293033) :
    Framed s o t (fieldLocs frame_1_writes args s ++ arrayLocs frame_1_arrays args s ++ staticLocs frame_1_statics s) 601024 7293033 := h
theorem lw_limb (L : Cond) (hL : ∀ (args : Array Value) (s t : State), L.after args s (.returned (some (.int 1))) t = true) :
    ArmFor flags0 classFile x code maxLocals ret World_1 tables_1 room_1 Calls_1 rest_1 Pre_1
      (fun tb e a s o t => postC L tb e a s o t ∧ Framed s o t (fieldLocs frame_1_writes a s ++ arrayLocs frame_1_arrays a s ++ staticLocs frame_1_statics s) 601024 7293033) := by
  intro l hfl _ _ p e ha hc hk s m args below hf hfit hheap happ hpre
  obtain ⟨k, o, h1, h2, h3, rfl, hF⟩ := lw_comes l (by unfold Launch.stackTraces; rw [hfl]; decide +kernel) p e ha hc hk s m args below hf hfit hheap happ hpre
  exact ⟨k, _, h1, h2, h3, hL args s _, lw_frame hF⟩
theorem i_vc : Claimed_1_1 ∧ Claimed_1_2 := ⟨lw_limb limb_1_1 (fun args s t => by simp [limb_1_1, Cond.after, Cond.holds, Cond.value]), lw_limb limb_1_2 (fun args s t => Cond.after_iff.mpr (by
  first | (rw [show limb_1_2 = Cond.eq .result (.int 1) from rfl, Cond.eq_ints (x := 1) (y := 1) rfl rfl]; simp; done) | (simp [limb_1_2, Cond.value, Term.eval]; done)))⟩
end
