/-! METHODS THAT MAY THROW: a result is the state and either an exception's number or an answer -/
abbrev zT1 : Type := zM × (Nat ⊕ Int32)
def zexn (k : Nat) : String := match k with
  | 0 => "java/lang/IndexOutOfBoundsException"
  | 1 => "java/lang/IllegalArgumentException"
  | 2 => "java/lang/IllegalStateException"
  | 3 => "java/util/NoSuchElementException"
  | _ => "java/lang/UnsupportedOperationException"
def zbt (x : Option zT1) (G : zM → Int32 → Option zT1) : Option zT1 := x.bind (fun u => Sum.elim (fun k => some (u.1, .inl k)) (G u.1) u.2)
theorem zbt_some {x : Option zT1} {G : zM → Int32 → Option zT1} {r : zT1} (h : zbt x G = some r) : ∃ u, x = some u ∧ zbt (some u) G = some r := by
  cases x with
  | none => cases h
  | some u => exact ⟨u, rfl, h⟩
def zXs (g : zG) (K : Nat) (sz : Nat) (U : State) : Prop := vx_Zq Bundle.tN "UNASSIGNED_STACK" Bundle.steD (zA g K sz) U U.heap ∧ vx_Zq Bundle.tN "SUPPRESSED_SENTINEL" Bundle.listD (zA g K sz) U U.heap
def zPct (g : zG) (en : zE) (K : Nat) (av : List Value) (M : zM) (sz : Nat) : Array Value → State → Prop := fun a U => zPc g en K av M sz a U ∧ zXs g K sz U
theorem zPct_blind {g : zG} {en : zE} {K : Nat} {av : List Value} {M : zM} {sz : Nat} : FrameBlind (zPct g en K av M sz) := by
  intro a U f mk q
  exact ⟨zPc_blind a U f mk q.1, vx_Zq.moved (u := U) (U := U.calling f mk a) (Vm.Alike.refl U.vm) q.2.1, vx_Zq.moved (u := U) (U := U.calling f mk a) (Vm.Alike.refl U.vm) q.2.2⟩
theorem zXs_of {g : zG} {en : zE} {K : Nat} {M : zM} {s U : State} {H : Heap} {locs : List Loc} (hT : zXs g K s.heap.size s) (hZ : zS g en K s H locs M) (hU : U.heap = H) (hW : s.WarmedH U.vm) : zXs g K H.size U := by
  have hq : ∀ a : Nat, a < s.heap.size → ¬ zA g K s.heap.size a → H[a]? = s.heap[a]? := hZ.2.2.2.1
  exact ⟨by rw [hU]; exact vx_Zq.narrow (vx_Zq.moved hW.alike (vx_Zq.kept hT.1 hq)) (fun q h => zA_mono hZ.2.2.1 h), by rw [hU]; exact vx_Zq.narrow (vx_Zq.moved hW.alike (vx_Zq.kept hT.2 hq)) (fun q h => zA_mono hZ.2.2.1 h)⟩
def zQX (g : zG) (en : zE) (K : Nat) (sz : Nat) (r : zT1) : String → State → State → Prop := vx_X (fun u : zM × Nat => r = (u.1, .inl u.2)) (fun E u t => E = zexn u.2 ∧ zB g en K u.1 t) (zA g K sz)
def zMt (l : Launch) (g : zG) (en : zE) (K : Nat) (y : MethodName) (ws : List Cond) (d mc : Nat) (av : List Value) (M : zM) (r : zT1) : Prop := ∀ sz : Nat, vx_Met l y ws (zrm d mc (6 * mc)) (zPct g en K av M sz) (va_Qi (fun v M1 => r = (M1, .inr v)) (zB g en K) (zA g K sz)) (zQX g en K sz r) mc (6 * mc) (zA g K sz)
def zMtv (l : Launch) (g : zG) (en : zE) (K : Nat) (y : MethodName) (ws : List Cond) (d mc : Nat) (av : List Value) (M : zM) (r : zT1) : Prop := ∀ sz : Nat, vx_Met l y ws (zrm d mc (6 * mc)) (zPct g en K av M sz) (va_Qv (fun M1 => r = (M1, .inr 0)) (zB g en K) (zA g K sz)) (zQX g en K sz r) mc (6 * mc) (zA g K sz)
/-- the end that a throwing method's walk owes -/
abbrev zQt (g : zG) (en : zE) (K : Nat) (below : List Frame) (args : Array Value) (s : State) (mc : Nat) (r : zT1) : State → Prop := vx_MQ below (va_Qi (fun v M1 => r = (M1, .inr v)) (zB g en K) (zA g K s.heap.size)) (zQX g en K s.heap.size r) args s mc (6 * mc) (zA g K s.heap.size)
abbrev zQtv (g : zG) (en : zE) (K : Nat) (below : List Frame) (args : Array Value) (s : State) (mc : Nat) (r : zT1) : State → Prop := vx_MQ below (va_Qv (fun M1 => r = (M1, .inr 0)) (zB g en K) (zA g K s.heap.size)) (zQX g en K s.heap.size r) args s mc (6 * mc) (zA g K s.heap.size)
/-- what a throwing method stands on, beside zX -/
def zXt (g : zG) (K : Nat) (l : Launch) (s : State) (c : Code) (meth : Method) : Prop := l.stackTraces = false ∧ zXs g K s.heap.size s ∧ (∀ x ∈ c.exceptionTable.toList, False) ∧ meth.locks = false
section ZWT
variable {p : Program} {l : Launch} {e : Env} {R : Room} {s : State} {m : MethodId} {args : Array Value} {below : List Frame} {meth : Method} {c : Code} {H : Heap} {locs : List Loc} {cells slots : Nat} {Q : State → Prop}
variable {cc : ByteArray} {pc : Nat} {ls : Array Slot} {rest st : List Value} {g : zG} {en : zE} {K : Nat} {M : zM} {nL : Nat} {Ts : List Cond} {own : String} {r : zT1} {mc : Nat}
variable {y : MethodName} {yc : ByteArray} {yn n d mk index : Nat} {yr : Option FieldType} {Qc : Array Value → State → Outcome → State → Prop} {XC : String → State → State → Prop} {free : Addr → Prop} {As : List Value}
theorem zthrow {Qc : Array Value → State → Outcome → State → Prop} (k : Nat) (h : some (M, Sum.inl k) = some r) (E : zX g p m c cc nL s args Ts own) (X : zXt g K l s c meth) (hZ : zS g en K s H locs M) {ik ic : Nat} (hk : Cond.classLink own ik (zexn k) ∈ zT) (hini : Cond.initialized (zexn k) ∈ zT)
    (hcls : Bundle.fit (zexn k) = true) (h1 : ∀ w ∈ (vx_at0 own ic (zexn k) ["java/lang/RuntimeException", "java/lang/Exception"]).filter goodWord, w ∈ lw_tbl) (h2 : ∀ w ∈ (vx_at0 own ic (zexn k) ["java/lang/RuntimeException", "java/lang/Exception"]).filter (fun w => !goodWord w), w ∈ zNl) (hgood : ∀ w ∈ Cond.classLink own ik (zexn k) :: Cond.initialized (zexn k) :: vx_at0 own ic (zexn k) ["java/lang/RuntimeException", "java/lang/Exception"], vx_ot w = true)
    (hl : ls.size = nL) (d0 : decode cc pc = .ok (.new ik, 3)) (d3 : decode cc (pc + 3) = .ok (.dup, 1)) (d4 : decode cc (pc + 4) = .ok (.invokespecial ic, 3)) (d7 : decode cc (pc + 7) = .ok (.athrow, 1))
    (hR : 5 < R.frames ∧ (rest.map fun v => v.category).sum + 81 ≤ R.locals) (hc : cells + 1 ≤ mc) (hs : slots + 6 ≤ 6 * mc) (hRc : mc ≤ R.cells) (hRs : 6 * mc ≤ R.slots) :
    W p l e R s m args below meth c H locs cells slots (vx_MQ below Qc (zQX g en K s.heap.size r) args s mc (6 * mc) (zA g K s.heap.size)) (F0 m pc ls rest) := by
  refine vx_throw0 (names := ["java/lang/RuntimeException", "java/lang/Exception"]) E.1.1 E.1.2.1 X.1 E.1.2.2.2.1 hcls (by decide) (E.w hk) (E.w hini)
    (vx_hat (B := zNl) (fun w hw => E.w (List.mem_filter.mpr ⟨h1 w hw, (List.mem_filter.mp hw).2⟩)) h2 (fun w hw => va_Nw.use (by obtain ⟨-, q2⟩ := List.mem_filter.mp hw; cases w <;> first | (simp at q2; done) | rfl) (E.2.2.1 w hw))) hgood X.2.1.1 X.2.1.2 hZ.2.2 (hl.trans E.1.2.2.1.symm) d0 d3 d4 d7 (fun x hx => (X.2.2.1 x hx).elim) (by show 2 + 3 < _; exact hR.1) (by show _ + (13 * 3 + 42) ≤ _; exact hR.2) (Nat.le_trans hc hRc) (Nat.le_trans hs hRs) X.2.2.2 ?_ hZ.2.2.2.2 hc hs
  intro t _ hz hq
  refine ⟨(M, k), (Option.some.inj h).symm, ⟨rfl, ?_⟩, Nat.le_trans hZ.2.2.1 hz, fun q h1 h2 => ?_⟩
  · intro j q hj
    have h3 := hZ.1 j q hj
    exact h3.kept (hq _ (vx_lt hZ.1 hj))
  · rw [hq q (Nat.lt_of_lt_of_le h1 hZ.2.2.1)]
    exact hZ.2.2.2.1 q h1 h2
theorem zrunVt {k ci : Nat} {fs : List Value} {q : vw_C} (E : zX g p m c cc nL s args Ts own) (X : zXt g K l s c meth) (hZ : zS g en K s H locs M) (hk : k < K) (he : en g k (M k) = .inr (ci, fs)) (hci : vwCl[ci]? = some q) (hq : q.1 = y.cls) (hY : zYV y yc yn yr n) (hlink : Cond.methodLink own index y ∈ zT)
    (hM : vx_Met l y (zWs y yc yn yr) (zrm d mk (6 * mk)) (zPct g en K (.ref (g.2.2 k) :: As) M H.size) Qc XC mk (6 * mk) free) (hn : As.length = n) (hl : ls.size = nL) (hst : st = As.reverse ++ .ref (g.2.2 k) :: rest) (hW : (rest.map fun v => v.category).sum ≤ 8) (hR : d + 1 ≤ R.frames ∧ 8 + (yn + 11) + 48 * d ≤ R.locals) (hf : cells + mk ≤ R.cells ∧ slots + 6 * mk ≤ R.slots) (hdg : decode cc pc = .ok (.invokevirtual index, 3)) :
    vx_Run p l e R s m args below meth c H locs cells slots mk (6 * mk) (F0 m pc ls st) rest (Qc (Value.ref (g.2.2 k) :: As).toArray) XC free := by
  subst hst
  obtain ⟨q1, q2, q3⟩ := q
  have hq : q1 = y.cls := hq
  subst hq
  exact vx_runV (C := y.cls) (As := As) (rest := rest) E.1 hM ⟨callB_of n E.1.2.2.2.2 (zGood E.2.2.2 hY.1) rfl rfl rfl (E.w hY.2.1) (E.w hlink) hY.2.2.2.2 hR, E.w hY.2.2.1, E.w hY.2.2.2.1⟩ ⟨zPct_blind, va_recv E.2.1 hZ.1 hci ((zw_at hk).trans (by rw [he])), fun U hU hW => ⟨zPc_of E.2.1 E.2.2.1 hZ hU hW, zXs_of X.2.1 hZ hU hW⟩⟩ rfl hn hl rfl (lv_room hW) hdg hf
theorem zthru {u : zT1} {G : zM → Int32 → Option zT1} {Qc : Array Value → State → Outcome → State → Prop} (X : zXt g K l s c meth) (hZ : zS g en K s H locs M) (h : zbt (some u) G = some r) {H1 : Heap} {locs1 : List Loc} {E : String} {ce : Cell} {q9 : Addr} {w : zM × Nat} {t : State} (ht : t.heap = H1) (hw : u = (w.1, .inl w.2)) (hB : E = zexn w.2 ∧ zB g en K w.1 t) (hS : va_S (zA g K s.heap.size) s.heap H1 locs1) (hce : H1[q9]? = some ce) (hcv : ce.vm = .none) (hcl : s.vm.findClass E = some ce.cls) (hc : cells ≤ mc) (hs : slots ≤ 6 * mc) :
    vx_W p l e R s m args below meth c H1 locs1 cells slots (vx_MQ below Qc (zQX g en K s.heap.size r) args s mc (6 * mc) (zA g K s.heap.size)) (F0 m pc ls rest) q9 := by
  subst hw
  have hr : r = (w.1, .inl w.2) := (Option.some.inj h).symm
  refine vx_out (fun x hx => (X.2.2.1 x hx).elim) X.2.2.2 hce hcv hcl (fun t2 ht2 _ => ⟨w, hr, ⟨hB.1, ?_⟩, hS.F ht2⟩) hS.2.2 hc hs
  show va_P _ _ _ _
  rw [ht2, ← ht]
  exact hB.2
theorem zct {u : zT1} {G : zM → Int32 → Option zT1} {Qd : Array Value → State → Outcome → State → Prop} {a : Array Value} (hr : vx_Run p l e R s m args below meth c H locs cells slots mk (6 * mk) (F0 m pc ls st) rest (va_Qi (fun v M1 => u = (M1, .inr v)) (zB g en K) (zA g K H.size) a) (zQX g en K H.size u) (zA g K H.size)) (X : zXt g K l s c meth) (hZ : zS g en K s H locs M) (h : zbt (some u) G = some r) (hc : cells + mk ≤ mc) (hs : slots + 6 * mk ≤ 6 * mc)
    (kk : ∀ (v : Int32) (M1 : zM) (H1 : Heap) (locs1 : List Loc), u = (M1, .inr v) → G M1 v = some r → zS g en K s H1 locs1 M1 → W p l e R s m args below meth c H1 locs1 (cells + mk) (slots + 6 * mk) (vx_MQ below Qd (zQX g en K s.heap.size r) args s mc (6 * mc) (zA g K s.heap.size)) (F0 m (pc + 3) ls (.int v :: rest))) : W p l e R s m args below meth c H locs cells slots (vx_MQ below Qd (zQX g en K s.heap.size r) args s mc (6 * mc) (zA g K s.heap.size)) (F0 m pc ls st) :=
  vx_calli hr hZ.2.2 (fun q _ h => zAin hZ q h) (zAin hZ) (fun q _ h => zAin hZ q h)
    (fun E ce q9 w t H1 locs1 ht _ hw hB _ _ hS hce hcv hcl => zthru X hZ h ht hw hB hS hce hcv hcl hc hs)
    (fun v M1 t H1 locs1 ht _ hp hB _ _ hS => kk v M1 H1 locs1 hp (by subst hp; exact h) (zS_call hZ ht hB hS))
theorem zctv {u : zT1} {G : zM → Int32 → Option zT1} {Qd : Array Value → State → Outcome → State → Prop} {a : Array Value} (hr : vx_Run p l e R s m args below meth c H locs cells slots mk (6 * mk) (F0 m pc ls st) rest (va_Qv (fun M1 => u = (M1, .inr 0)) (zB g en K) (zA g K H.size) a) (zQX g en K H.size u) (zA g K H.size)) (X : zXt g K l s c meth) (hZ : zS g en K s H locs M) (h : zbt (some u) G = some r) (hc : cells + mk ≤ mc) (hs : slots + 6 * mk ≤ 6 * mc)
    (kk : ∀ (M1 : zM) (H1 : Heap) (locs1 : List Loc), u = (M1, .inr 0) → G M1 0 = some r → zS g en K s H1 locs1 M1 → W p l e R s m args below meth c H1 locs1 (cells + mk) (slots + 6 * mk) (vx_MQ below Qd (zQX g en K s.heap.size r) args s mc (6 * mc) (zA g K s.heap.size)) (F0 m (pc + 3) ls rest)) : W p l e R s m args below meth c H locs cells slots (vx_MQ below Qd (zQX g en K s.heap.size r) args s mc (6 * mc) (zA g K s.heap.size)) (F0 m pc ls st) :=
  vx_callv hr hZ.2.2 (fun q _ h => zAin hZ q h) (zAin hZ) (fun q _ h => zAin hZ q h)
    (fun E ce q9 w t H1 locs1 ht _ hw hB _ _ hS hce hcv hcl => zthru X hZ h ht hw hB hS hce hcv hcl hc hs)
    (fun M1 t H1 locs1 ht _ hp hB _ _ hS => kk M1 H1 locs1 hp (by subst hp; exact h) (zS_call hZ ht hB hS))
/-- how a throwing method ends when it doesn't throw -/
def zRti (g : zG) (en : zE) (K : Nat) (p : Program) (l : Launch) (e : Env) (R : Room) (s : State) (m : MethodId) (args : Array Value) (below : List Frame) (meth : Method) (c : Code) (mc : Nat) (cc : ByteArray) (ty : FieldType) (r : zT1) : Prop :=
  ∀ (cells slots : Nat) (v : Int32) (M1 : zM) (H : Heap) (locs : List Loc) (ls : Array Slot) (pc : Nat), some (M1, Sum.inr v) = some r → narrow ty (.int v) = .int v → zS g en K s H locs M1 → decode cc pc = .ok (.ireturn, 1) → cells ≤ mc → slots ≤ 6 * mc → W p l e R s m args below meth c H locs cells slots (zQt g en K below args s mc r) (F0 m pc ls [.int v])
def zRtv (g : zG) (en : zE) (K : Nat) (p : Program) (l : Launch) (e : Env) (R : Room) (s : State) (m : MethodId) (args : Array Value) (below : List Frame) (meth : Method) (c : Code) (mc : Nat) (cc : ByteArray) (r : zT1) : Prop :=
  ∀ (cells slots : Nat) (M1 : zM) (H : Heap) (locs : List Loc) (ls : Array Slot) (pc : Nat), some (M1, Sum.inr (0 : Int32)) = some r → zS g en K s H locs M1 → decode cc pc = .ok (.return_, 1) → cells ≤ mc → slots ≤ 6 * mc → W p l e R s m args below meth c H locs cells slots (zQtv g en K below args s mc r) (F0 m pc ls [])
end ZWT
section ZWU
variable {l : Launch} {g : zG} {en : zE} {K : Nat} {M : zM} {y : MethodName} {cc : ByteArray} {n d mc : Nat} {av : List Value} {r : zT1}
theorem zMt_of {ty : FieldType} (hst : l.stackTraces = false) (hy : plainName y.cls = true) (hlen : (lg_sl av).length ≤ n)
    (walk : ∀ (p : Program) (e : Env) (s : State) (m : MethodId) (args : Array Value) (below : List Frame) (meth : Method) (c : Code) (ls : Array Slot), zX g p m c cc n s args (zWs y cc n (some ty)) y.cls → zXt g K l s c meth → zRti g en K p l e (zrm d mc (6 * mc)) s m args below meth c mc cc ty r → zS g en K s s.heap [] M → lv_has ls n (lv_args 0 av) → W p l e (zrm d mc (6 * mc)) s m args below meth c s.heap [] 0 0 (zQt g en K below args s mc r) (F0 m 0 ls [])) : zMt l g en K y (zWs y cc n (some ty)) d mc av M r := by
  intro sz
  refine vx_ofW (cc := cc) (maxL := n) (ret := some ty) hy rfl ?_
  intro p e s m args below meth c s₁ B hml ht hv
  obtain ⟨rfl, rfl, hX, hZ⟩ := z_entry B hml hv.1
  have hlocks := B.notSynchronized
  have hl := lv_entry av (n := n) hlen
  rw [lg_entry_eq]
  exact walk p e s m _ below meth c _ hX ⟨hst, hv.2, ht, hlocks⟩ (fun cells slots v M1 H locs ls pc hp hn hZ1 hd hc hs => W.widen hc hs (vx_ret (W.zret hX.1.1 hX.1.2.1 B.returns hn (fun t ht _ => ⟨⟨v, M1, rfl, (Option.some.inj hp).symm, by show va_P _ _ _ _; rw [ht]; exact hZ1.1⟩, hZ1.2.2.F ht⟩) hZ1.2.2.2.2 hd))) hZ hl
theorem zMtv_of (hst : l.stackTraces = false) (hy : plainName y.cls = true) (hlen : (lg_sl av).length ≤ n)
    (walk : ∀ (p : Program) (e : Env) (s : State) (m : MethodId) (args : Array Value) (below : List Frame) (meth : Method) (c : Code) (ls : Array Slot), zX g p m c cc n s args (zWs y cc n none) y.cls → zXt g K l s c meth → zRtv g en K p l e (zrm d mc (6 * mc)) s m args below meth c mc cc r → zS g en K s s.heap [] M → lv_has ls n (lv_args 0 av) → W p l e (zrm d mc (6 * mc)) s m args below meth c s.heap [] 0 0 (zQtv g en K below args s mc r) (F0 m 0 ls [])) : zMtv l g en K y (zWs y cc n none) d mc av M r := by
  intro sz
  refine vx_ofW (cc := cc) (maxL := n) (ret := none) hy rfl ?_
  intro p e s m args below meth c s₁ B hml ht hv
  obtain ⟨rfl, rfl, hX, hZ⟩ := z_entry B hml hv.1
  have hlocks := B.notSynchronized
  have hl := lv_entry av (n := n) hlen
  rw [lg_entry_eq]
  exact walk p e s m _ below meth c _ hX ⟨hst, hv.2, ht, hlocks⟩ (fun cells slots M1 H locs ls pc hp hZ1 hd hc hs => W.widen hc hs (vx_ret (W.vret hX.1.1 hX.1.2.1 B.returns (fun t ht _ => ⟨⟨M1, rfl, (Option.some.inj hp).symm, by show va_P _ _ _ _; rw [ht]; exact hZ1.1⟩, hZ1.2.2.F ht⟩) hZ1.2.2.2.2 hd))) hZ hl
end ZWU
