/-! THE LAW'S OWN METHODS (x.m(..) tried, its exceptions told apart): the class's cells and the law's long[1] -/
def zOut (cO : ClassId) (qo : Nat) (v : Int64) : Nat × va_E := (qo, .inl (cO, 1, .inr (.inl (fun j => if j = 0 then v else 0))))
def zWo (g : zG) (cO : ClassId) (qo : Nat) (M : zM) (v : Int64) : va_W := zw g xE 125 M ++ [zOut cO qo v]
theorem zw_len {g : zG} {en : zE} {K : Nat} {M : zM} : (zw g en K M).length = K := by simp [zw]
theorem zWo_at {g : zG} {cO : ClassId} {qo : Nat} {M : zM} {v : Int64} : (zWo g cO qo M v)[125]? = some (zOut cO qo v) := by
  unfold zWo
  rw [List.getElem?_append_right (by rw [zw_len]; exact Nat.le_refl _), zw_len]
  rfl
theorem zWo_set {g : zG} {cO : ClassId} {qo : Nat} {M : zM} {v v' : Int64} : (zWo g cO qo M v).set 125 (zOut cO qo v') = zWo g cO qo M v' := by
  unfold zWo
  rw [List.set_append_right _ _ (by rw [zw_len]; exact Nat.le_refl _), zw_len]
  rfl
def zA1 (g : zG) (qo sz : Nat) : Nat → Prop := fun q => zA g 125 sz q ∨ q = qo
def zNcl : List (String × String) := [("java/lang/UnsupportedOperationException", "java/lang/IllegalArgumentException"), ("java/util/NoSuchElementException", "java/lang/IndexOutOfBoundsException"), ("java/lang/IllegalArgumentException", "java/lang/IndexOutOfBoundsException"), ("java/lang/IllegalStateException", "java/lang/IndexOutOfBoundsException")]
def zNc (U : State) : Prop := ∀ q ∈ zNcl, va_Nc q.1 q.2 U
def zPcw (g : zG) (cO : ClassId) (qo : Nat) (av : List Value) (M : zM) (v : Int64) (sz : Nat) : Array Value → State → Prop := fun a U => zPct g xE 125 av M sz a U ∧ va_P g.1 vwCl [zOut cO qo v] U.heap ∧ va_K g.1 vwCl [(cO, .long)] U ∧ (∀ k, k < 125 → g.2.2 k ≠ qo) ∧ zNc U
theorem zPcw_blind {g : zG} {cO : ClassId} {qo : Nat} {av : List Value} {M : zM} {v : Int64} {sz : Nat} : FrameBlind (zPcw g cO qo av M v sz) := fun a U f mk q =>
  ⟨zPct_blind a U f mk q.1, q.2.1, va_K.moved (u := U) (U := U.calling f mk a) (Vm.Alike.refl U.vm) q.2.2.1, q.2.2.2.1, fun z hz => va_Nc.moved (u := U) (Vm.Alike.refl U.vm) (q.2.2.2.2 z hz)⟩
/-- what the method answers and leaves: 0 and the answer in the row, or the exception's place and the row as it was -/
def zwr (r : zT1) (codes : Nat → Int32) (conv : Int32 → Int64) (v : Int64) : Int32 × zM × Int64 := match r.2 with
  | .inl k => (codes k, r.1, v)
  | .inr x => (0, r.1, conv x)
def zMw (l : Launch) (g : zG) (cO : ClassId) (qo : Nat) (y : MethodName) (ws : List Cond) (d mc : Nat) (av : List Value) (M : zM) (v : Int64) (u0 : Int32 × zM × Int64) : Prop := ∀ sz : Nat, Met l y ws (zrm d mc (6 * mc)) (zPcw g cO qo av M v sz) (va_Qi (fun k (u : zM × Int64) => u0 = (k, u)) (fun u t => zB g xE 125 u.1 t ∧ va_P g.1 vwCl [zOut cO qo u.2] t.heap) (zA1 g qo sz)) mc (6 * mc) (zA1 g qo sz)
def zWsH (y : MethodName) (cc : ByteArray) (n : Nat) (r : Option FieldType) (hh : List (Nat × Nat × Nat × Nat)) : List Cond := Cond.codeWith y cc n r hh :: zT
theorem zofWH {l : Launch} {y : MethodName} {ws ws' : List Cond} {rm : Room} {Pc : Array Value → State → Prop} {Qc : Array Value → State → Outcome → State → Prop} {mc ms : Nat} {free : Addr → Prop} {cc : ByteArray} {maxL : Nat} {ret : Option FieldType} {hh : List (Nat × Nat × Nat × Nat)}
    (hy : plainFor y = true) (hw : ws = Cond.codeWith y cc maxL ret hh :: ws')
    (body : ∀ p e s m args below meth c s₁, BodyLoose p l y (headSpec ws rm) cc maxL ret e s m args below meth c s₁ → c.maxLocals = maxL → Pc args s →
      W p l e (headSpec ws rm).room s m args below meth c s.heap [] 0 0 (MQ below Qc args s mc ms free) (entryFrame m args maxL)) : Met l y ws rm Pc Qc mc ms free := by
  refine MetFree.of_bodySF (code := cc) (maxLocals := maxL) (ret := ret) hy ?_ ?_
  · intro args s m h hn
    obtain ⟨m9, meth, c, hn9, h1, h2, h3, h4, -, h5, h6, -⟩ := Cond.codeWith_spec (atoms_spec (ws := ws) h _ (by rw [hw]; exact List.mem_cons_self))
    cases hn.symm.trans hn9
    exact ⟨meth, c, h1, h2, h3, h4, h5, h6⟩
  · intro p e s m args below meth c s₁ B hml hP _
    have hh0 : s₁.heap = s.heap := by rw [B.state]; rfl
    obtain ⟨t, a1, o, b1, b2, b3, b4⟩ := body p e s m args below meth c s₁ B hml hP s₁ hh0 (Stand.of_body B)
    exact ⟨t, o, a1, b1, b2, b3, b4⟩
theorem z_entryH {l : Launch} {g : zG} {en : zE} {K : Nat} {M : zM} {y : MethodName} {cc : ByteArray} {n : Nat} {av : List Value} {p : Program} {e : Env} {s : State} {m : MethodId} {args : Array Value} {below : List Frame} {meth : Method} {c : Code} {s₁ : State} {yr : Option FieldType} {rm : Room} {sz : Nat} {hh : List (Nat × Nat × Nat × Nat)} (B : BodyLoose p l y (headSpec (zWsH y cc n yr hh) rm) cc n yr e s m args below meth c s₁) (hml : c.maxLocals = n) (hv : zPc g en K av M sz args s) :
    args = av.toArray ∧ s.heap.size = sz ∧ zX g p m c cc n s args (zWsH y cc n yr hh) y.cls ∧ zS g en K s s.heap [] M ∧ c.exceptionTable.toList = tableOf hh := by
  obtain ⟨hav, hsz, hP, hK, hD, hN⟩ := hv
  have hts := atoms_spec (ws := zWsH y cc n yr hh) B.pre
  have hown : s.vm.findClass y.cls = some m.cls := findClass_of_methodNamed B.named
  exact ⟨hav, hsz, ⟨⟨B.exec, B.bytes, hml, hown, hts⟩, hK, hN, fun w h => List.mem_cons_of_mem _ h⟩, ⟨hP, zw_DA hD, va_S.rf⟩, vx_table (x := y) B (hts _ List.mem_cons_self)⟩
section ZWW
variable {p : Program} {l : Launch} {e : Env} {R : Room} {s : State} {m : MethodId} {args : Array Value} {below : List Frame} {meth : Method} {c : Code} {H : Heap} {locs : List Loc} {cells slots : Nat} {Q : State → Prop}
variable {cc : ByteArray} {pc : Nat} {ls : Array Slot} {rest st : List Value} {g : zG} {en : zE} {K : Nat} {M : zM} {nL : Nat} {Ts : List Cond} {own : String} {r : zT1} {mc : Nat}
variable {y : MethodName} {yc : ByteArray} {yn n d mk index : Nat} {yr : Option FieldType} {Qc : Array Value → State → Outcome → State → Prop} {XC : String → State → State → Prop} {free : Addr → Prop} {As : List Value}
theorem zrunVu {k ci : Nat} {fs : List Value} {q : vw_C} (E : zX g p m c cc nL s args Ts own) (hT : zXs g K s.heap.size s) (hZ : zS g en K s H locs M) (hk : k < K) (he : en g k (M k) = .inr (ci, fs)) (hci : vwCl[ci]? = some q) (hq : q.1 = y.cls) (hY : zYV y yc yn yr n) (hlink : Cond.methodLink own index y ∈ zT)
    (hM : vx_Met l y (zWs y yc yn yr) (zrm d mk (6 * mk)) (zPct g en K (.ref (g.2.2 k) :: As) M H.size) Qc XC mk (6 * mk) free) (hn : As.length = n) (hl : ls.size = nL) (hst : st = As.reverse ++ .ref (g.2.2 k) :: rest) (hW : (rest.map fun v => v.category).sum ≤ 8) (hR : d + 1 ≤ R.frames ∧ 8 + (yn + 11) + 48 * d ≤ R.locals) (hf : cells + mk ≤ R.cells ∧ slots + 6 * mk ≤ R.slots) (hdg : decode cc pc = .ok (.invokevirtual index, 3)) :
    vx_Run p l e R s m args below meth c H locs cells slots mk (6 * mk) (F0 m pc ls st) rest (Qc (Value.ref (g.2.2 k) :: As).toArray) XC free := by
  subst hst
  obtain ⟨q1, q2, q3⟩ := q
  have hq : q1 = y.cls := hq
  subst hq
  exact vx_runV (C := y.cls) (As := As) (rest := rest) E.1 hM ⟨callB_of n E.1.2.2.2.2 (zGood E.2.2.2 hY.1) rfl rfl rfl (E.w hY.2.1) (E.w hlink) hY.2.2.2.2 hR, E.w hY.2.2.1, E.w hY.2.2.2.1⟩ ⟨zPct_blind, va_recv E.2.1 hZ.1 hci ((zw_at hk).trans (by rw [he])), fun U hU hW => ⟨zPc_of E.2.1 E.2.2.1 hZ hU hW, zXs_of hT hZ hU hW⟩⟩ rfl hn hl rfl (lv_room hW) hdg hf
variable {cO : ClassId} {qo : Nat} {v : Int64}
/-- the class's cells and the row, while such a method runs -/
def zSw (g : zG) (cO : ClassId) (qo : Nat) (s : State) (H : Heap) (locs : List Loc) (M : zM) (v : Int64) : Prop := va_P g.1 vwCl (zWo g cO qo M v) H ∧ va_D (zA1 g qo s.heap.size) (zWo g cO qo M v) ∧ va_S (zA1 g qo s.heap.size) s.heap H locs
theorem zSw_of {H1 : Heap} {locs1 : List Loc} {M1 : zM} (hZ0 : zS g xE 125 s s.heap [] M) (hO : va_P g.1 vwCl [zOut cO qo v] s.heap) (hap : ∀ k, k < 125 → g.2.2 k ≠ qo) (hZ1 : zS g xE 125 s H1 locs1 M1) : zSw g cO qo s H1 locs1 M1 v := by
  have hlt : qo < s.heap.size := vx_lt hO (k := 0) rfl
  have hno : ¬ zA g 125 s.heap.size qo := by
    intro h
    rcases h with ⟨k, hk, e⟩ | h
    · exact hap k hk e.symm
    · omega
  have hO1 : va_at g.1 vwCl (zOut cO qo v) H1 := (hO 0 _ rfl).kept (hZ1.2.2.2.1 qo hlt hno)
  refine ⟨?_, ?_, hZ1.2.2.1, fun q h1 h2 => hZ1.2.2.2.1 q h1 (fun z => h2 (Or.inl z)), fun l hl => Or.inl (hZ1.2.2.2.2 l hl)⟩
  · intro k q hk
    rcases Nat.lt_or_ge k 125 with h | h
    · unfold zWo at hk
      rw [List.getElem?_append_left (by rw [zw_len]; exact h)] at hk
      exact hZ1.1 k q hk
    · unfold zWo at hk
      rw [List.getElem?_append_right (by rw [zw_len]; exact h), zw_len] at hk
      match hj : k - 125, hk with
      | 0, hk => cases hk; exact hO1
      | j + 1, hk => simp at hk
  · have ad : ∀ (k : Nat) (q : Nat × va_E), (zWo g cO qo M1 v)[k]? = some q → (k < 125 ∧ (zw g xE 125 M1)[k]? = some q ∧ q.1 = g.2.2 k) ∨ (k = 125 ∧ q.1 = qo) := by
      intro k q hk
      unfold zWo at hk
      rcases Nat.lt_or_ge k 125 with h | h
      · rw [List.getElem?_append_left (by rw [zw_len]; exact h)] at hk
        refine Or.inl ⟨h, hk, ?_⟩
        rw [zw_at h] at hk
        cases hk
        rfl
      · rw [List.getElem?_append_right (by rw [zw_len]; exact h), zw_len] at hk
        match hj : k - 125, hk with
        | 0, hk => cases hk; exact Or.inr ⟨by omega, rfl⟩
        | j + 1, hk => simp at hk
    refine ⟨fun i j p q hi hj e => ?_, fun k q hk => ?_⟩
    · rcases ad i p hi with ⟨h1, h2, h3⟩ | ⟨h1, h3⟩ <;> rcases ad j q hj with ⟨g1, g2, g3⟩ | ⟨g1, g3⟩
      · exact hZ1.2.1.1 i j p q h2 g2 e
      · exact absurd (h3.symm.trans (e.trans g3)) (hap i h1)
      · exact absurd (g3.symm.trans (e.symm.trans h3)) (hap j g1)
      · rw [h1, g1]
    · rcases ad k q hk with ⟨h1, h2, h3⟩ | ⟨h1, h3⟩
      · exact Or.inl (hZ1.2.1.2 k q h2)
      · exact Or.inr h3
theorem zSw.cls {H1 : Heap} {locs1 : List Loc} (h : zSw g cO qo s H1 locs1 M v) : va_P g.1 vwCl (zw g xE 125 M) H1 := by
  intro k q hk
  have hl : k < 125 := by
    rcases Nat.lt_or_ge k 125 with q | q
    · exact q
    · rw [List.getElem?_eq_none (by rw [zw_len]; exact q)] at hk; cases hk
  exact h.1 k q (by unfold zWo; rw [List.getElem?_append_left (by rw [zw_len]; exact hl)]; exact hk)
theorem zSw.out {H1 : Heap} {locs1 : List Loc} (h : zSw g cO qo s H1 locs1 M v) : va_P g.1 vwCl [zOut cO qo v] H1 := by
  intro k q hk
  match k, hk with
  | 0, hk => cases hk; exact h.1 125 _ zWo_at
  | j + 1, hk => simp at hk
theorem zlast {x : Int64} (E : zX g p m c cc nL s args Ts own) (hKo : va_K g.1 vwCl [(cO, .long)] s) (hZ : zSw g cO qo s H locs M v) (hdg : decode cc pc = .ok (.lastore, 1))
    (kk : ∀ (H1 : Heap) (locs1 : List Loc), zSw g cO qo s H1 locs1 M x → W p l e R s m args below meth c H1 locs1 cells slots Q (F0 m (pc + 1) ls rest)) : W p l e R s m args below meth c H locs cells slots Q (F0 m pc ls (.long x :: .int 0 :: .ref qo :: rest)) := by
  refine va_last E.1.1 E.1.2.1 hKo hZ.1 hZ.2.1 hZ.2.2 125 0 zWo_at rfl (zin_of (by decide)) hdg (fun H1 locs1 hP hD hS => ?_)
  have hu : (vp_updL (fun j => if j = 0 then v else 0) (0 : Int32).toNatClampNeg x) = (fun j => if j = 0 then x else 0) := by
    funext j
    unfold vp_updL
    have h0 : (0 : Int32).toNatClampNeg = 0 := by decide
    rw [h0]
    by_cases hj : j = 0 <;> simp [hj]
  rw [hu] at hP hD
  have hs := zWo_set (g := g) (cO := cO) (qo := qo) (M := M) (v := v) (v' := x)
  unfold zOut at hs
  rw [hs] at hP hD
  exact kk H1 locs1 ⟨hP, hD, hS⟩
theorem zwret {k : Int32} {u0 : Int32 × zM × Int64} (hr : meth.sig.returnType = some .int) (hlocks : meth.locks = false) (E : zX g p m c cc nL s args Ts own) (hZ : zSw g cO qo s H locs M v) (hu : u0 = (k, M, v)) (hc : cells ≤ mc) (hs : slots ≤ 6 * mc) (hdg : decode cc pc = .ok (.ireturn, 1)) :
    W p l e R s m args below meth c H locs cells slots (MQ below (va_Qi (fun k (u : zM × Int64) => u0 = (k, u)) (fun u t => zB g xE 125 u.1 t ∧ va_P g.1 vwCl [zOut cO qo u.2] t.heap) (zA1 g qo s.heap.size)) args s mc (6 * mc) (zA1 g qo s.heap.size)) (F0 m pc ls [.int k]) := by
  refine W.widen hc hs ?_
  exact W.zret E.1.1 E.1.2.1 hr rfl (fun t ht _ => ⟨⟨k, (M, v), rfl, hu, ⟨by show va_P _ _ _ _; rw [ht]; exact hZ.cls, by rw [ht]; exact hZ.out⟩⟩, hZ.2.2.F ht⟩) hZ.2.2.2.2 hdg
end ZWW
