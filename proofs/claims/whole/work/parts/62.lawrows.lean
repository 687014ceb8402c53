/-! THE LAW'S WORLD: the class's cells, the reference's cells, the long[1]; all of them newer than the law's start -/
def zLS (gx gr : zG) (cO : ClassId) (qo : Nat) (s : State) (H : Heap) (locs : List Loc) (M N : zM) (v : Int64) : Prop := va_P gx.1 vwCl (zw gx xE 125 M) H ∧ va_P gr.1 vwCl (zw gr rE 15 N) H ∧ va_P gx.1 vwCl [zOut cO qo v] H ∧ va_S (fun q => s.heap.size ≤ q) s.heap H locs
/-- what holds of the addresses, once and for all -/
def zLA (gx gr : zG) (qo : Nat) (s : State) : Prop := ((∀ i, i < 125 → ∀ j, j < 15 → gx.2.2 i ≠ gr.2.2 j) ∧ (∀ i, i < 125 → gx.2.2 i ≠ qo) ∧ (∀ j, j < 15 → gr.2.2 j ≠ qo)) ∧ ((∀ i, i < 125 → s.heap.size ≤ gx.2.2 i) ∧ (∀ j, j < 15 → s.heap.size ≤ gr.2.2 j) ∧ s.heap.size ≤ qo) ∧ (∀ i, i < 125 → ∀ j, j < 125 → gx.2.2 i = gx.2.2 j → i = j) ∧ (∀ i, i < 15 → ∀ j, j < 15 → gr.2.2 i = gr.2.2 j → i = j)
theorem zw_kept {g : zG} {en : zE} {K : Nat} {M : zM} {D : va_G} {H H1 : Heap} (h : va_P D vwCl (zw g en K M) H) (hq : ∀ k, k < K → H1[g.2.2 k]? = H[g.2.2 k]?) : va_P D vwCl (zw g en K M) H1 := by
  intro k q hk
  have hl : k < K := by
    rcases Nat.lt_or_ge k K with q | q
    · exact q
    · rw [List.getElem?_eq_none (by rw [zw_len]; exact q)] at hk; cases hk
  have h1 := h k q hk
  rw [zw_at hl] at hk
  cases hk
  exact h1.kept (hq k hl)
theorem zw_lt {g : zG} {en : zE} {K : Nat} {M : zM} {D : va_G} {H : Heap} (h : va_P D vwCl (zw g en K M) H) {k : Nat} (hk : k < K) : g.2.2 k < H.size := vx_lt h (zw_at hk)
theorem zw_Dof {g : zG} {en : zE} {K : Nat} {M : zM} {A : Nat → Prop} (hi : ∀ i, i < K → ∀ j, j < K → g.2.2 i = g.2.2 j → i = j) (hA : ∀ k, k < K → A (g.2.2 k)) : va_D A (zw g en K M) := by
  have key : ∀ (k : Nat) (q : Nat × va_E), (zw g en K M)[k]? = some q → k < K ∧ q.1 = g.2.2 k := by
    intro k q hk
    have hl : k < K := by
      rcases Nat.lt_or_ge k K with q | q
      · exact q
      · rw [List.getElem?_eq_none (by rw [zw_len]; exact q)] at hk; cases hk
    rw [zw_at hl] at hk
    cases hk
    exact ⟨hl, rfl⟩
  refine ⟨fun i j p q h1 h2 e => ?_, fun k q hk => ?_⟩
  · obtain ⟨a1, a2⟩ := key i p h1
    obtain ⟨b1, b2⟩ := key j q h2
    exact hi i a1 j b1 (by rw [← a2, ← b2, e])
  · obtain ⟨a1, a2⟩ := key k q hk
    rw [a2]
    exact hA k a1
theorem zS_weak {A B : Nat → Prop} {H0 H : Heap} {locs : List Loc} (h : va_S A H0 H locs) (hAB : ∀ q, A q → B q) : va_S B H0 H locs := ⟨h.1, fun q h1 h2 => h.2.1 q h1 (fun z => h2 (hAB q z)), fun l hl => hAB _ (h.2.2 l hl)⟩
section ZLAW
variable {p : Program} {l : Launch} {e : Env} {R : Room} {s : State} {m : MethodId} {args : Array Value} {below : List Frame} {meth : Method} {c : Code} {H : Heap} {locs : List Loc} {cells slots mc ms : Nat} {Q : State → Prop}
variable {cc : ByteArray} {pc : Nat} {ls : Array Slot} {rest st : List Value} {gx gr : zG} {cO : ClassId} {qo : Nat} {M N : zM} {v : Int64} {nL : Nat} {Ts : List Cond} {own : String}
theorem zLS.x (A : zLA gx gr qo s) (hZ : zLS gx gr cO qo s H locs M N v) : zS gx xE 125 s H locs M := ⟨hZ.1, zw_Dof A.2.2.1 (fun k hk => Or.inl ⟨k, hk, rfl⟩), zS_weak hZ.2.2.2 (fun _ h => Or.inr h)⟩
theorem zLS.r (A : zLA gx gr qo s) (hZ : zLS gx gr cO qo s H locs M N v) : zS gr rE 15 s H locs N := ⟨hZ.2.1, zw_Dof A.2.2.2 (fun k hk => Or.inl ⟨k, hk, rfl⟩), zS_weak hZ.2.2.2 (fun _ h => Or.inr h)⟩
theorem zLS.lo (A : zLA gx gr qo s) (hZ : zLS gx gr cO qo s H locs M N v) : qo < H.size := vx_lt hZ.2.2.1 (k := 0) rfl
theorem zP1_kept {D : va_G} {x : Nat × va_E} {H H1 : Heap} (h : va_P D vwCl [x] H) (hq : H1[x.1]? = H[x.1]?) : va_P D vwCl [x] H1 := by
  intro k q hk
  match k, hk with
  | 0, hk => cases hk; exact (h 0 _ rfl).kept hq
  | k + 1, hk => simp at hk
theorem zAx (A : zLA gx gr qo s) (hZ : zLS gx gr cO qo s H locs M N v) {q : Nat} (h : zA gx 125 H.size q) : s.heap.size ≤ q := by
  rcases h with ⟨k, hk, e⟩ | h
  · rw [e]; exact A.2.1.1 k hk
  · exact Nat.le_trans hZ.2.2.2.1 h
theorem zAr (A : zLA gx gr qo s) (hZ : zLS gx gr cO qo s H locs M N v) {q : Nat} (h : zA gr 15 H.size q) : s.heap.size ≤ q := by
  rcases h with ⟨k, hk, e⟩ | h
  · rw [e]; exact A.2.1.2.1 k hk
  · exact Nat.le_trans hZ.2.2.2.1 h
theorem zLx (A : zLA gx gr qo s) (hZ : zLS gx gr cO qo s H locs M N v) {M1 : zM} {t : State} {H1 : Heap} {locs1 : List Loc} (ht : t.heap = H1) (hB : zB gx xE 125 M1 t) (hk1 : ∀ q : Nat, q < H.size → ¬ zA gx 125 H.size q → H1[q]? = H[q]?) (hS : va_S (fun q => s.heap.size ≤ q) s.heap H1 locs1) : zLS gx gr cO qo s H1 locs1 M1 N v := by
  have off : ∀ q, q < H.size → (∀ i, i < 125 → gx.2.2 i ≠ q) → H1[q]? = H[q]? := fun q h1 h2 => hk1 q h1 (fun z => by
    rcases z with ⟨k, hk, e⟩ | z
    · exact h2 k hk e.symm
    · omega)
  exact ⟨by rw [← ht]; exact hB, zw_kept hZ.2.1 (fun k hk => off _ (zw_lt hZ.2.1 hk) (fun i hi => A.1.1 i hi k hk)), zP1_kept hZ.2.2.1 (off _ (hZ.lo A) A.1.2.1), hS⟩
theorem zLr (A : zLA gx gr qo s) (hZ : zLS gx gr cO qo s H locs M N v) {N1 : zM} {t : State} {H1 : Heap} {locs1 : List Loc} (ht : t.heap = H1) (hB : zB gr rE 15 N1 t) (hk1 : ∀ q : Nat, q < H.size → ¬ zA gr 15 H.size q → H1[q]? = H[q]?) (hS : va_S (fun q => s.heap.size ≤ q) s.heap H1 locs1) : zLS gx gr cO qo s H1 locs1 M N1 v := by
  have off : ∀ q, q < H.size → (∀ i, i < 15 → gr.2.2 i ≠ q) → H1[q]? = H[q]? := fun q h1 h2 => hk1 q h1 (fun z => by
    rcases z with ⟨k, hk, e⟩ | z
    · exact h2 k hk e.symm
    · omega)
  exact ⟨zw_kept hZ.1 (fun k hk => off _ (zw_lt hZ.1 hk) (fun i hi z => A.1.1 k hk i hi z.symm)), by rw [← ht]; exact hB, zP1_kept hZ.2.2.1 (off _ (hZ.lo A) A.1.2.2), hS⟩
theorem lx_i {P : Int32 → zM → Prop} {a : Array Value} (hr : va_Run p l e R s m args below meth c H locs cells slots mc ms (F0 m pc ls st) rest (va_Qi P (zB gx xE 125) (zA gx 125 H.size) a) (zA gx 125 H.size)) (A : zLA gx gr qo s) (hZ : zLS gx gr cO qo s H locs M N v)
    (kk : ∀ (x : Int32) (M1 : zM) (H1 : Heap) (locs1 : List Loc), P x M1 → zLS gx gr cO qo s H1 locs1 M1 N v → W p l e R s m args below meth c H1 locs1 (cells + mc) (slots + ms) Q (F0 m (pc + 3) ls (.int x :: rest))) : W p l e R s m args below meth c H locs cells slots Q (F0 m pc ls st) :=
  va_calli hr hZ.2.2.2 (fun q _ h => zAx A hZ h) (fun q h => zAx A hZ h) (fun x u t H1 locs1 ht _ hp hB _ hk1 hS => kk x u H1 locs1 hp (zLx A hZ ht hB hk1 hS))
theorem lx_v {P : zM → Prop} {a : Array Value} (hr : va_Run p l e R s m args below meth c H locs cells slots mc ms (F0 m pc ls st) rest (va_Qv P (zB gx xE 125) (zA gx 125 H.size) a) (zA gx 125 H.size)) (A : zLA gx gr qo s) (hZ : zLS gx gr cO qo s H locs M N v)
    (kk : ∀ (M1 : zM) (H1 : Heap) (locs1 : List Loc), P M1 → zLS gx gr cO qo s H1 locs1 M1 N v → W p l e R s m args below meth c H1 locs1 (cells + mc) (slots + ms) Q (F0 m (pc + 3) ls rest)) : W p l e R s m args below meth c H locs cells slots Q (F0 m pc ls st) :=
  va_callv hr hZ.2.2.2 (fun q _ h => zAx A hZ h) (fun q h => zAx A hZ h) (fun u t H1 locs1 ht _ hp hB _ hk1 hS => kk u H1 locs1 hp (zLx A hZ ht hB hk1 hS))
theorem lr_i {P : Int32 → zM → Prop} {a : Array Value} (hr : va_Run p l e R s m args below meth c H locs cells slots mc ms (F0 m pc ls st) rest (va_Qi P (zB gr rE 15) (zA gr 15 H.size) a) (zA gr 15 H.size)) (A : zLA gx gr qo s) (hZ : zLS gx gr cO qo s H locs M N v)
    (kk : ∀ (x : Int32) (N1 : zM) (H1 : Heap) (locs1 : List Loc), P x N1 → zLS gx gr cO qo s H1 locs1 M N1 v → W p l e R s m args below meth c H1 locs1 (cells + mc) (slots + ms) Q (F0 m (pc + 3) ls (.int x :: rest))) : W p l e R s m args below meth c H locs cells slots Q (F0 m pc ls st) :=
  va_calli hr hZ.2.2.2 (fun q _ h => zAr A hZ h) (fun q h => zAr A hZ h) (fun x u t H1 locs1 ht _ hp hB _ hk1 hS => kk x u H1 locs1 hp (zLr A hZ ht hB hk1 hS))
theorem lr_v {P : zM → Prop} {a : Array Value} (hr : va_Run p l e R s m args below meth c H locs cells slots mc ms (F0 m pc ls st) rest (va_Qv P (zB gr rE 15) (zA gr 15 H.size) a) (zA gr 15 H.size)) (A : zLA gx gr qo s) (hZ : zLS gx gr cO qo s H locs M N v)
    (kk : ∀ (N1 : zM) (H1 : Heap) (locs1 : List Loc), P N1 → zLS gx gr cO qo s H1 locs1 M N1 v → W p l e R s m args below meth c H1 locs1 (cells + mc) (slots + ms) Q (F0 m (pc + 3) ls rest)) : W p l e R s m args below meth c H locs cells slots Q (F0 m pc ls st) :=
  va_callv hr hZ.2.2.2 (fun q _ h => zAr A hZ h) (fun q h => zAr A hZ h) (fun u t H1 locs1 ht _ hp hB _ hk1 hS => kk u H1 locs1 hp (zLr A hZ ht hB hk1 hS))
theorem lw_i {u0 : Int32 × zM × Int64} {a : Array Value} (hr : va_Run p l e R s m args below meth c H locs cells slots mc ms (F0 m pc ls st) rest (va_Qi (fun k (u : zM × Int64) => u0 = (k, u)) (fun u t => zB gx xE 125 u.1 t ∧ va_P gx.1 vwCl [zOut cO qo u.2] t.heap) (zA1 gx qo H.size) a) (zA1 gx qo H.size)) (A : zLA gx gr qo s) (hZ : zLS gx gr cO qo s H locs M N v)
    (kk : ∀ (H1 : Heap) (locs1 : List Loc), zLS gx gr cO qo s H1 locs1 u0.2.1 N u0.2.2 → W p l e R s m args below meth c H1 locs1 (cells + mc) (slots + ms) Q (F0 m (pc + 3) ls (.int u0.1 :: rest))) : W p l e R s m args below meth c H locs cells slots Q (F0 m pc ls st) := by
  have hA1 : ∀ q, zA1 gx qo H.size q → s.heap.size ≤ q := fun q h => by
    rcases h with h | h
    · exact zAx A hZ h
    · rw [h]; exact A.2.1.2.2
  refine va_calli hr hZ.2.2.2 (fun q _ h => hA1 q h) hA1 (fun x u t H1 locs1 ht _ hp hB _ hk1 hS => ?_)
  subst hp
  refine kk H1 locs1 ⟨by rw [← ht]; exact hB.1, zw_kept hZ.2.1 (fun k hk => hk1 _ (zw_lt hZ.2.1 hk) ?_), by rw [← ht]; exact hB.2, hS⟩
  intro z
  rcases z with (⟨i, hi, e9⟩ | z) | z
  · exact A.1.1 i hi k hk e9.symm
  · exact absurd (zw_lt hZ.2.1 hk) (Nat.not_lt.mpr z)
  · exact A.1.2.2 k hk z
theorem lrunW {y : MethodName} {yc : ByteArray} {yn n d mk index : Nat} {hh : List (Nat × Nat × Nat × Nat)} {u0 : Int32 × zM × Int64} {As : List Value} (E : zX gx p m c cc nL s args Ts own) (hT : zXs gx 125 s.heap.size s) (hKo : va_K gx.1 vwCl [(cO, .long)] s) (hNc : zNc s) (A : zLA gx gr qo s) (hZ : zLS gx gr cO qo s H locs M N v)
    (hcode : Cond.codeWith y yc yn (some .int) hh ∈ zT) (hini : Cond.initialized y.cls ∈ zT) (hstat : Cond.static y ∈ zT) (hd : y.cls ≠ "java/lang/invoke/MethodHandle" ∧ y.cls ≠ "java/lang/invoke/VarHandle" ∧ (parseMethodDescriptor y.desc).map (fun d => d.parameters.length) = some n) (hlink : Cond.methodLink own index y ∈ zT)
    (hM : zMw l gx cO qo y (zWsH y yc yn (some .int) hh) d mk As M v u0) (hn : As.length = n) (hl : ls.size = nL) (hst : st = As.reverse ++ rest) (hW : (rest.map fun v => v.category).sum ≤ 8) (hR : d + 1 ≤ R.frames ∧ 8 + (yn + 11) + 48 * d ≤ R.locals) (hf : cells + mk ≤ R.cells ∧ slots + 6 * mk ≤ R.slots) (hdg : decode cc pc = .ok (.invokestatic index, 3)) :
    va_Run p l e R s m args below meth c H locs cells slots mk (6 * mk) (F0 m pc ls st) rest (va_Qi (fun k (u : zM × Int64) => u0 = (k, u)) (fun u t => zB gx xE 125 u.1 t ∧ va_P gx.1 vwCl [zOut cO qo u.2] t.heap) (zA1 gx qo H.size) As.toArray) (zA1 gx qo H.size) := by
  subst hst
  have hG : GoodIn Ts (zWsH y yc yn (some .int) hh) := by
    intro w hw
    rcases List.mem_cons.mp hw with e | hw
    · rw [e]; exact ⟨E.2.2.2 _ hcode, good_of_word (zT_good _ hcode)⟩
    · exact ⟨E.2.2.2 _ hw, good_of_word (zT_good _ hw)⟩
  have hc : Cond.codeWith y yc yn (some .int) hh ∈ zWsH y yc yn (some .int) hh := List.mem_cons_self
  exact vx_runSW (As := As) (rest := rest) (hh := hh) (bytes := yc) (maxL := yn) (ret := some .int) E.1 (hM H.size) ⟨⟨rfl, rfl, hR.1, hR.2, pay_in E.1.2.2.2.2 hG, hc⟩, E.w hcode, E.w hini, ⟨hd.1, hd.2.1⟩, (fun sig h => by have h2 := hd.2.2; rw [h] at h2; exact (Option.some.inj h2).symm), E.w hlink, E.w hstat⟩
    ⟨zPcw_blind, fun U hU hW => ⟨⟨zPc_of E.2.1 E.2.2.1 (hZ.x A) hU hW, zXs_of hT (hZ.x A) hU hW⟩, by rw [hU]; exact hZ.2.2.1, va_K.moved hW.alike hKo, A.1.2.1, fun z hz => va_Nc.moved hW.alike (hNc z hz)⟩⟩ rfl hn hl rfl (lv_room hW) hdg hf
end ZLAW
