/-! THE STATE: objects are numbered; object k lies at 'ad k'; what its int fields or its int cells hold is the row M k. References never change once the objects are made. -/
abbrev zM : Type := Nat → Nat → Int32
/-- class numbers and slots; classes of the arrays (0 int, 1 char, 2 World[], 3 byte); addresses -/
abbrev zG : Type := va_G × (Nat → ClassId) × (Nat → Nat)
abbrev zE : Type := zG → Nat → (Nat → Int32) → va_E
def zty (g : zG) : List (ClassId × FieldType) := [(g.2.1 0, .int), (g.2.1 1, .char), (g.2.1 2, .object "TideBook$World"), (g.2.1 3, .byte)]
def zw (g : zG) (en : zE) (K : Nat) (M : zM) : va_W := (List.range K).map (fun k => (g.2.2 k, en g k (M k)))
theorem zw_at {g : zG} {en : zE} {K : Nat} {M : zM} {k : Nat} (h : k < K) : (zw g en K M)[k]? = some (g.2.2 k, en g k (M k)) := by
  simp [zw, h]
theorem zw_set {g : zG} {en : zE} {K : Nat} {M : zM} {k : Nat} (h : k < K) (row : Nat → Int32) : (zw g en K M).set k (g.2.2 k, en g k row) = zw g en K (va_up M k row) := by
  apply List.ext_getElem?
  intro i
  by_cases hi : i = k
  · subst hi
    simp [zw, h, va_up]
  · by_cases hK : i < K
    · simp [zw, List.getElem?_set, Ne.symm hi, va_up, hi, hK]
    · simp [zw, List.getElem?_set, Ne.symm hi, hK]
/-- one cell written -/
def zu (M : zM) (k j : Nat) (v : Int32) : zM := va_up M k (upd (M k) j v)
def zA (g : zG) (K sz : Nat) : Nat → Prop := fun q => (∃ k, k < K ∧ q = g.2.2 k) ∨ sz ≤ q
theorem zA_mono {g : zG} {K a b : Nat} (h : a ≤ b) {q : Nat} (hq : zA g K b q) : zA g K a q := hq.elim Or.inl (fun h1 => Or.inr (Nat.le_trans h h1))
theorem zw_D {g : zG} {en : zE} {K : Nat} {M M' : zM} {A : Nat → Prop} (h : va_D A (zw g en K M)) : va_D A (zw g en K M') := by
  have key : ∀ (k : Nat) (q : Nat × va_E), (zw g en K M')[k]? = some q → ∃ q', (zw g en K M)[k]? = some q' ∧ q'.1 = q.1 := by
    intro k q hk
    by_cases hK : k < K
    · rw [zw_at hK] at hk
      cases hk
      exact ⟨_, zw_at hK, rfl⟩
    · simp [zw, hK] at hk
  refine ⟨fun i j p q hi hj e => ?_, fun k q hk => ?_⟩
  · obtain ⟨p', hp, e1⟩ := key i p hi
    obtain ⟨q', hq, e2⟩ := key j q hj
    exact h.1 i j p' q' hp hq (by rw [e1, e2, e])
  · obtain ⟨q', hq, e1⟩ := key k q hk
    rw [← e1]
    exact h.2 k q' hq
theorem zw_DA {g : zG} {en : zE} {K sz : Nat} {M : zM} {A : Nat → Prop} (h : va_D A (zw g en K M)) : va_D (zA g K sz) (zw g en K M) := by
  refine ⟨h.1, fun k q hk => ?_⟩
  by_cases hK : k < K
  · rw [zw_at hK] at hk
    cases hk
    exact Or.inl ⟨k, hK, rfl⟩
  · simp [zw, hK] at hk
/-- words that the kit carries apart: links of private methods of nest mates, casts, declarations -/
def zNl : List Cond := tables_1.filter (fun w => match w with | .methodLinkNest .. => true | .castable .. => true | .declares .. => true | _ => false)
def zN (U : State) : Prop := ∀ w ∈ zNl, va_Nw w U
theorem zN.warm {s U : State} (hW : s.WarmedH U.vm) (h : zN s) : zN U := by
  intro w hw
  have h1 := h w hw
  obtain ⟨-, h2⟩ := List.mem_filter.mp hw
  cases w <;> first | (simp at h2; done) | exact va_Nw.warmM hW h1 | exact va_Nw.warmC hW h1 | exact va_Nw.warmD hW h1
theorem zN.same {s U : State} (hv : s.vm = U.vm) (h : zN s) : zN U := by
  intro w hw
  have h1 := h w hw
  obtain ⟨-, h2⟩ := List.mem_filter.mp hw
  cases w <;> first | (simp at h2; done) | exact va_Nw.same rfl hv h1
theorem zNl_of {a : String} {i : Nat} {y : MethodName} {h : String} (hm : Cond.methodLinkNest a i y h ∈ tables_1) : Cond.methodLinkNest a i y h ∈ zNl := List.mem_filter.mpr ⟨hm, rfl⟩
/-- the state while a method runs -/
def zS (g : zG) (en : zE) (K : Nat) (s : State) (H : Heap) (locs : List Loc) (M : zM) : Prop := va_P g.1 vwCl (zw g en K M) H ∧ va_D (zA g K s.heap.size) (zw g en K M) ∧ va_S (zA g K s.heap.size) s.heap H locs
/-- what holds of a running method whatever it does -/
def zX (g : zG) (p : Program) (m : MethodId) (c : Code) (cc : ByteArray) (nL : Nat) (s : State) (args : Array Value) (Ts : List Cond) (own : String) : Prop := CallFix p m c cc nL s args Ts own ∧ va_K g.1 vwCl (zty g) s ∧ zN s ∧ ∀ w ∈ zT, w ∈ Ts
def zPc (g : zG) (en : zE) (K : Nat) (av : List Value) (M : zM) (sz : Nat) : Array Value → State → Prop := va_Pc av (fun U => U.heap.size = sz ∧ va_P g.1 vwCl (zw g en K M) U.heap ∧ va_K g.1 vwCl (zty g) U ∧ va_D (fun _ => True) (zw g en K M) ∧ zN U)
def zB (g : zG) (en : zE) (K : Nat) (M : zM) (t : State) : Prop := va_P g.1 vwCl (zw g en K M) t.heap
theorem zPc_blind {g : zG} {en : zE} {K : Nat} {av : List Value} {M : zM} {sz : Nat} : FrameBlind (zPc g en K av M sz) := by
  intro a U f mk q
  obtain ⟨q0, q1, qP, qK, qD, qN⟩ := q
  exact ⟨q0, q1, qP, va_K.moved (u := U) (U := U.calling f mk a) (Vm.Alike.refl U.vm) qK, qD, zN.same (s := U) rfl qN⟩
theorem zPc_of {g : zG} {en : zE} {K : Nat} {av : List Value} {M : zM} {s U : State} {H : Heap} {locs : List Loc} (hK : va_K g.1 vwCl (zty g) s) (hN : zN s) (hZ : zS g en K s H locs M) (hU : U.heap = H) (hW : s.WarmedH U.vm) : zPc g en K av M H.size av.toArray U :=
  ⟨rfl, by rw [hU], by rw [hU]; exact hZ.1, va_K.moved hW.alike hK, hZ.2.1.weaken (fun _ _ _ _ => trivial), hN.warm hW⟩
/-- words of a method: its own code, then all -/
def zWs (y : MethodName) (cc : ByteArray) (n : Nat) (r : Option FieldType) : List Cond := Cond.code y cc n r :: zT
theorem zGood {y : MethodName} {cc : ByteArray} {n : Nat} {r : Option FieldType} {Ts : List Cond} (hT : ∀ w ∈ zT, w ∈ Ts) (h : Cond.code y cc n r ∈ zT) : GoodIn Ts (zWs y cc n r) := by
  intro w hw
  rcases List.mem_cons.mp hw with e | hw
  · rw [e]; exact ⟨hT _ h, good_of_word (zT_good _ h)⟩
  · exact ⟨hT _ hw, good_of_word (zT_good _ hw)⟩
/-- a callee by its name: code, class, kind -/
def zYV (y : MethodName) (cc : ByteArray) (n : Nat) (r : Option FieldType) (k : Nat) : Prop := Cond.code y cc n r ∈ zT ∧ Cond.initialized y.cls ∈ zT ∧ Cond.instanceMethod y ∈ zT ∧ Cond.selects y.cls y y ∈ zT ∧ (y.cls ≠ "java/lang/invoke/MethodHandle" ∧ y.cls ≠ "java/lang/invoke/VarHandle" ∧ (parseMethodDescriptor y.desc).map (fun d => d.parameters.length) = some k)
def zYS (y : MethodName) (cc : ByteArray) (n : Nat) (r : Option FieldType) (k : Nat) : Prop := Cond.code y cc n r ∈ zT ∧ Cond.initialized y.cls ∈ zT ∧ Cond.static y ∈ zT ∧ (y.cls ≠ "java/lang/invoke/MethodHandle" ∧ y.cls ≠ "java/lang/invoke/VarHandle" ∧ (parseMethodDescriptor y.desc).map (fun d => d.parameters.length) = some k)
/-- the room of a method d calls deep that makes no cell -/
def zrm (d c n : Nat) : Room := { frames := d, cells := c, slots := n, locals := 48 * d }
/-- contracts: of methods that make nothing and throw nothing -/
def zMi (l : Launch) (g : zG) (en : zE) (K : Nat) (y : MethodName) (ws : List Cond) (d : Nat) (av : List Value) (M : zM) (P : Int32 → zM → Prop) : Prop := ∀ sz : Nat, Met l y ws (zrm d 0 0) (zPc g en K av M sz) (va_Qi P (zB g en K) (zA g K sz)) 0 0 (zA g K sz)
def zMl (l : Launch) (g : zG) (en : zE) (K : Nat) (y : MethodName) (ws : List Cond) (d : Nat) (av : List Value) (M : zM) (P : Int64 → zM → Prop) : Prop := ∀ sz : Nat, Met l y ws (zrm d 0 0) (zPc g en K av M sz) (va_Ql P (zB g en K) (zA g K sz)) 0 0 (zA g K sz)
def zMv (l : Launch) (g : zG) (en : zE) (K : Nat) (y : MethodName) (ws : List Cond) (d : Nat) (av : List Value) (M : zM) (P : zM → Prop) : Prop := ∀ sz : Nat, Met l y ws (zrm d 0 0) (zPc g en K av M sz) (va_Qv P (zB g en K) (zA g K sz)) 0 0 (zA g K sz)
def zMq (l : Launch) (g : zG) (en : zE) (K : Nat) (y : MethodName) (ws : List Cond) (d : Nat) (av : List Value) (M : zM) (P : Option Nat → zM → Prop) : Prop := ∀ sz : Nat, Met l y ws (zrm d 0 0) (zPc g en K av M sz) (va_Qe g.2.2 P (zB g en K) (zA g K sz)) 0 0 (zA g K sz)
/-! the forms of the printed functions: a test that the machine makes, a name, a sequel -/
def zck {α : Type} (b : Bool) (x : Option α) : Option α := bif b then x else none
theorem zck_some {α : Type} {b : Bool} {x : Option α} {r : α} (h : zck b x = some r) : b = true ∧ x = some r := by
  cases b
  · cases h
  · exact ⟨rfl, h⟩
def znm {α β : Type} (a : α) (f : α → β) : β := f a
def zbn {α β : Type} (x : Option α) (f : α → Option β) : Option β := x.bind f
theorem zbn_some {α β : Type} {x : Option α} {f : α → Option β} {r : β} (h : zbn x f = some r) : ∃ a, x = some a ∧ f a = some r := by
  cases x with
  | none => cases h
  | some a => exact ⟨a, rfl, h⟩
def zin (i : Int32) (n : Nat) : Bool := decide (0 ≤ i) && decide (i.toNatClampNeg < n)
theorem zin_of {i : Int32} {n : Nat} (h : zin i n = true) : vp_in i n := by
  simp only [zin, Bool.and_eq_true, decide_eq_true_eq] at h
  intro q
  rcases q with q | q
  · exact absurd h.1 (Int32.not_le.mpr q)
  · omega
