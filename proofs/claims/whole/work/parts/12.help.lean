section ZWE
variable {p : Program} {l : Launch} {e : Env} {R : Room} {s : State} {m : MethodId} {args : Array Value} {below : List Frame} {meth : Method} {c : Code} {H : Heap} {locs : List Loc} {cells slots : Nat} {Q : State → Prop}
variable {cc : ByteArray} {pc : Nat} {ls : Array Slot} {rest st : List Value} {g : zG} {en : zE} {K : Nat} {M : zM} {nL : Nat} {Ts : List Cond} {own : String} {β : Type} {r : β}
theorem znm_ex {α : Type} {a : α} {G : α → Option β} (h : znm a G = some r) : ∃ y, y = a ∧ G y = some r := ⟨a, rfl, h⟩
theorem zciR {u : Int32} {a : Array Value} (hr : va_Run p l e R s m args below meth c H locs cells slots 0 0 (F0 m pc ls st) rest (va_Qi (fun v M1 => v = u ∧ M1 = M) (zB g en K) (zA g K H.size) a) (zA g K H.size)) (hZ : zS g en K s H locs M)
    (kk : ∀ (H1 : Heap) (locs1 : List Loc), zS g en K s H1 locs1 M → W p l e R s m args below meth c H1 locs1 cells slots Q (F0 m (pc + 3) ls (.int u :: rest))) : W p l e R s m args below meth c H locs cells slots Q (F0 m pc ls st) :=
  zci hr hZ (fun v M1 H1 locs1 hp hZ1 => by rw [hp.1]; exact kk H1 locs1 (hp.2 ▸ hZ1))
theorem zclR {u : Int64} {a : Array Value} (hr : va_Run p l e R s m args below meth c H locs cells slots 0 0 (F0 m pc ls st) rest (va_Ql (fun v M1 => v = u ∧ M1 = M) (zB g en K) (zA g K H.size) a) (zA g K H.size)) (hZ : zS g en K s H locs M)
    (kk : ∀ (H1 : Heap) (locs1 : List Loc), zS g en K s H1 locs1 M → W p l e R s m args below meth c H1 locs1 cells slots Q (F0 m (pc + 3) ls (.long u :: rest))) : W p l e R s m args below meth c H locs cells slots Q (F0 m pc ls st) :=
  zcl hr hZ (fun v M1 H1 locs1 hp hZ1 => by rw [hp.1]; exact kk H1 locs1 (hp.2 ▸ hZ1))
theorem zciS {u : Int32 × zM} {a : Array Value} (hr : va_Run p l e R s m args below meth c H locs cells slots 0 0 (F0 m pc ls st) rest (va_Qi (fun v M1 => u = (v, M1)) (zB g en K) (zA g K H.size) a) (zA g K H.size)) (hZ : zS g en K s H locs M)
    (kk : ∀ (H1 : Heap) (locs1 : List Loc), zS g en K s H1 locs1 u.2 → W p l e R s m args below meth c H1 locs1 cells slots Q (F0 m (pc + 3) ls (.int u.1 :: rest))) : W p l e R s m args below meth c H locs cells slots Q (F0 m pc ls st) :=
  zci hr hZ (fun v M1 H1 locs1 hp hZ1 => by subst hp; exact kk H1 locs1 hZ1)
theorem zcvS {u : zM} {a : Array Value} (hr : va_Run p l e R s m args below meth c H locs cells slots 0 0 (F0 m pc ls st) rest (va_Qv (fun M1 => M1 = u) (zB g en K) (zA g K H.size) a) (zA g K H.size)) (hZ : zS g en K s H locs M)
    (kk : ∀ (H1 : Heap) (locs1 : List Loc), zS g en K s H1 locs1 u → W p l e R s m args below meth c H1 locs1 cells slots Q (F0 m (pc + 3) ls rest)) : W p l e R s m args below meth c H locs cells slots Q (F0 m pc ls st) :=
  zcv hr hZ (fun M1 H1 locs1 hp hZ1 => by subst hp; exact kk H1 locs1 hZ1)
theorem zsp {c0 : Prop} [Decidable c0] {A B : Option β} (h : (if c0 then A else B) = some r) : (c0 ∧ A = some r) ∨ (¬ c0 ∧ B = some r) := by
  by_cases q : c0
  · rw [if_pos q] at h; exact Or.inl ⟨q, h⟩
  · rw [if_neg q] at h; exact Or.inr ⟨q, h⟩
theorem zsw_out {x : Int32} {lo hi : Int} (vs : List Int32) (hv : (List.range (hi - lo + 1).toNat).all (fun k => decide (Int32.ofInt (lo + k) ∈ vs)) = true) (hx : x ∉ vs) : x.toInt < lo ∨ hi < x.toInt := by
  rcases (show x.toInt < lo ∨ lo ≤ x.toInt by omega) with h | h
  · exact Or.inl h
  · rcases (show hi < x.toInt ∨ x.toInt ≤ hi by omega) with h2 | h2
    · exact Or.inr h2
    · refine absurd ?_ hx
      have h3 := List.all_eq_true.mp hv (x.toInt - lo).toNat (List.mem_range.mpr (by omega))
      have h4 := of_decide_eq_true h3
      rw [show lo + ((x.toInt - lo).toNat : Int) = x.toInt by omega, Int32.ofInt_toInt] at h4
      exact h4
def zbl (v : Int32) : Bool := decide (v = 0) || decide (v = 1)
theorem zbl_n {v : Int32} (h : zbl v = true) : narrow .boolean (.int v) = .int v := by
  simp only [zbl, Bool.or_eq_true, decide_eq_true_eq] at h
  rcases h with rfl | rfl <;> rfl
theorem zbs {i x : Int32} {n k : Nat} {G : zM → Option β} (h : zck (zin i n) (znm (zu M k i.toNatClampNeg (vp_nar .byte x)) G) = some r) (E : zX g p m c cc nL s args Ts own) (hZ : zS g en K s H locs M) (hk : k < K) (he : ∀ row, en g k row = .inl (g.2.1 3, n, .inl row)) (hdg : decode cc pc = .ok (.bastore, 1))
    (kk : ∀ (M1 : zM) (H1 : Heap) (locs1 : List Loc), M1 = zu M k i.toNatClampNeg (vp_nar .byte x) → G M1 = some r → zS g en K s H1 locs1 M1 → W p l e R s m args below meth c H1 locs1 cells slots Q (F0 m (pc + 1) ls rest)) : W p l e R s m args below meth c H locs cells slots Q (F0 m pc ls (.int x :: .int i :: .ref (g.2.2 k) :: rest)) := by
  refine va_bast E.1.1 E.1.2.1 E.2.1 hZ.1 hZ.2.1 hZ.2.2 k 3 ((zw_at hk).trans (by rw [he])) rfl (zin_of (zck_some h).1) hdg (fun H1 locs1 hP hD hS => ?_)
  have hs : (zw g en K M).set k (g.2.2 k, .inl (g.2.1 3, n, .inl (upd (M k) i.toNatClampNeg (vp_nar .byte x)))) = zw g en K (zu M k i.toNatClampNeg (vp_nar .byte x)) := by rw [← he (upd (M k) i.toNatClampNeg (vp_nar .byte x))]; exact zw_set hk _
  rw [hs] at hP hD
  exact kk _ H1 locs1 rfl (zck_some h).2 ⟨hP, hD, hS⟩
def zcp (sp dp n : Int32) (a b : Nat) : Bool := decide (¬ sp < 0) && (decide (¬ dp < 0) && (decide (¬ n < 0) && (decide (sp.toNatClampNeg + n.toNatClampNeg ≤ a) && decide (dp.toNatClampNeg + n.toNatClampNeg ≤ b))))
theorem zcopy {sp dp n : Int32} {ks kd ns nd index : Nat} {G : zM → Option β} (h : zck (zcp sp dp n ns nd) (znm (va_up M kd (va_cpy (M ks) (M kd) sp.toNatClampNeg dp.toNatClampNeg n.toNatClampNeg)) G) = some r) (E : zX g p m c cc nL s args Ts own) (hZ : zS g en K s H locs M) (hks : ks < K) (hes : ∀ row, en g ks row = .inl (g.2.1 0, ns, .inl row)) (hkd : kd < K) (hed : ∀ row, en g kd row = .inl (g.2.1 0, nd, .inl row))
    (hlink : (Cond.methodLink own index arraycopyName).before args s = true) (hnat : (Cond.native arraycopyName).before args s = true) (hstat : (Cond.static arraycopyName).before args s = true) (hini : (Cond.initialized "java/lang/System").before args s = true) (hl : ls.size = nL) (hframes : 1 ≤ R.frames) (hlocals : (rest.map fun v => v.category).sum + (nativeFrameWords "java/lang/System" "arraycopy" 5 + 11) ≤ R.locals) (hdg : decode cc pc = .ok (.invokestatic index, 3))
    (kk : ∀ (M1 : zM) (H1 : Heap) (locs1 : List Loc), M1 = va_up M kd (va_cpy (M ks) (M kd) sp.toNatClampNeg dp.toNatClampNeg n.toNatClampNeg) → G M1 = some r → zS g en K s H1 locs1 M1 → W p l e R s m args below meth c H1 locs1 cells slots Q (F0 m (pc + 3) ls rest)) : W p l e R s m args below meth c H locs cells slots Q (F0 m pc ls (.int n :: .int dp :: .ref (g.2.2 kd) :: .int sp :: .ref (g.2.2 ks) :: rest)) := by
  obtain ⟨hc, h⟩ := zck_some h
  simp only [zcp, Bool.and_eq_true, decide_eq_true_eq] at hc
  obtain ⟨h1, h2, h3, h4, h5⟩ := hc
  refine va_copyi E.1.1 E.1.2.1 (E.1.2.2.1.trans hl.symm) E.1.2.2.2.1 hlink hnat hstat hini E.2.1 hZ.1 hZ.2.1 hZ.2.2 ks kd 0 0 ((zw_at hks).trans (by rw [hes])) ((zw_at hkd).trans (by rw [hed])) rfl rfl rfl h1 h2 h3 h4 h5 (fun i _ => rfl) hframes hlocals hdg (fun H1 locs1 hP hD hS => ?_)
  have hs := zw_set (g := g) (en := en) (M := M) hkd (va_cpy (M ks) (M kd) sp.toNatClampNeg dp.toNatClampNeg n.toNatClampNeg)
  rw [hed] at hs
  rw [hs] at hP hD
  exact kk _ H1 locs1 rfl h ⟨hP, hD, hS⟩
end ZWE
section ZWF
variable {p : Program} {l : Launch} {e : Env} {R : Room} {s : State} {m : MethodId} {args : Array Value} {below : List Frame} {meth : Method} {c : Code} {H : Heap} {locs : List Loc} {cells slots : Nat} {Q : State → Prop}
variable {cc : ByteArray} {pc : Nat} {ls : Array Slot} {rest st : List Value} {g : zG} {en : zE} {K : Nat} {M : zM} {nL : Nat} {Ts : List Cond} {own : String} {β : Type} {r : β}
theorem zsw_in {x : Int32} {lo hi : Int} (vs : List Int32) (hv : (List.range (hi - lo + 1).toNat).all (fun k => decide (Int32.ofInt (lo + k) ∈ vs)) = true) : (x.toInt < lo ∨ hi < x.toInt) ∨ x ∈ vs := by
  by_cases h : x ∈ vs
  · exact Or.inr h
  · exact Or.inl (zsw_out vs hv h)
/-- a branch on what may be no object -/
def zmo {β : Type} (o : Option Nat) (A : Option β) (B : Nat → Option β) : Option β := match o with
  | none => A
  | some k => B k
theorem zceR {u : Option Nat} {a : Array Value} {A : Option β} {B : Nat → Option β} (h : zmo u A B = some r) (hr : va_Run p l e R s m args below meth c H locs cells slots 0 0 (F0 m pc ls st) rest (va_Qe g.2.2 (fun v M1 => v = u ∧ M1 = M) (zB g en K) (zA g K H.size) a) (zA g K H.size)) (hZ : zS g en K s H locs M)
    (kn : A = some r → ∀ (H1 : Heap) (locs1 : List Loc), zS g en K s H1 locs1 M → W p l e R s m args below meth c H1 locs1 cells slots Q (F0 m (pc + 3) ls (.null :: rest)))
    (ks : ∀ k : Nat, B k = some r → ∀ (H1 : Heap) (locs1 : List Loc), zS g en K s H1 locs1 M → W p l e R s m args below meth c H1 locs1 cells slots Q (F0 m (pc + 3) ls (.ref (g.2.2 k) :: rest))) : W p l e R s m args below meth c H locs cells slots Q (F0 m pc ls st) :=
  zcq hr hZ (fun v M1 H1 locs1 hp hZ1 => by
    obtain ⟨e1, e2⟩ := hp
    subst e1
    have hZ2 : zS g en K s H1 locs1 M := e2 ▸ hZ1
    cases v with
    | none => exact kn h H1 locs1 hZ2
    | some k => exact ks k h H1 locs1 hZ2)
theorem zceS {u : Option Nat × zM} {a : Array Value} {A : Option β} {B : Nat → Option β} (h : zmo u.1 A B = some r) (hr : va_Run p l e R s m args below meth c H locs cells slots 0 0 (F0 m pc ls st) rest (va_Qe g.2.2 (fun v M1 => u = (v, M1)) (zB g en K) (zA g K H.size) a) (zA g K H.size)) (hZ : zS g en K s H locs M)
    (kn : A = some r → ∀ (H1 : Heap) (locs1 : List Loc), zS g en K s H1 locs1 u.2 → W p l e R s m args below meth c H1 locs1 cells slots Q (F0 m (pc + 3) ls (.null :: rest)))
    (ks : ∀ k : Nat, B k = some r → ∀ (H1 : Heap) (locs1 : List Loc), zS g en K s H1 locs1 u.2 → W p l e R s m args below meth c H1 locs1 cells slots Q (F0 m (pc + 3) ls (.ref (g.2.2 k) :: rest))) : W p l e R s m args below meth c H locs cells slots Q (F0 m pc ls st) :=
  zcq hr hZ (fun v M1 H1 locs1 hp hZ1 => by
    subst hp
    cases v with
    | none => exact kn h H1 locs1 hZ1
    | some k => exact ks k h H1 locs1 hZ1)
theorem zin_lt {i : Int32} {n : Nat} (h : zin i n = true) : i.toNatClampNeg < n := by
  simp only [zin, Bool.and_eq_true, decide_eq_true_eq] at h
  exact h.2
theorem zaq {i : Int32} {X : Option β} (h : zck (zin i 12) X = some r) (E : zX g p m c cc nL s args Ts own) (hZ : zS g xE 125 s H locs M) {k : Nat} (hk : k < 125) (hq : xk k = 22) (hdg : decode cc pc = .ok (.aaload, 1))
    (kk : X = some r → W p l e R s m args below meth c H locs cells slots Q (F0 m (pc + 1) ls (.ref (g.2.2 (53 + 6 * i.toNatClampNeg)) :: rest))) : W p l e R s m args below meth c H locs cells slots Q (F0 m pc ls (.int i :: .ref (g.2.2 k) :: rest)) :=
  va_aldq (f := fun i => some (g.2.2 (53 + 6 * i))) E.1.1 E.1.2.1 E.2.1 hZ.1 k 2 ((zw_at hk).trans (by rw [xe_Q hq])) rfl (zin_of (zck_some h).1) hdg (kk (zck_some h).2)
theorem zalQ (E : zX g p m c cc nL s args Ts own) (hZ : zS g xE 125 s H locs M) {k : Nat} (hk : k < 125) (hq : xk k = 22) (hdg : decode cc pc = .ok (.arraylength, 1))
    (kk : W p l e R s m args below meth c H locs cells slots Q (F0 m (pc + 1) ls (.int 12 :: rest))) : W p l e R s m args below meth c H locs cells slots Q (F0 m pc ls (.ref (g.2.2 k) :: rest)) :=
  va_alen E.1.1 E.1.2.1 E.2.1 hZ.1 k 2 ((zw_at hk).trans (by rw [xe_Q hq])) rfl rfl hdg kk
end ZWF
