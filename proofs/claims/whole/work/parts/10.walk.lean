section ZWA
variable {p : Program} {l : Launch} {e : Env} {R : Room} {s : State} {m : MethodId} {args : Array Value} {below : List Frame} {meth : Method} {c : Code} {H : Heap} {locs : List Loc} {cells slots : Nat} {Q : State → Prop}
variable {cc : ByteArray} {pc : Nat} {ls : Array Slot} {rest : List Value} {g : zG} {en : zE} {K : Nat} {M : zM} {nL : Nat} {Ts : List Cond} {own : String} {β : Type} {r : β}
/-- a class of the tables: its number, its fields -/
def zKc (ci : Nat) (C : String) (T : u_T) (N : Nat) (ty : Nat → FieldType) : Prop := vwCl[ci]? = some (C, T, N) ∧ (∀ w ∈ u_ws C T N, w ∈ zT) ∧ (∀ k, k < N → parseFieldDescriptor (T k).2.2.1 = some (ty k)) ∧ (∀ a, a < N → ∀ b, b < N → a ≠ b → (T a).2.1 ≠ (T b).2.1)
theorem zX.w (E : zX g p m c cc nL s args Ts own) {w : Cond} (h : w ∈ zT) : w.before args s = true := E.1.2.2.2.2 _ (E.2.2.2 _ h)
theorem zg (E : zX g p m c cc nL s args Ts own) (hZ : zS g en K s H locs M) {k ci : Nat} {fs : List Value} (hk : k < K) (he : en g k (M k) = .inr (ci, fs)) {C : String} {T : u_T} {N : Nat} {ty : Nat → FieldType} (hc : zKc ci C T N ty) (j : Nat) (hj : j < N) {index : Nat} {nm ds : String} {fin : Bool} (hlink : Cond.fieldLink own index C nm ds ∈ zT) (hT : T j = (C, nm, ds, fin)) {v : Value} (hv : fs[j]? = some v) (hdg : decode cc pc = .ok (.getfield index, 3))
    (kk : W p l e R s m args below meth c H locs cells slots Q (F0 m (pc + 3) ls (v :: rest))) : W p l e R s m args below meth c H locs cells slots Q (F0 m pc ls (.ref (g.2.2 k) :: rest)) :=
  va_get E.1.1 E.1.2.1 (fun w h => E.1.2.2.2.2 w h) (fun w h => E.2.2.2 _ (hc.2.1 w h)) E.1.2.2.2.1 E.2.1 hZ.1 k ((zw_at hk).trans (by rw [he])) hc.1 j hj (ref := C) (by rw [hT]; exact E.w hlink) (fun x h => by rw [hT] at h ⊢; exact h) hv hdg kk
theorem zp {k ci j : Nat} {v : Int32} {G : zM → Option β} (h : znm (zu M k j v) G = some r) (E : zX g p m c cc nL s args Ts own) (hZ : zS g en K s H locs M) {fs : List Value} (hk : k < K) (he : en g k (M k) = .inr (ci, fs)) (he2 : en g k (upd (M k) j v) = .inr (ci, fs.set j (.int v))) {C : String} {T : u_T} {N : Nat} {ty : Nat → FieldType} (hc : zKc ci C T N ty) (hj : j < N) {index : Nat} {nm ds : String} (hlink : Cond.fieldLink own index C nm ds ∈ zT) (hT : T j = (C, nm, ds, false)) (hn : narrow (ty j) (.int v) = .int v) (hfit : fits (ty j) (.int v) = true) (hl : j < fs.length) (hdg : decode cc pc = .ok (.putfield index, 3))
    (kk : ∀ (M1 : zM) (H1 : Heap) (locs1 : List Loc), M1 = zu M k j v → G M1 = some r → zS g en K s H1 locs1 M1 → W p l e R s m args below meth c H1 locs1 cells slots Q (F0 m (pc + 3) ls rest)) : W p l e R s m args below meth c H locs cells slots Q (F0 m pc ls (.int v :: .ref (g.2.2 k) :: rest)) := by
  refine va_put (v := .int v) (ty := ty j) E.1.1 E.1.2.1 (fun w h => E.1.2.2.2.2 w h) (fun w h => E.2.2.2 _ (hc.2.1 w h)) ty hc.2.2.1 hc.2.2.2 E.1.2.2.2.1 E.2.1 hZ.1 hZ.2.1 hZ.2.2 k ((zw_at hk).trans (by rw [he])) hc.1 j hj (ref := C) (by rw [hT]; exact E.w hlink) (fun x h => by rw [hT] at h ⊢; exact h) (by rw [hT]) (hc.2.2.1 j hj) hn hfit hl hdg (fun H1 locs1 hP hD hS => ?_)
  have hs : (zw g en K M).set k (g.2.2 k, .inr (ci, fs.set j (.int v))) = zw g en K (zu M k j v) := by rw [← he2]; exact zw_set hk _
  rw [hs] at hP hD
  exact kk _ H1 locs1 rfl h ⟨hP, hD, hS⟩
theorem zia {i : Int32} {n k : Nat} {X : Option β} (h : zck (zin i n) X = some r) (E : zX g p m c cc nL s args Ts own) (hZ : zS g en K s H locs M) (hk : k < K) (he : ∀ row, en g k row = .inl (g.2.1 0, n, .inl row)) (hdg : decode cc pc = .ok (.iaload, 1))
    (kk : X = some r → W p l e R s m args below meth c H locs cells slots Q (F0 m (pc + 1) ls (.int (M k i.toNatClampNeg) :: rest))) : W p l e R s m args below meth c H locs cells slots Q (F0 m pc ls (.int i :: .ref (g.2.2 k) :: rest)) :=
  va_iald E.1.1 E.1.2.1 E.2.1 hZ.1 k 0 ((zw_at hk).trans (by rw [he])) rfl (zin_of (zck_some h).1) hdg (kk (zck_some h).2)
theorem zba {i : Int32} {n k : Nat} {X : Option β} (h : zck (zin i n) X = some r) (E : zX g p m c cc nL s args Ts own) (hZ : zS g en K s H locs M) (hk : k < K) (he : ∀ row, en g k row = .inl (g.2.1 3, n, .inl row)) (hdg : decode cc pc = .ok (.baload, 1))
    (kk : X = some r → W p l e R s m args below meth c H locs cells slots Q (F0 m (pc + 1) ls (.int (M k i.toNatClampNeg) :: rest))) : W p l e R s m args below meth c H locs cells slots Q (F0 m pc ls (.int i :: .ref (g.2.2 k) :: rest)) :=
  va_bald E.1.1 E.1.2.1 E.2.1 hZ.1 k 3 ((zw_at hk).trans (by rw [he])) rfl (zin_of (zck_some h).1) hdg (kk (zck_some h).2)
theorem zca {i : Int32} {n k : Nat} {X : Option β} (h : zck (zin i n) X = some r) (E : zX g p m c cc nL s args Ts own) (hZ : zS g en K s H locs M) (hk : k < K) (he : ∀ row, en g k row = .inl (g.2.1 1, n, .inl row)) (hdg : decode cc pc = .ok (.caload, 1))
    (kk : X = some r → W p l e R s m args below meth c H locs cells slots Q (F0 m (pc + 1) ls (.int (M k i.toNatClampNeg) :: rest))) : W p l e R s m args below meth c H locs cells slots Q (F0 m pc ls (.int i :: .ref (g.2.2 k) :: rest)) :=
  va_cald E.1.1 E.1.2.1 E.2.1 hZ.1 k 1 ((zw_at hk).trans (by rw [he])) rfl (zin_of (zck_some h).1) hdg (kk (zck_some h).2)
theorem zis {i x : Int32} {n k : Nat} {G : zM → Option β} (h : zck (zin i n) (znm (zu M k i.toNatClampNeg x) G) = some r) (E : zX g p m c cc nL s args Ts own) (hZ : zS g en K s H locs M) (hk : k < K) (he : ∀ row, en g k row = .inl (g.2.1 0, n, .inl row)) (hdg : decode cc pc = .ok (.iastore, 1))
    (kk : ∀ (M1 : zM) (H1 : Heap) (locs1 : List Loc), M1 = zu M k i.toNatClampNeg x → G M1 = some r → zS g en K s H1 locs1 M1 → W p l e R s m args below meth c H1 locs1 cells slots Q (F0 m (pc + 1) ls rest)) : W p l e R s m args below meth c H locs cells slots Q (F0 m pc ls (.int x :: .int i :: .ref (g.2.2 k) :: rest)) := by
  refine va_iast E.1.1 E.1.2.1 E.2.1 hZ.1 hZ.2.1 hZ.2.2 k 0 ((zw_at hk).trans (by rw [he])) rfl (zin_of (zck_some h).1) hdg (fun H1 locs1 hP hD hS => ?_)
  have hs : (zw g en K M).set k (g.2.2 k, .inl (g.2.1 0, n, .inl (upd (M k) i.toNatClampNeg x))) = zw g en K (zu M k i.toNatClampNeg x) := by rw [← he (upd (M k) i.toNatClampNeg x)]; exact zw_set hk _
  rw [hs] at hP hD
  exact kk _ H1 locs1 rfl (zck_some h).2 ⟨hP, hD, hS⟩
theorem zal {n k : Nat} {v : Int32} (E : zX g p m c cc nL s args Ts own) (hZ : zS g en K s H locs M) (t0 : Nat) {cA : ClassId} {ty : FieldType} (ht : (zty g)[t0]? = some (cA, ty)) (hk : k < K) (he : ∀ row, en g k row = .inl (cA, n, .inl row)) (hv : Int32.ofNat n = v) (hdg : decode cc pc = .ok (.arraylength, 1))
    (kk : W p l e R s m args below meth c H locs cells slots Q (F0 m (pc + 1) ls (.int v :: rest))) : W p l e R s m args below meth c H locs cells slots Q (F0 m pc ls (.ref (g.2.2 k) :: rest)) :=
  va_alen E.1.1 E.1.2.1 E.2.1 hZ.1 k t0 ((zw_at hk).trans (by rw [he])) ht hv hdg kk
/-! names and branches -/
theorem zni {x : Int32} {G : Int32 → Option β} (h : znm x G = some r) (kk : ∀ y : Int32, y = x → G y = some r → W p l e R s m args below meth c H locs cells slots Q (F0 m pc ls (.int y :: rest))) : W p l e R s m args below meth c H locs cells slots Q (F0 m pc ls (.int x :: rest)) := kk x rfl h
theorem znl {x : Int64} {G : Int64 → Option β} (h : znm x G = some r) (kk : ∀ y : Int64, y = x → G y = some r → W p l e R s m args below meth c H locs cells slots Q (F0 m pc ls (.long y :: rest))) : W p l e R s m args below meth c H locs cells slots Q (F0 m pc ls (.long x :: rest)) := kk x rfl h
theorem zdv {x y : Int32} {X : Option β} (h : zck (decide (¬ y = 0)) X = some r) (E : zX g p m c cc nL s args Ts own) (hdg : decode cc pc = .ok (.idiv, 1)) (kk : X = some r → W p l e R s m args below meth c H locs cells slots Q (F0 m (pc + 1) ls (.int (x / y) :: rest))) : W p l e R s m args below meth c H locs cells slots Q (F0 m pc ls (.int y :: .int x :: rest)) :=
  lv_idiv E.1.1 E.1.2.1 hdg (of_decide_eq_true (zck_some h).1) (kk (zck_some h).2)
theorem zrem {x y : Int32} {X : Option β} (h : zck (decide (¬ y = 0)) X = some r) (E : zX g p m c cc nL s args Ts own) (hdg : decode cc pc = .ok (.irem, 1)) (kk : X = some r → W p l e R s m args below meth c H locs cells slots Q (F0 m (pc + 1) ls (.int (x - x / y * y) :: rest))) : W p l e R s m args below meth c H locs cells slots Q (F0 m pc ls (.int y :: .int x :: rest)) :=
  lv_irem E.1.1 E.1.2.1 hdg (of_decide_eq_true (zck_some h).1) (kk (zck_some h).2)
theorem zldv {x y : Int64} {X : Option β} (h : zck (decide (¬ y = 0)) X = some r) (E : zX g p m c cc nL s args Ts own) (hdg : decode cc pc = .ok (.ldiv, 1)) (kk : X = some r → W p l e R s m args below meth c H locs cells slots Q (F0 m (pc + 1) ls (.long (x / y) :: rest))) : W p l e R s m args below meth c H locs cells slots Q (F0 m pc ls (.long y :: .long x :: rest)) :=
  lv_ldiv E.1.1 E.1.2.1 hdg (of_decide_eq_true (zck_some h).1) (kk (zck_some h).2)
theorem zite {c0 : Prop} [Decidable c0] {A B : Option β} {X Y : Prop} (h : (if c0 then A else B) = some r) (a : c0 → A = some r → X) (b : ¬ c0 → B = some r → Y) : (c0 → X) ∧ (¬ c0 → Y) := ⟨fun q => a q (by rw [if_pos q] at h; exact h), fun q => b q (by rw [if_neg q] at h; exact h)⟩
end ZWA
section ZWB
variable {p : Program} {l : Launch} {e : Env} {R : Room} {s : State} {m : MethodId} {args : Array Value} {below : List Frame} {meth : Method} {c : Code} {H : Heap} {locs : List Loc} {cells slots : Nat} {Q : State → Prop}
variable {cc : ByteArray} {pc : Nat} {ls : Array Slot} {rest : List Value} {g : zG} {nL : Nat} {Ts : List Cond} {own : String} {β : Type} {r : β}
theorem zif_eq {x : Int32} {off : Int} {tgt : Nat} {A B : Option β} (h : (if x = 0 then A else B) = some r) (E : zX g p m c cc nL s args Ts own) (hdg : decode cc pc = .ok (.ifCond .eq off, 3)) (ht : (pc : Int) + off = (tgt : Int)) (kt : x = 0 → A = some r → W p l e R s m args below meth c H locs cells slots Q (F0 m tgt ls rest)) (kf : ¬ (x = 0) → B = some r → W p l e R s m args below meth c H locs cells slots Q (F0 m (pc + 3) ls rest)) : W p l e R s m args below meth c H locs cells slots Q (F0 m pc ls (.int x :: rest)) := lv_if_eq E.1.1 E.1.2.1 hdg ht (zite h kt kf).1 (zite h kt kf).2
theorem zif_ne {x : Int32} {off : Int} {tgt : Nat} {A B : Option β} (h : (if x = 0 then B else A) = some r) (E : zX g p m c cc nL s args Ts own) (hdg : decode cc pc = .ok (.ifCond .ne off, 3)) (ht : (pc : Int) + off = (tgt : Int)) (kt : ¬ x = 0 → A = some r → W p l e R s m args below meth c H locs cells slots Q (F0 m tgt ls rest)) (kf : x = 0 → B = some r → W p l e R s m args below meth c H locs cells slots Q (F0 m (pc + 3) ls rest)) : W p l e R s m args below meth c H locs cells slots Q (F0 m pc ls (.int x :: rest)) := lv_if_ne E.1.1 E.1.2.1 hdg ht (zite h kf kt).2 (zite h kf kt).1
theorem zif_lt {x : Int32} {off : Int} {tgt : Nat} {A B : Option β} (h : (if x < 0 then A else B) = some r) (E : zX g p m c cc nL s args Ts own) (hdg : decode cc pc = .ok (.ifCond .lt off, 3)) (ht : (pc : Int) + off = (tgt : Int)) (kt : x < 0 → A = some r → W p l e R s m args below meth c H locs cells slots Q (F0 m tgt ls rest)) (kf : ¬ (x < 0) → B = some r → W p l e R s m args below meth c H locs cells slots Q (F0 m (pc + 3) ls rest)) : W p l e R s m args below meth c H locs cells slots Q (F0 m pc ls (.int x :: rest)) := lv_if_lt E.1.1 E.1.2.1 hdg ht (zite h kt kf).1 (zite h kt kf).2
theorem zif_ge {x : Int32} {off : Int} {tgt : Nat} {A B : Option β} (h : (if 0 ≤ x then A else B) = some r) (E : zX g p m c cc nL s args Ts own) (hdg : decode cc pc = .ok (.ifCond .ge off, 3)) (ht : (pc : Int) + off = (tgt : Int)) (kt : 0 ≤ x → A = some r → W p l e R s m args below meth c H locs cells slots Q (F0 m tgt ls rest)) (kf : ¬ (0 ≤ x) → B = some r → W p l e R s m args below meth c H locs cells slots Q (F0 m (pc + 3) ls rest)) : W p l e R s m args below meth c H locs cells slots Q (F0 m pc ls (.int x :: rest)) := lv_if_ge E.1.1 E.1.2.1 hdg ht (zite h kt kf).1 (zite h kt kf).2
theorem zif_gt {x : Int32} {off : Int} {tgt : Nat} {A B : Option β} (h : (if 0 < x then A else B) = some r) (E : zX g p m c cc nL s args Ts own) (hdg : decode cc pc = .ok (.ifCond .gt off, 3)) (ht : (pc : Int) + off = (tgt : Int)) (kt : 0 < x → A = some r → W p l e R s m args below meth c H locs cells slots Q (F0 m tgt ls rest)) (kf : ¬ (0 < x) → B = some r → W p l e R s m args below meth c H locs cells slots Q (F0 m (pc + 3) ls rest)) : W p l e R s m args below meth c H locs cells slots Q (F0 m pc ls (.int x :: rest)) := lv_if_gt E.1.1 E.1.2.1 hdg ht (zite h kt kf).1 (zite h kt kf).2
theorem zif_le {x : Int32} {off : Int} {tgt : Nat} {A B : Option β} (h : (if x ≤ 0 then A else B) = some r) (E : zX g p m c cc nL s args Ts own) (hdg : decode cc pc = .ok (.ifCond .le off, 3)) (ht : (pc : Int) + off = (tgt : Int)) (kt : x ≤ 0 → A = some r → W p l e R s m args below meth c H locs cells slots Q (F0 m tgt ls rest)) (kf : ¬ (x ≤ 0) → B = some r → W p l e R s m args below meth c H locs cells slots Q (F0 m (pc + 3) ls rest)) : W p l e R s m args below meth c H locs cells slots Q (F0 m pc ls (.int x :: rest)) := lv_if_le E.1.1 E.1.2.1 hdg ht (zite h kt kf).1 (zite h kt kf).2
theorem zic_eq {x y : Int32} {off : Int} {tgt : Nat} {A B : Option β} (h : (if x = y then A else B) = some r) (E : zX g p m c cc nL s args Ts own) (hdg : decode cc pc = .ok (.if_icmp .eq off, 3)) (ht : (pc : Int) + off = (tgt : Int)) (kt : x = y → A = some r → W p l e R s m args below meth c H locs cells slots Q (F0 m tgt ls rest)) (kf : ¬ (x = y) → B = some r → W p l e R s m args below meth c H locs cells slots Q (F0 m (pc + 3) ls rest)) : W p l e R s m args below meth c H locs cells slots Q (F0 m pc ls (.int y :: .int x :: rest)) := lv_icmp_eq E.1.1 E.1.2.1 hdg ht (zite h kt kf).1 (zite h kt kf).2
theorem zic_ne {x y : Int32} {off : Int} {tgt : Nat} {A B : Option β} (h : (if x = y then B else A) = some r) (E : zX g p m c cc nL s args Ts own) (hdg : decode cc pc = .ok (.if_icmp .ne off, 3)) (ht : (pc : Int) + off = (tgt : Int)) (kt : ¬ x = y → A = some r → W p l e R s m args below meth c H locs cells slots Q (F0 m tgt ls rest)) (kf : x = y → B = some r → W p l e R s m args below meth c H locs cells slots Q (F0 m (pc + 3) ls rest)) : W p l e R s m args below meth c H locs cells slots Q (F0 m pc ls (.int y :: .int x :: rest)) := lv_icmp_ne E.1.1 E.1.2.1 hdg ht (zite h kf kt).2 (zite h kf kt).1
theorem zic_lt {x y : Int32} {off : Int} {tgt : Nat} {A B : Option β} (h : (if x < y then A else B) = some r) (E : zX g p m c cc nL s args Ts own) (hdg : decode cc pc = .ok (.if_icmp .lt off, 3)) (ht : (pc : Int) + off = (tgt : Int)) (kt : x < y → A = some r → W p l e R s m args below meth c H locs cells slots Q (F0 m tgt ls rest)) (kf : ¬ (x < y) → B = some r → W p l e R s m args below meth c H locs cells slots Q (F0 m (pc + 3) ls rest)) : W p l e R s m args below meth c H locs cells slots Q (F0 m pc ls (.int y :: .int x :: rest)) := lv_icmp_lt E.1.1 E.1.2.1 hdg ht (zite h kt kf).1 (zite h kt kf).2
theorem zic_ge {x y : Int32} {off : Int} {tgt : Nat} {A B : Option β} (h : (if y ≤ x then A else B) = some r) (E : zX g p m c cc nL s args Ts own) (hdg : decode cc pc = .ok (.if_icmp .ge off, 3)) (ht : (pc : Int) + off = (tgt : Int)) (kt : y ≤ x → A = some r → W p l e R s m args below meth c H locs cells slots Q (F0 m tgt ls rest)) (kf : ¬ (y ≤ x) → B = some r → W p l e R s m args below meth c H locs cells slots Q (F0 m (pc + 3) ls rest)) : W p l e R s m args below meth c H locs cells slots Q (F0 m pc ls (.int y :: .int x :: rest)) := lv_icmp_ge E.1.1 E.1.2.1 hdg ht (zite h kt kf).1 (zite h kt kf).2
theorem zic_gt {x y : Int32} {off : Int} {tgt : Nat} {A B : Option β} (h : (if y < x then A else B) = some r) (E : zX g p m c cc nL s args Ts own) (hdg : decode cc pc = .ok (.if_icmp .gt off, 3)) (ht : (pc : Int) + off = (tgt : Int)) (kt : y < x → A = some r → W p l e R s m args below meth c H locs cells slots Q (F0 m tgt ls rest)) (kf : ¬ (y < x) → B = some r → W p l e R s m args below meth c H locs cells slots Q (F0 m (pc + 3) ls rest)) : W p l e R s m args below meth c H locs cells slots Q (F0 m pc ls (.int y :: .int x :: rest)) := lv_icmp_gt E.1.1 E.1.2.1 hdg ht (zite h kt kf).1 (zite h kt kf).2
theorem zic_le {x y : Int32} {off : Int} {tgt : Nat} {A B : Option β} (h : (if x ≤ y then A else B) = some r) (E : zX g p m c cc nL s args Ts own) (hdg : decode cc pc = .ok (.if_icmp .le off, 3)) (ht : (pc : Int) + off = (tgt : Int)) (kt : x ≤ y → A = some r → W p l e R s m args below meth c H locs cells slots Q (F0 m tgt ls rest)) (kf : ¬ (x ≤ y) → B = some r → W p l e R s m args below meth c H locs cells slots Q (F0 m (pc + 3) ls rest)) : W p l e R s m args below meth c H locs cells slots Q (F0 m pc ls (.int y :: .int x :: rest)) := lv_icmp_le E.1.1 E.1.2.1 hdg ht (zite h kt kf).1 (zite h kt kf).2
end ZWB
section ZWC
variable {p : Program} {l : Launch} {e : Env} {R : Room} {s : State} {m : MethodId} {args : Array Value} {below : List Frame} {meth : Method} {c : Code} {H : Heap} {locs : List Loc} {cells slots : Nat} {Q : State → Prop}
variable {cc : ByteArray} {pc : Nat} {ls : Array Slot} {rest : List Value} {g : zG} {en : zE} {K : Nat} {M : zM} {nL : Nat} {Ts : List Cond} {own : String} {β : Type} {r : β}
variable {y : MethodName} {yc : ByteArray} {yn n d mc ms index : Nat} {yr : Option FieldType} {Qc : Array Value → State → Outcome → State → Prop} {free : Addr → Prop} {As st : List Value}
theorem zrunV {k ci : Nat} {fs : List Value} {q : vw_C} (E : zX g p m c cc nL s args Ts own) (hZ : zS g en K s H locs M) (hk : k < K) (he : en g k (M k) = .inr (ci, fs)) (hci : vwCl[ci]? = some q) (hq : q.1 = y.cls) (hY : zYV y yc yn yr n) (hlink : Cond.methodLink own index y ∈ zT)
    (hM : Met l y (zWs y yc yn yr) (zrm d mc ms) (zPc g en K (.ref (g.2.2 k) :: As) M H.size) Qc mc ms free) (hn : As.length = n) (hl : ls.size = nL) (hst : st = As.reverse ++ .ref (g.2.2 k) :: rest) (hW : (rest.map fun v => v.category).sum ≤ 8) (hR : d + 1 ≤ R.frames ∧ 8 + (yn + 11) + 48 * d ≤ R.locals) (hf : cells + mc ≤ R.cells ∧ slots + ms ≤ R.slots) (hdg : decode cc pc = .ok (.invokevirtual index, 3)) :
    va_Run p l e R s m args below meth c H locs cells slots mc ms (F0 m pc ls st) rest (Qc (Value.ref (g.2.2 k) :: As).toArray) free := by
  subst hst
  obtain ⟨q1, q2, q3⟩ := q
  have hq : q1 = y.cls := hq
  subst hq
  exact va_runV (C := y.cls) (As := As) (rest := rest) E.1 hM ⟨callB_of n E.1.2.2.2.2 (zGood E.2.2.2 hY.1) rfl rfl rfl (E.w hY.2.1) (E.w hlink) hY.2.2.2.2 hR, E.w hY.2.2.1, E.w hY.2.2.2.1⟩ ⟨zPc_blind, va_recv E.2.1 hZ.1 hci ((zw_at hk).trans (by rw [he])), fun U hU hW => zPc_of E.2.1 E.2.2.1 hZ hU hW⟩ rfl hn hl rfl (lv_room hW) hdg hf
theorem zrunS (E : zX g p m c cc nL s args Ts own) (hZ : zS g en K s H locs M) (hY : zYS y yc yn yr n) (hlink : Cond.methodLink own index y ∈ zT)
    (hM : Met l y (zWs y yc yn yr) (zrm d mc ms) (zPc g en K As M H.size) Qc mc ms free) (hn : As.length = n) (hl : ls.size = nL) (hst : st = As.reverse ++ rest) (hW : (rest.map fun v => v.category).sum ≤ 8) (hR : d + 1 ≤ R.frames ∧ 8 + (yn + 11) + 48 * d ≤ R.locals) (hf : cells + mc ≤ R.cells ∧ slots + ms ≤ R.slots) (hdg : decode cc pc = .ok (.invokestatic index, 3)) :
    va_Run p l e R s m args below meth c H locs cells slots mc ms (F0 m pc ls st) rest (Qc As.toArray) free := by
  subst hst
  exact va_runS (As := As) (rest := rest) E.1 hM ⟨callB_of n E.1.2.2.2.2 (zGood E.2.2.2 hY.1) rfl rfl rfl (E.w hY.2.1) (E.w hlink) hY.2.2.2 hR, E.w hY.2.2.1⟩ ⟨zPc_blind, fun U hU hW => zPc_of E.2.1 E.2.2.1 hZ hU hW⟩ rfl hn hl rfl (lv_room hW) hdg hf
theorem zrunSN {host : String} (E : zX g p m c cc nL s args Ts own) (hZ : zS g en K s H locs M) (hY : zYS y yc yn yr n) (hlink : Cond.methodLinkNest own index y host ∈ tables_1)
    (hM : Met l y (zWs y yc yn yr) (zrm d mc ms) (zPc g en K As M H.size) Qc mc ms free) (hn : As.length = n) (hl : ls.size = nL) (hst : st = As.reverse ++ rest) (hW : (rest.map fun v => v.category).sum ≤ 8) (hR : d + 1 ≤ R.frames ∧ 8 + (yn + 11) + 48 * d ≤ R.locals) (hf : cells + mc ≤ R.cells ∧ slots + ms ≤ R.slots) (hdg : decode cc pc = .ok (.invokestatic index, 3)) :
    va_Run p l e R s m args below meth c H locs cells slots mc ms (F0 m pc ls st) rest (Qc As.toArray) free := by
  subst hst
  exact va_runSN (As := As) (rest := rest) E.1 hM ⟨va_cnB n E.1.2.2.2.2 (zGood E.2.2.2 hY.1) rfl rfl rfl (E.2.2.1 _ (zNl_of hlink)) (E.w hY.2.1) hY.2.2.2 hR, E.w hY.2.2.1, trivial⟩ ⟨zPc_blind, fun U hU hW => zPc_of E.2.1 E.2.2.1 hZ hU hW⟩ rfl hn hl rfl (lv_room hW) hdg hf
theorem zAin (hZ : zS g en K s H locs M) : ∀ q, zA g K H.size q → zA g K s.heap.size q := fun _ h => zA_mono hZ.2.2.1 h
theorem zS_call (hZ : zS g en K s H locs M) {M1 : zM} {t : State} {H1 : Heap} {locs1 : List Loc} (ht : t.heap = H1) (hB : zB g en K M1 t) (hS : va_S (zA g K s.heap.size) s.heap H1 locs1) : zS g en K s H1 locs1 M1 := ⟨by rw [← ht]; exact hB, zw_D hZ.2.1, hS⟩
theorem zci {P : Int32 → zM → Prop} {a : Array Value} (hr : va_Run p l e R s m args below meth c H locs cells slots 0 0 (F0 m pc ls st) rest (va_Qi P (zB g en K) (zA g K H.size) a) (zA g K H.size)) (hZ : zS g en K s H locs M)
    (kk : ∀ (v : Int32) (M1 : zM) (H1 : Heap) (locs1 : List Loc), P v M1 → zS g en K s H1 locs1 M1 → W p l e R s m args below meth c H1 locs1 cells slots Q (F0 m (pc + 3) ls (.int v :: rest))) : W p l e R s m args below meth c H locs cells slots Q (F0 m pc ls st) :=
  va_calli hr hZ.2.2 (fun q _ h => zAin hZ q h) (zAin hZ) (fun v u t H1 locs1 ht _ hp hB _ _ hS => kk v u H1 locs1 hp (zS_call hZ ht hB hS))
theorem zcl {P : Int64 → zM → Prop} {a : Array Value} (hr : va_Run p l e R s m args below meth c H locs cells slots 0 0 (F0 m pc ls st) rest (va_Ql P (zB g en K) (zA g K H.size) a) (zA g K H.size)) (hZ : zS g en K s H locs M)
    (kk : ∀ (v : Int64) (M1 : zM) (H1 : Heap) (locs1 : List Loc), P v M1 → zS g en K s H1 locs1 M1 → W p l e R s m args below meth c H1 locs1 cells slots Q (F0 m (pc + 3) ls (.long v :: rest))) : W p l e R s m args below meth c H locs cells slots Q (F0 m pc ls st) :=
  va_calll hr hZ.2.2 (fun q _ h => zAin hZ q h) (zAin hZ) (fun v u t H1 locs1 ht _ hp hB _ _ hS => kk v u H1 locs1 hp (zS_call hZ ht hB hS))
theorem zcv {P : zM → Prop} {a : Array Value} (hr : va_Run p l e R s m args below meth c H locs cells slots 0 0 (F0 m pc ls st) rest (va_Qv P (zB g en K) (zA g K H.size) a) (zA g K H.size)) (hZ : zS g en K s H locs M)
    (kk : ∀ (M1 : zM) (H1 : Heap) (locs1 : List Loc), P M1 → zS g en K s H1 locs1 M1 → W p l e R s m args below meth c H1 locs1 cells slots Q (F0 m (pc + 3) ls rest)) : W p l e R s m args below meth c H locs cells slots Q (F0 m pc ls st) :=
  va_callv hr hZ.2.2 (fun q _ h => zAin hZ q h) (zAin hZ) (fun u t H1 locs1 ht _ hp hB _ _ hS => kk u H1 locs1 hp (zS_call hZ ht hB hS))
theorem zcq {P : Option Nat → zM → Prop} {a : Array Value} (hr : va_Run p l e R s m args below meth c H locs cells slots 0 0 (F0 m pc ls st) rest (va_Qe g.2.2 P (zB g en K) (zA g K H.size) a) (zA g K H.size)) (hZ : zS g en K s H locs M)
    (kk : ∀ (v : Option Nat) (M1 : zM) (H1 : Heap) (locs1 : List Loc), P v M1 → zS g en K s H1 locs1 M1 → W p l e R s m args below meth c H1 locs1 cells slots Q (F0 m (pc + 3) ls (va_re g.2.2 v :: rest))) : W p l e R s m args below meth c H locs cells slots Q (F0 m pc ls st) :=
  va_calle hr hZ.2.2 (fun q _ h => zAin hZ q h) (zAin hZ) (fun v u t H1 locs1 ht _ hp hB _ _ hS => kk v u H1 locs1 hp (zS_call hZ ht hB hS))
end ZWC
/-- as Met.ofW, for a method that no entry runs instead, whatever its class -/
theorem zofWF {l : Launch} {y : MethodName} {ws ws' : List Cond} {rm : Room} {Pc : Array Value → State → Prop} {Qc : Array Value → State → Outcome → State → Prop} {mc ms : Nat} {free : Addr → Prop} {cc : ByteArray} {maxL : Nat} {ret : Option FieldType}
    (hy : plainFor y = true) (hw : ws = Cond.code y cc maxL ret :: ws')
    (body : ∀ p e s m args below meth c s₁, BodyLoose p l y (headSpec ws rm) cc maxL ret e s m args below meth c s₁ → c.maxLocals = maxL → Pc args s →
      W p l e (headSpec ws rm).room s m args below meth c s.heap [] 0 0 (MQ below Qc args s mc ms free) (entryFrame m args maxL)) : Met l y ws rm Pc Qc mc ms free := by
  refine MetFree.of_bodySF (code := cc) (maxLocals := maxL) (ret := ret) hy ?_ ?_
  · intro args s m h hn
    obtain ⟨meth, c, h1, h2, h3, h4, h5, h6, -, -⟩ := Cond.code_spec hn (atoms_spec (ws := ws) h _ (by rw [hw]; exact List.mem_cons_self))
    exact ⟨meth, c, h1, h2, h3, h4, h5, h6⟩
  · intro p e s m args below meth c s₁ B hml hP _
    have hh0 : s₁.heap = s.heap := by rw [B.state]; rfl
    obtain ⟨t, a1, o, b1, b2, b3, b4⟩ := body p e s m args below meth c s₁ B hml hP s₁ hh0 (Stand.of_body B)
    exact ⟨t, o, a1, b1, b2, b3, b4⟩
section ZWD
variable {l : Launch} {g : zG} {en : zE} {K : Nat} {M : zM} {y : MethodName} {cc : ByteArray} {n d : Nat} {av : List Value}
/-- the world at a method's entry -/
theorem z_entry {p : Program} {e : Env} {s : State} {m : MethodId} {args : Array Value} {below : List Frame} {meth : Method} {c : Code} {s₁ : State} {yr : Option FieldType} {rm : Room} {sz : Nat} (B : BodyLoose p l y (headSpec (zWs y cc n yr) rm) cc n yr e s m args below meth c s₁) (hml : c.maxLocals = n) (hv : zPc g en K av M sz args s) :
    args = av.toArray ∧ s.heap.size = sz ∧ zX g p m c cc n s args (zWs y cc n yr) y.cls ∧ zS g en K s s.heap [] M := by
  obtain ⟨hav, hsz, hP, hK, hD, hN⟩ := hv
  have hts := atoms_spec (ws := zWs y cc n yr) B.pre
  have hown : s.vm.findClass y.cls = some m.cls := findClass_of_methodNamed B.named
  exact ⟨hav, hsz, ⟨⟨B.exec, B.bytes, hml, hown, hts⟩, hK, hN, fun w h => List.mem_cons_of_mem _ h⟩, hP, zw_DA hD, va_S.rf⟩
/-- how a method ends -/
def zRi (g : zG) (en : zE) (K : Nat) (p : Program) (l : Launch) (e : Env) (R : Room) (s : State) (m : MethodId) (args : Array Value) (below : List Frame) (meth : Method) (c : Code) (cells slots : Nat) (Q : State → Prop) (cc : ByteArray) (ty : FieldType) (P : Int32 → zM → Prop) : Prop :=
  ∀ (v : Int32) (M1 : zM) (H : Heap) (locs : List Loc) (ls : Array Slot) (pc : Nat), P v M1 → narrow ty (.int v) = .int v → zS g en K s H locs M1 → decode cc pc = .ok (.ireturn, 1) → W p l e R s m args below meth c H locs cells slots Q (F0 m pc ls [.int v])
def zRl (g : zG) (en : zE) (K : Nat) (p : Program) (l : Launch) (e : Env) (R : Room) (s : State) (m : MethodId) (args : Array Value) (below : List Frame) (meth : Method) (c : Code) (cells slots : Nat) (Q : State → Prop) (cc : ByteArray) (P : Int64 → zM → Prop) : Prop :=
  ∀ (v : Int64) (M1 : zM) (H : Heap) (locs : List Loc) (ls : Array Slot) (pc : Nat), P v M1 → zS g en K s H locs M1 → decode cc pc = .ok (.lreturn, 1) → W p l e R s m args below meth c H locs cells slots Q (F0 m pc ls [.long v])
def zRv (g : zG) (en : zE) (K : Nat) (p : Program) (l : Launch) (e : Env) (R : Room) (s : State) (m : MethodId) (args : Array Value) (below : List Frame) (meth : Method) (c : Code) (cells slots : Nat) (Q : State → Prop) (cc : ByteArray) (P : zM → Prop) : Prop :=
  ∀ (M1 : zM) (H : Heap) (locs : List Loc) (ls : Array Slot) (pc : Nat), P M1 → zS g en K s H locs M1 → decode cc pc = .ok (.return_, 1) → W p l e R s m args below meth c H locs cells slots Q (F0 m pc ls [])
def zRq (g : zG) (en : zE) (K : Nat) (p : Program) (l : Launch) (e : Env) (R : Room) (s : State) (m : MethodId) (args : Array Value) (below : List Frame) (meth : Method) (c : Code) (cells slots : Nat) (Q : State → Prop) (cc : ByteArray) (P : Option Nat → zM → Prop) : Prop :=
  ∀ (v : Option Nat) (M1 : zM) (H : Heap) (locs : List Loc) (ls : Array Slot) (pc : Nat), P v M1 → zS g en K s H locs M1 → decode cc pc = .ok (.areturn, 1) → W p l e R s m args below meth c H locs cells slots Q (F0 m pc ls [va_re g.2.2 v])
theorem zMi_of {ty : FieldType} {P : Int32 → zM → Prop} (hy : plainFor y = true) (hlen : (lg_sl av).length ≤ n)
    (walk : ∀ (p : Program) (e : Env) (s : State) (m : MethodId) (args : Array Value) (below : List Frame) (meth : Method) (c : Code) (Q : State → Prop) (ls : Array Slot), zX g p m c cc n s args (zWs y cc n (some ty)) y.cls → zRi g en K p l e (zrm d 0 0) s m args below meth c 0 0 Q cc ty P → zS g en K s s.heap [] M → lv_has ls n (lv_args 0 av) → W p l e (zrm d 0 0) s m args below meth c s.heap [] 0 0 Q (F0 m 0 ls [])) : zMi l g en K y (zWs y cc n (some ty)) d av M P := by
  intro sz
  refine zofWF (cc := cc) (maxL := n) (ret := some ty) hy rfl ?_
  intro p e s m args below meth c s₁ B hml hv
  obtain ⟨rfl, rfl, hX, hZ⟩ := z_entry B hml hv
  have hlocks := B.notSynchronized
  have hl := lv_entry av (n := n) hlen
  rw [lg_entry_eq]
  exact walk p e s m _ below meth c _ _ hX (fun v M1 H locs ls pc hp hn hZ1 hd => W.zret hX.1.1 hX.1.2.1 B.returns hn (fun t ht _ => ⟨⟨v, M1, rfl, hp, by show va_P _ _ _ _; rw [ht]; exact hZ1.1⟩, hZ1.2.2.F ht⟩) hZ1.2.2.2.2 hd) hZ hl
theorem zMl_of {P : Int64 → zM → Prop} (hy : plainFor y = true) (hlen : (lg_sl av).length ≤ n)
    (walk : ∀ (p : Program) (e : Env) (s : State) (m : MethodId) (args : Array Value) (below : List Frame) (meth : Method) (c : Code) (Q : State → Prop) (ls : Array Slot), zX g p m c cc n s args (zWs y cc n (some .long)) y.cls → zRl g en K p l e (zrm d 0 0) s m args below meth c 0 0 Q cc P → zS g en K s s.heap [] M → lv_has ls n (lv_args 0 av) → W p l e (zrm d 0 0) s m args below meth c s.heap [] 0 0 Q (F0 m 0 ls [])) : zMl l g en K y (zWs y cc n (some .long)) d av M P := by
  intro sz
  refine zofWF (cc := cc) (maxL := n) (ret := some .long) hy rfl ?_
  intro p e s m args below meth c s₁ B hml hv
  obtain ⟨rfl, rfl, hX, hZ⟩ := z_entry B hml hv
  have hlocks := B.notSynchronized
  have hl := lv_entry av (n := n) hlen
  rw [lg_entry_eq]
  exact walk p e s m _ below meth c _ _ hX (fun v M1 H locs ls pc hp hZ1 hd => W.lret hX.1.1 hX.1.2.1 B.returns (fun t ht _ => ⟨⟨v, M1, rfl, hp, by show va_P _ _ _ _; rw [ht]; exact hZ1.1⟩, hZ1.2.2.F ht⟩) hZ1.2.2.2.2 hd) hZ hl
theorem zMv_of {P : zM → Prop} (hy : plainFor y = true) (hlen : (lg_sl av).length ≤ n)
    (walk : ∀ (p : Program) (e : Env) (s : State) (m : MethodId) (args : Array Value) (below : List Frame) (meth : Method) (c : Code) (Q : State → Prop) (ls : Array Slot), zX g p m c cc n s args (zWs y cc n none) y.cls → zRv g en K p l e (zrm d 0 0) s m args below meth c 0 0 Q cc P → zS g en K s s.heap [] M → lv_has ls n (lv_args 0 av) → W p l e (zrm d 0 0) s m args below meth c s.heap [] 0 0 Q (F0 m 0 ls [])) : zMv l g en K y (zWs y cc n none) d av M P := by
  intro sz
  refine zofWF (cc := cc) (maxL := n) (ret := none) hy rfl ?_
  intro p e s m args below meth c s₁ B hml hv
  obtain ⟨rfl, rfl, hX, hZ⟩ := z_entry B hml hv
  have hlocks := B.notSynchronized
  have hl := lv_entry av (n := n) hlen
  rw [lg_entry_eq]
  exact walk p e s m _ below meth c _ _ hX (fun M1 H locs ls pc hp hZ1 hd => W.vret hX.1.1 hX.1.2.1 B.returns (fun t ht _ => ⟨⟨M1, rfl, hp, by show va_P _ _ _ _; rw [ht]; exact hZ1.1⟩, hZ1.2.2.F ht⟩) hZ1.2.2.2.2 hd) hZ hl
theorem zMq_of {C : String} {P : Option Nat → zM → Prop} (hy : plainFor y = true) (hlen : (lg_sl av).length ≤ n)
    (walk : ∀ (p : Program) (e : Env) (s : State) (m : MethodId) (args : Array Value) (below : List Frame) (meth : Method) (c : Code) (Q : State → Prop) (ls : Array Slot), zX g p m c cc n s args (zWs y cc n (some (.object C))) y.cls → zRq g en K p l e (zrm d 0 0) s m args below meth c 0 0 Q cc P → zS g en K s s.heap [] M → lv_has ls n (lv_args 0 av) → W p l e (zrm d 0 0) s m args below meth c s.heap [] 0 0 Q (F0 m 0 ls [])) : zMq l g en K y (zWs y cc n (some (.object C))) d av M P := by
  intro sz
  refine zofWF (cc := cc) (maxL := n) (ret := some (.object C)) hy rfl ?_
  intro p e s m args below meth c s₁ B hml hv
  obtain ⟨rfl, rfl, hX, hZ⟩ := z_entry B hml hv
  have hlocks := B.notSynchronized
  have hl := lv_entry av (n := n) hlen
  rw [lg_entry_eq]
  exact walk p e s m _ below meth c _ _ hX (fun v M1 H locs ls pc hp hZ1 hd => W.aret (rt := .object C) hX.1.1 hX.1.2.1 B.returns (Or.inl ⟨C, rfl⟩) (by cases v <;> first | exact Or.inl rfl | exact Or.inr ⟨_, rfl⟩) (fun t ht _ => ⟨⟨v, M1, rfl, hp, by show va_P _ _ _ _; rw [ht]; exact hZ1.1⟩, hZ1.2.2.F ht⟩) hZ1.2.2.2.2 hd) hZ hl
end ZWD
