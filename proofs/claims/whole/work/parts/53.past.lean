/-! THE CONSTRUCTOR OF Past: twelve worlds, by a loop -/
def pwE (cI : ClassId) (a : Nat → Nat) (n : Nat) : va_E := if n % 6 = 0 then .inr (8, [.int 0, .int 0, .int 1, .int 0, .int 0, .int 12, .int 14, .int 6, .int 12, .int 0, .int 0, .int 0, .int 0, .int 0, .int 0, .ref (a (n + 1)), .ref (a (n + 2)), .ref (a (n + 3)), .ref (a (n + 4)), .ref (a (n + 5))]) else .inl (cI, [12, 12, 24, 18, 60].getD (n % 6 - 1) 0, .inl (fun _ => 0))
def pwL (cI : ClassId) (a : Nat → Nat) (k : Nat) : va_W := (List.range k).map (fun n => (a n, pwE cI a n))
/-- the array's places: worlds as far as they are made -/
def pwA (a : Nat → Nat) (i : Nat) : Nat → Option Nat := fun j => if j < i then some (a (6 * j)) else none
theorem pwL_len {cI : ClassId} {a : Nat → Nat} {k : Nat} : (pwL cI a k).length = k := by simp [pwL]
def pwX (a : Nat → Nat) (k : Nat) (q0 q1 q2 q3 q4 q5 : Nat) : Nat → Nat := fun n => if n < k then a n else [q0, q1, q2, q3, q4, q5].getD (n - k) 0
theorem pwL_more (cI : ClassId) (a : Nat → Nat) (i q0 q1 q2 q3 q4 q5 : Nat) : pwL cI a (6 * i) ++ [(q0, .inr (8, [.int 0, .int 0, .int 1, .int 0, .int 0, .int 12, .int 14, .int 6, .int 12, .int 0, .int 0, .int 0, .int 0, .int 0, .int 0, .ref q1, .ref q2, .ref q3, .ref q4, .ref q5])), (q1, .inl (cI, 12, .inl (fun _ => 0))), (q2, .inl (cI, 12, .inl (fun _ => 0))), (q3, .inl (cI, 24, .inl (fun _ => 0))), (q4, .inl (cI, 18, .inl (fun _ => 0))), (q5, .inl (cI, 60, .inl (fun _ => 0)))] = pwL cI (pwX a (6 * i) q0 q1 q2 q3 q4 q5) (6 * (i + 1)) := by
  have hx : ∀ j, j < 6 → pwX a (6 * i) q0 q1 q2 q3 q4 q5 (6 * i + j) = [q0, q1, q2, q3, q4, q5].getD j 0 := by
    intro j hj
    unfold pwX
    rw [if_neg (by omega), Nat.add_sub_cancel_left]
  have hm : ∀ j, j < 6 → (6 * i + j) % 6 = j := fun j hj => by omega
  have h0 := hx 0 (by decide)
  have h1 := hx 1 (by decide)
  have h2 := hx 2 (by decide)
  have h3 := hx 3 (by decide)
  have h4 := hx 4 (by decide)
  have h5 := hx 5 (by decide)
  have m0 := hm 0 (by decide)
  have m1 := hm 1 (by decide)
  have m2 := hm 2 (by decide)
  have m3 := hm 3 (by decide)
  have m4 := hm 4 (by decide)
  have m5 := hm 5 (by decide)
  unfold pwL
  rw [show 6 * (i + 1) = 6 * i + 1 + 1 + 1 + 1 + 1 + 1 by omega, List.range_succ, List.range_succ, List.range_succ, List.range_succ, List.range_succ, List.range_succ]
  simp only [List.map_append, List.map_cons, List.map_nil, List.append_assoc, List.cons_append, List.nil_append]
  congr 1
  · apply List.map_congr_left
    intro n hn
    have hn := List.mem_range.mp hn
    have e : ∀ d, (n + d < 6 * i) → pwX a (6 * i) q0 q1 q2 q3 q4 q5 (n + d) = a (n + d) := fun d hd => by unfold pwX; rw [if_pos hd]
    have e0 : pwX a (6 * i) q0 q1 q2 q3 q4 q5 n = a n := e 0 hn
    unfold pwE
    by_cases h6 : n % 6 = 0
    · rw [if_pos h6, if_pos h6, e0, e 1 (by omega), e 2 (by omega), e 3 (by omega), e 4 (by omega), e 5 (by omega)]
    · rw [if_neg h6, if_neg h6, e0]
  · have n0 : 6 * i + 1 + 1 = 6 * i + 2 := rfl
    have n1 : 6 * i + 1 + 1 + 1 = 6 * i + 3 := rfl
    have n2 : 6 * i + 1 + 1 + 1 + 1 = 6 * i + 4 := rfl
    have n3 : 6 * i + 1 + 1 + 1 + 1 + 1 = 6 * i + 5 := rfl
    have m0' : 6 * i % 6 = 0 := by omega
    have h0' : pwX a (6 * i) q0 q1 q2 q3 q4 q5 (6 * i) = q0 := h0
    simp only [n0, n1, n2, n3, pwE, m0', m1, m2, m3, m4, m5, h0', h1, h2, h3, h4, h5]
    rfl
theorem zjoinE {D : va_G} {cl : List vw_C} {A : Nat → Prop} {ws w1 : va_W} {x : Nat × va_E} {H H1 : Heap} (hP : va_P D cl (ws ++ [x]) H) (hD : va_D A (ws ++ [x])) (hk1 : ∀ q : Nat, q < H.size → ¬ va_A [x] H.size q → H1[q]? = H[q]?) (hF : ∀ q, va_A [x] H.size q → A q) (hP1 : va_P D cl w1 H1) (hD1 : va_D (va_A [x] H.size) w1) : va_P D cl (ws ++ w1) H1 ∧ va_D A (ws ++ w1) := by
  have sp : ∀ (k : Nat) (q : Nat × va_E), (ws ++ w1)[k]? = some q → (k < ws.length ∧ ws[k]? = some q) ∨ (ws.length ≤ k ∧ w1[k - ws.length]? = some q) := by
    intro k q hk
    rcases Nat.lt_or_ge k ws.length with h | h
    · rw [List.getElem?_append_left h] at hk; exact Or.inl ⟨h, hk⟩
    · rw [List.getElem?_append_right h] at hk; exact Or.inr ⟨h, hk⟩
  have old : ∀ (k : Nat) (q : Nat × va_E), ws[k]? = some q → (ws ++ [x])[k]? = some q := fun k q h => by
    rw [List.getElem?_append_left (List.getElem?_eq_some_iff.mp h).1]; exact h
  have hxl : (ws ++ [x])[ws.length]? = some x := by rw [List.getElem?_append_right (Nat.le_refl _), Nat.sub_self]; rfl
  have off : ∀ (k : Nat) (q : Nat × va_E), ws[k]? = some q → ¬ va_A [x] H.size q.1 := by
    intro k q h hA
    rcases hA with ⟨j, e9, hj⟩ | hA
    · match j, hj with
      | 0, hj =>
        have hj : x = (q.1, e9) := Option.some.inj hj
        have := hD.1 k ws.length q x (old k q h) hxl (by rw [hj])
        have := (List.getElem?_eq_some_iff.mp h).1
        omega
      | j + 1, hj => simp at hj
    · exact absurd ((hP k q (old k q h)).lt) (Nat.not_lt.mpr hA)
  refine ⟨fun k q hk => ?_, fun i j p q hi hj e => ?_, fun k q hk => ?_⟩
  · rcases sp k q hk with ⟨-, h⟩ | ⟨-, h⟩
    · exact (hP k q (old k q h)).kept (hk1 q.1 ((hP k q (old k q h)).lt) (off k q h))
    · exact hP1 _ q h
  · rcases sp i p hi with ⟨h0, h⟩ | ⟨h0, h⟩ <;> rcases sp j q hj with ⟨g0, g⟩ | ⟨g0, g⟩
    · exact hD.1 i j p q (old i p h) (old j q g) e
    · exact absurd (e ▸ hD1.2 _ q g) (off i p h)
    · exact absurd (e ▸ hD1.2 _ p h) (off j q g)
    · have := hD1.1 _ _ p q h g e; omega
  · rcases sp k q hk with ⟨-, h⟩ | ⟨-, h⟩
    · exact hD.2 k q (old k q h)
    · exact hF _ (hD1.2 _ q h)
theorem zlastP {D : va_G} {cl : List vw_C} {ws : va_W} {x : Nat × va_E} {H : Heap} (hP : va_P D cl (ws ++ [x]) H) : va_P D cl [x] H := by
  intro k q hk
  match k, hk with
  | 0, hk => cases hk; exact hP ws.length _ (by rw [List.getElem?_append_right (Nat.le_refl _), Nat.sub_self]; rfl)
  | k + 1, hk => simp at hk
theorem zlastD {A : Nat → Prop} {ws : va_W} {x : Nat × va_E} (hD : va_D A (ws ++ [x])) : va_D (fun _ => True) [x] := by
  refine ⟨fun i j p q hi hj _ => ?_, fun _ _ _ => trivial⟩
  match i, j, hi, hj with
  | 0, 0, _, _ => rfl
  | i + 1, _, hi, _ => simp at hi
  | 0, j + 1, _, hj => simp at hj
theorem zlastF {A : Nat → Prop} {ws : va_W} {x : Nat × va_E} {H0 H : Heap} {locs : List Loc} (hD : va_D A (ws ++ [x])) (hS : va_S A H0 H locs) (hA : ∀ q, H0.size ≤ q → A q) : ∀ q, va_A [x] H.size q → A q := by
  intro q h
  rcases h with ⟨j, e9, hj⟩ | h
  · match j, hj with
    | 0, hj =>
      have hj : x = (q, e9) := Option.some.inj hj
      have := hD.2 ws.length x (by rw [List.getElem?_append_right (Nat.le_refl _), Nat.sub_self]; rfl)
      rw [hj] at this
      exact this
    | j + 1, hj => simp at hj
  · exact hA q (Nat.le_trans hS.1 h)
theorem ka_world : (Jvm.Cond.arrayOver (Jvm.ClassFile.FieldType.object "TideBook$World")) ∈ tables_1 := zT_s2 (List.mem_of_getElem? (i := 99) rfl)
set_option maxRecDepth 100000 in
set_option maxHeartbeats 4000000 in
theorem i_X5 (l : Launch) (g : zG) (h0 : Nat) (sz : Nat) : Met l yX5_init (zWs yX5_init cX5_init 2 none) (zrm 4 73 1764) (va_Pc [.ref h0] (fun U => U.heap.size = sz ∧ va_P g.1 vwCl [(h0, .inr (4, [.null, .int 0, .int 0]))] U.heap ∧ va_K g.1 vwCl (zty g) U ∧ va_D (fun _ => True) [(h0, .inr (4, [.null, .int 0, .int 0]))] ∧ zN U ∧ va_AO "TideBook$World" U)) (va_Qv (fun _ : Nat × (Nat → Nat) => True) (fun u t => va_P g.1 vwCl ((h0, .inr (4, [.ref u.1, .int 0, .int 0])) :: (u.1, .inl (g.2.1 2, 12, .inr (.inr (.inr (.inr (pwA u.2 12)))))) :: pwL (g.2.1 0) u.2 72) t.heap ∧ va_D (va_A [(h0, .inr (4, [.null, .int 0, .int 0]))] sz) ((h0, .inr (4, [.ref u.1, .int 0, .int 0])) :: (u.1, .inl (g.2.1 2, 12, .inr (.inr (.inr (.inr (pwA u.2 12)))))) :: pwL (g.2.1 0) u.2 72)) (va_A [(h0, .inr (4, [.null, .int 0, .int 0]))] sz)) 73 1764 (va_A [(h0, .inr (4, [.null, .int 0, .int 0]))] sz) := by
  refine zofWF (cc := cX5_init) (maxL := 2) (ret := none) (by decide +kernel) rfl ?_
  intro p e s m args below meth c s₁ B hml hv
  obtain ⟨rfl, hsz, hP, hK0, hD0, hN0, hAO⟩ := hv
  have E : zX g p m c cX5_init 2 s _ (zWs yX5_init cX5_init 2 none) RX5 := ⟨⟨B.exec, B.bytes, hml, findClass_of_methodNamed B.named, atoms_spec (ws := zWs yX5_init cX5_init 2 none) B.pre⟩, hK0, hN0, fun w h => List.mem_cons_of_mem _ h⟩
  have hx := B.exec
  have hb := B.bytes
  have hr := B.returns
  have hts := E.1.2.2.2.2
  have hown := E.1.2.2.2.1
  have hlocks := B.notSynchronized
  have hin : meth.name = "<init>" := (name_of_methodNamed B.named B.method).1
  subst hsz
  have hD := hD0.self (sz := s.heap.size)
  generalize hAe : va_A [(h0, .inr (4, [.null, .int 0, .int 0]))] s.heap.size = A at hD ⊢
  have hA : ∀ q : Nat, s.heap.size ≤ q → A q := fun q h => by rw [← hAe]; exact Or.inr h
  have hS : va_S A s.heap s.heap [] := va_S.rf
  have hP : va_P g.1 vwCl [(h0, .inr (4, [.null, .int 0, .int 0]))] s.heap := hP
  have hl := lv_entry ([.ref h0]) (n := 2) (Nat.le_of_ble_eq_true rfl)
  rw [lg_entry_eq]
  generalize (lg_sl ([.ref h0]) ++ List.replicate (2 - (lg_sl ([.ref h0])).length) Slot.unset).toArray = ls at hl ⊢
  have hl : lv_has ls 2 [(0, .ref h0)] := hl
  show W p l e (zrm 4 73 1764) s m _ below meth c s.heap [] 0 0 _ _
  refine lv_aload_n hx hb dX5_init_0 rfl (lv_at hl 0 rfl) ?_
  refine W.objInit hx hb hown (E.w kw_337) (E.w kw_34) (E.w kw_35) rfl (by rw [hml]; exact hl.1) rfl dX5_init_1 (Nat.le_of_ble_eq_true rfl) (Nat.le_of_ble_eq_true rfl) ?_
  refine W.eq (g2 := F0 m 4 ls []) rfl ?_
  refine lv_aload_n hx hb dX5_init_4 rfl (lv_at hl 0 rfl) ?_
  refine lv_bipush (v := 12) hx hb dX5_init_5 (by decide) ?_
  refine va_newq (N' := 12) hx hb hown (E.w kw_338) hAO E.2.1 hP hD hS hA (by decide) (by decide) (by decide) (Nat.le_of_ble_eq_true rfl) (Nat.le_of_ble_eq_true rfl) dX5_init_7 (fun qa cA H hK1 hP hD hS => ?_)
  have hcA : cA = g.2.1 2 := by
    obtain ⟨k1, c1, -, -, -, e1⟩ := (hK1.2 4 (cA, .object "TideBook$World") rfl).2
    obtain ⟨k2, c2, -, -, -, e2⟩ := (E.2.1.2 2 (g.2.1 2, .object "TideBook$World") rfl).2
    exact Option.some.inj (e1.symm.trans e2)
  subst hcA
  have hP : va_P g.1 vwCl [(h0, .inr (4, [.null, .int 0, .int 0])), (qa, .inl (g.2.1 2, 12, .inr (.inr (.inr (.inr (fun _ => none))))))] H := hP
  have hD : va_D A [(h0, .inr (4, [.null, .int 0, .int 0])), (qa, .inl (g.2.1 2, 12, .inr (.inr (.inr (.inr (fun _ => none))))))] := hD
  refine W.widen (k := 1) (n := 12) (by decide) (by decide) ?_
  refine va_putF (D := g.1) (ci := 4) (v := .ref qa) (ty := tyX5 0) (C := RX5) (T := TX5) (N := 3) hx hb hts (fun w h => E.2.2.2 _ (kt_X5 w h)) tyX5 tyX5_ok nmX5 hown E.2.1 hP hD hS 0 rfl rfl 0 (by decide) (E.w kw_341) (fun _ h9 => h9) rfl hin rfl (tyX5_ok 0 (by decide)) rfl rfl (Nat.le_of_ble_eq_true rfl) dX5_init_10 (fun H locs hP hD hS => ?_)
  refine lv_aload_n hx hb dX5_init_13 rfl (lv_at hl 0 rfl) ?_
  refine lv_iconst (v := 0) hx hb dX5_init_14 (by decide) ?_
  refine va_put (D := g.1) (ci := 4) (v := .int 0) (ty := tyX5 1) (C := RX5) (T := TX5) (N := 3) hx hb hts (fun w h => E.2.2.2 _ (kt_X5 w h)) tyX5 tyX5_ok nmX5 hown E.2.1 hP hD hS 0 rfl rfl 1 (by decide) (E.w kw_342) (fun _ h9 => h9) rfl (tyX5_ok 1 (by decide)) rfl rfl (Nat.le_of_ble_eq_true rfl) dX5_init_15 (fun H locs hP hD hS => ?_)
  refine lv_aload_n hx hb dX5_init_18 rfl (lv_at hl 0 rfl) ?_
  refine lv_iconst (v := 0) hx hb dX5_init_19 (by decide) ?_
  refine va_put (D := g.1) (ci := 4) (v := .int 0) (ty := tyX5 2) (C := RX5) (T := TX5) (N := 3) hx hb hts (fun w h => E.2.2.2 _ (kt_X5 w h)) tyX5 tyX5_ok nmX5 hown E.2.1 hP hD hS 0 rfl rfl 2 (by decide) (E.w kw_343) (fun _ h9 => h9) rfl (tyX5_ok 2 (by decide)) rfl rfl (Nat.le_of_ble_eq_true rfl) dX5_init_20 (fun H locs hP hD hS => ?_)
  have hP : va_P g.1 vwCl [(h0, .inr (4, [.ref qa, .int 0, .int 0])), (qa, .inl (g.2.1 2, 12, .inr (.inr (.inr (.inr (fun _ => none))))))] H := hP
  have hD : va_D A [(h0, .inr (4, [.ref qa, .int 0, .int 0])), (qa, .inl (g.2.1 2, 12, .inr (.inr (.inr (.inr (fun _ => none))))))] := hD
  refine lv_iconst (v := 0) hx hb dX5_init_23 (by decide) ?_
  refine lv_istore_n (lv' := [(1, .int 0), (0, .ref h0)]) hx hb dX5_init_24 rfl hl (by decide) rfl (fun ls hl => ?_)
  have loop : ∀ (n i : Nat) (a : Nat → Nat) (H : Heap) (locs : List Loc) (ls : Array Slot), i + n = 12 → va_P g.1 vwCl ((h0, .inr (4, [.ref qa, .int 0, .int 0])) :: (qa, .inl (g.2.1 2, 12, .inr (.inr (.inr (.inr (pwA a i)))))) :: pwL (g.2.1 0) a (6 * i)) H → va_D A ((h0, .inr (4, [.ref qa, .int 0, .int 0])) :: (qa, .inl (g.2.1 2, 12, .inr (.inr (.inr (.inr (pwA a i)))))) :: pwL (g.2.1 0) a (6 * i)) → va_S A s.heap H locs → lv_has ls 2 [(1, .int (nI i)), (0, .ref h0)] → W p l e (zrm 4 73 1764) s m ([.ref h0] : List Value).toArray below meth c H locs (1 + 6 * i) (12 + 146 * i) (MQ below (va_Qv (fun _ : Nat × (Nat → Nat) => True) (fun u t => va_P g.1 vwCl ((h0, .inr (4, [.ref u.1, .int 0, .int 0])) :: (u.1, .inl (g.2.1 2, 12, .inr (.inr (.inr (.inr (pwA u.2 12)))))) :: pwL (g.2.1 0) u.2 72) t.heap ∧ va_D A ((h0, .inr (4, [.ref u.1, .int 0, .int 0])) :: (u.1, .inl (g.2.1 2, 12, .inr (.inr (.inr (.inr (pwA u.2 12)))))) :: pwL (g.2.1 0) u.2 72)) A) ([.ref h0] : List Value).toArray s 73 1764 A) (F0 m 25 ls []) := by
    intro n
    induction n with
    | zero =>
      intro i a H locs ls hn hP hD hS hl
      have hi : i = 12 := by omega
      subst hi
      refine lv_iload_n hx hb dX5_init_25 rfl (lv_at hl 0 rfl) ?_
      refine lv_aload_n hx hb dX5_init_26 rfl (lv_at hl 1 rfl) ?_
      refine va_get (D := g.1) (ci := 4) (v := .ref qa) (C := RX5) (T := TX5) (N := 3) hx hb hts (fun w h => E.2.2.2 _ (kt_X5 w h)) hown E.2.1 hP 0 rfl rfl 0 (by decide) (E.w kw_341) (fun _ h9 => h9) rfl dX5_init_27 ?_
      refine va_alen (v := 12) hx hb E.2.1 hP 1 2 rfl rfl rfl dX5_init_30 ?_
      refine lv_icmp_ge (tgt := 53) hx hb dX5_init_31 (by decide) (fun _ => ?_) (fun q => absurd (show (12 : Int32) ≤ nI 12 by decide) q)
      refine W.widen (k := 73) (n := 1764) (by decide) (by decide) ?_
      exact W.vret hx hb hr (fun t ht _ => ⟨⟨(qa, a), rfl, trivial, by rw [ht]; exact hP, hD⟩, hS.F ht⟩) hS.2.2 dX5_init_53
    | succ n ih =>
      intro i a H locs ls hn hP hD hS hl
      have hi : i < 12 := by omega
      have h12 : (12 : Int32) = nI 12 := by decide
      refine lv_iload_n hx hb dX5_init_25 rfl (lv_at hl 0 rfl) ?_
      refine lv_aload_n hx hb dX5_init_26 rfl (lv_at hl 1 rfl) ?_
      refine va_get (D := g.1) (ci := 4) (v := .ref qa) (C := RX5) (T := TX5) (N := 3) hx hb hts (fun w h => E.2.2.2 _ (kt_X5 w h)) hown E.2.1 hP 0 rfl rfl 0 (by decide) (E.w kw_341) (fun _ h9 => h9) rfl dX5_init_27 ?_
      refine va_alen (v := 12) hx hb E.2.1 hP 1 2 rfl rfl rfl dX5_init_30 ?_
      refine lv_icmp_ge (tgt := 53) hx hb dX5_init_31 (by decide) (fun q => absurd q (by rw [h12]; exact nI_ge hi (by decide))) (fun _ => ?_)
      refine lv_aload_n hx hb dX5_init_34 rfl (lv_at hl 1 rfl) ?_
      refine va_get (D := g.1) (ci := 4) (v := .ref qa) (C := RX5) (T := TX5) (N := 3) hx hb hts (fun w h => E.2.2.2 _ (kt_X5 w h)) hown E.2.1 hP 0 rfl rfl 0 (by decide) (E.w kw_341) (fun _ h9 => h9) rfl dX5_init_35 ?_
      refine lv_iload_n hx hb dX5_init_38 rfl (lv_at hl 0 rfl) ?_
      refine va_new (ci := 8) (fs := [.int 0, .int 0, .int 0, .int 0, .int 0, .int 0, .int 0, .int 0, .int 0, .int 0, .int 0, .int 0, .int 0, .int 0, .int 0, .null, .null, .null, .null, .null]) (C := RX9) (T := TX9) (N := 20) hx hb hts (fun w h => E.2.2.2 _ (kt_X9 w h)) tyX9 tyX9_ok hown (E.w kw_338) (E.w kw_55) (E.w kw_3) E.2.1 hP hD hS hA rfl (fun j hj => by rcases (show j = 0 ∨ j = 1 ∨ j = 2 ∨ j = 3 ∨ j = 4 ∨ j = 5 ∨ j = 6 ∨ j = 7 ∨ j = 8 ∨ j = 9 ∨ j = 10 ∨ j = 11 ∨ j = 12 ∨ j = 13 ∨ j = 14 ∨ j = 15 ∨ j = 16 ∨ j = 17 ∨ j = 18 ∨ j = 19 by omega) with rfl | rfl | rfl | rfl | rfl | rfl | rfl | rfl | rfl | rfl | rfl | rfl | rfl | rfl | rfl | rfl | rfl | rfl | rfl | rfl <;> rfl) (by simp only [zrm]; omega) (by simp only [zrm]; omega) dX5_init_39 (fun q0 H hP hD hS => ?_)
      refine lv_dup hx hb dX5_init_42 rfl ?_
      have hF := zlastF hD hS hA
      refine va_callv (va_runIN (As := []) (rest := [.ref q0, .int (nI i), .ref qa]) E.1 (i_X9 l g q0 H.size) ⟨va_cnB 0 hts (zGood E.2.2.2 kw_58) rfl rfl rfl (E.2.2.1 _ (zNl_of kw_340)) (E.w kw_3) ⟨by decide, by decide, by decide +kernel⟩ ⟨by decide, by decide⟩, rfl, E.w kw_57⟩ ⟨zci_blind, fun U hU hW => ⟨rfl, by rw [hU], by rw [hU]; exact zlastP hP, va_K.moved hW.alike E.2.1, zlastD hD, E.2.2.1.warm hW⟩⟩ rfl rfl hl.1 rfl (lv_room (Nat.le_of_ble_eq_true rfl)) dX5_init_43 ⟨by simp only [zrm]; omega, by simp only [zrm]; omega⟩) hS (fun q _ h => hF q h) hF (fun u t H1 locs ht hvm hw hB hz1 hk1 hS => ?_)
      obtain ⟨q1, q2, q3, q4, q5⟩ := u
      obtain ⟨hP1, hD1⟩ := hB
      rw [ht] at hP1
      obtain ⟨hP, hD⟩ := zjoinE hP hD hk1 hF hP1 hD1
      generalize H1 = H at hP hS ⊢
      rw [List.cons_append, List.cons_append, pwL_more] at hP hD
      have hw0 : ((h0, .inr (4, [.ref qa, .int 0, .int 0])) :: (qa, .inl (g.2.1 2, 12, .inr (.inr (.inr (.inr (pwA a i)))))) :: pwL (g.2.1 0) (pwX a (6 * i) q0 q1 q2 q3 q4 q5) (6 * (i + 1)) : va_W)[6 * i + 2]? = some (q0, pwE (g.2.1 0) (pwX a (6 * i) q0 q1 q2 q3 q4 q5) (6 * i)) := by
        rw [List.getElem?_cons_succ, List.getElem?_cons_succ]
        unfold pwL
        rw [List.getElem?_map, List.getElem?_range (by omega)]
        show some (pwX a (6 * i) q0 q1 q2 q3 q4 q5 (6 * i), _) = _
        have : pwX a (6 * i) q0 q1 q2 q3 q4 q5 (6 * i) = q0 := by unfold pwX; rw [if_neg (Nat.lt_irrefl _), Nat.sub_self]; rfl
        rw [this]
      have he0 : ∃ vs, pwE (g.2.1 0) (pwX a (6 * i) q0 q1 q2 q3 q4 q5) (6 * i) = .inr (8, vs) := by
        unfold pwE
        rw [if_pos (by omega)]
        exact ⟨_, rfl⟩
      obtain ⟨vs, he0⟩ := he0
      rw [he0] at hw0
      refine va_astq (r := (RX9, TX9, 20)) hx hb E.2.1 hP hD hS 1 2 (6 * i + 2) 8 rfl rfl hw0 rfl (vp_in_nI hi (by decide)) dX5_init_46 (fun H locs hP hD hS => ?_)
      have hup : va_up (pwA a i) (nI i).toNatClampNeg (some q0) = pwA (pwX a (6 * i) q0 q1 q2 q3 q4 q5) (i + 1) := by
        rw [nI_clamp (by omega)]
        funext j
        unfold va_up pwA pwX
        by_cases hj : j = i
        · subst hj
          rw [if_pos rfl, if_pos (by omega), if_neg (by omega), Nat.sub_self]
          rfl
        · rw [if_neg hj]
          by_cases h1 : j < i
          · rw [if_pos h1, if_pos (by omega), if_pos (by omega)]
          · rw [if_neg h1, if_neg (by omega)]
      rw [hup] at hP hD
      refine lv_iinc (v := nI (i + 1)) (lv' := [(1, .int (nI (i + 1))), (0, .ref h0)]) hx hb dX5_init_47 hl (k := 0) rfl (nI_1 i) (by decide) rfl (fun ls hl => ?_)
      refine lv_goto (tgt := 25) hx hb dX5_init_50 (by decide) ?_
      refine W.widen (k := 1 + 6 * (i + 1)) (n := 12 + 146 * (i + 1)) (by omega) (by omega) ?_
      exact ih (i + 1) _ H locs ls (by omega) hP hD hS hl
  refine loop 12 0 (fun _ => 0) _ _ ls rfl ?_ ?_ hS hl
  · exact hP
  · exact hD
