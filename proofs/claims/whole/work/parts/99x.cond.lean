section
variable {L hh d : Nat} {M M' N N' : zM} {b s : Nat} {RA RC : zM → Int32 → Option (Int32 × zM)} {ra rc x y r1 r3 : zM → Option (Int32 × zM)}
def zAt (L hh d : Nat) (RA : zM → Int32 → Option (Int32 × zM)) (ra : zM → Option (Int32 × zM)) : Prop := ∀ (M N : zM) (b s : Nat), zLp L M N b s → N 0 13 = nI d → zLo L hh [] [true] M N b s (RA M (nI d)) (ra N)
def zK (o : Nat) (C : zM → Option (Int32 × zM)) (u : Int32 × zM) : Option (Int32 × zM) := if u.1 = 0 then some (0, u.2) else match o with | 0 => C u.2 | _ + 1 => zbn (f_X11_emits u.2 14 0) C
theorem c94f {x3 : Int32} : ∃ M', b_X4_condition_94 RA RC M 0 x3 = some (0, M') ∧ ∀ q, q ≠ 27 → q ≠ 31 → M' q = M q := by
  unfold b_X4_condition_94
  by_cases e : x3 = 0
  · exact ⟨M, by rw [if_pos e]; rfl, fun _ _ _ => rfl⟩
  · obtain ⟨M1, a1, a2⟩ := x_emitA (M := M) (v := 1018)
    exact ⟨M1, by rw [if_neg e, a1, zbn_s]; rfl, a2⟩
theorem c11f {x3 x4 : Int32} {n : Nat} (hn : 0 < n) : ∃ M', b_X4_condition_11 RA RC (nI d) n M 0 x3 x4 = some (0, M') ∧ ∀ q, q ≠ 27 → q ≠ 31 → M' q = M q := by
  obtain ⟨n, rfl⟩ : ∃ k, n = k + 1 := ⟨n - 1, by omega⟩
  rw [b_X4_condition_11, if_pos rfl]
  exact c94f
theorem cond_loop (HA : zAt L hh d RA ra) : ∀ (D : Nat) (M N : zM) (b s o n n1 n2 i : Nat), L - b ≤ D → D + 1 < n → D < n1 → D < n2 → o ≤ 1 → zPr L M N b → zSp M N s → s + 4 + o ≤ b → i + 4 ≤ b → N 0 13 = nI d →
    zLo L (hh + 2) (if o = 0 then [true] else [true, true]) [true] M N (b - o) s (b_X4_condition_11 RA RC (nI d) n M 1 (nI o) (nI i)) (zbn (b_X11_readAllOf_9 ra x y n1 N) (zK o (fun N => b_X11_readCond_9 r1 (g_X11_readAllOf ra x y) r3 n2 N))) := by
  intro D
  induction D using Nat.strongRecOn with
  | ind D ih =>
    intro M N b s o n n1 n2 i hD hn hn1 hn2 ho p sp hs hi h13
    have hL := p.1.1
    have hbL := p.bL
    obtain ⟨n, rfl⟩ : ∃ k, n = k + 1 := ⟨n - 1, by omega⟩
    obtain ⟨n1, rfl⟩ : ∃ k, n1 = k + 1 := ⟨n1 - 1, by omega⟩
    obtain ⟨n2, rfl⟩ : ∃ k, n2 = k + 1 := ⟨n2 - 1, by omega⟩
    have hx : b_X4_condition_11 RA RC (nI d) (n + 1) M 1 (nI o) (nI i) = zbn (f_X7_skipWord M (nI 19)) (fun u_5 => if u_5.1 = 0 then (zbn (f_X7_skipWord u_5.2 (nI 18)) (fun u_6 => if u_6.1 = 0 then (b_X4_condition_94 RA RC u_6.2 1 (nI o)) else (if nI o = 0 then (b_X4_condition_80 RA RC (fun M x2 x3 x4 => b_X4_condition_11 RA RC (nI d) n M x2 x3 x4) u_6.2 (nI d) (nI i)) else (zbn (f_X3_addStep u_6.2 27 1018) (fun u_7 => b_X4_condition_80 RA RC (fun M x2 x3 x4 => b_X4_condition_11 RA RC (nI d) n M x2 x3 x4) u_7 (nI d) (nI i)))))) else (zbn (RA u_5.2 (nI d)) (fun u_10 => zbn (f_X3_addStep u_10.2 27 1019) (fun u_11 => b_X4_condition_88 RA RC (fun M x2 x3 x4 => b_X4_condition_11 RA RC (nI d) n M x2 x3 x4) u_11 (nI d) u_10.1 (nI o) (nI i))))) := by
      rw [b_X4_condition_11, if_neg n10, if_neg (by rw [i_le, i_nI (by omega)]; show ¬ (400 : Int) ≤ _; omega)]; rfl
    have hr : b_X11_readAllOf_9 ra x y (n1 + 1) N = zbn (f_X11_passes N (zwi 19)) (fun u_1 => if u_1.1 = 0 then (some (1, u_1.2)) else (zbn (ra u_1.2) (fun u_2 => if u_2.1 = 0 then (some (0, u_2.2)) else (zbn (f_X11_emits u_2.2 13 0) (fun u_3 => b_X11_readAllOf_9 ra x y n1 u_3))))) := by
      rw [b_X11_readAllOf_9]; rfl
    have hc : ∀ Z, b_X11_readCond_9 r1 (g_X11_readAllOf ra x y) r3 (n2 + 1) Z = zbn (f_X11_passes Z (zwi 18)) (fun u_1 => if u_1.1 = 0 then (some (1, u_1.2)) else (zbn (g_X11_readAllOf ra x y u_1.2) (fun u_2 => if u_2.1 = 0 then (some (0, u_2.2)) else (zbn (f_X11_emits u_2.2 14 0) (fun u_3 => b_X11_readCond_9 r1 (g_X11_readAllOf ra x y) r3 n2 u_3))))) := by
      intro Z; rw [b_X11_readCond_9]; rfl
    rw [hx, hr]
    rcases k_pass p (i := 19) (by omega) with ⟨M1, N1, b1, c1, -, c2, c3, c4, c5, c6, c7, -, -⟩ | ⟨N1, c1, c2, c3, c6, c7, -⟩
    · rw [c1, zbn_s, c2, zbn_s]
      dsimp only
      rw [if_neg n10, if_neg n10]
      have hb1 := c3.bL
      have g1 : zLg s M N M1 N1 := zLg.text c5 c6 c7
      have d1 : N1 0 13 = N 0 13 := c6.2 13 (by decide) (by decide)
      rcases HA M1 N1 b1 s ⟨c3, sp.move c5 c6 c7, by omega⟩ (by rw [d1]; exact h13) with ⟨M2, N2, b2, s2, e1, e2, e3, e4, e5, e6, e7, e8⟩ | ⟨M2, N2, e1, e2, e3⟩
      · have hs2 := e3.s4
        have hb2 := e3.1.bL
        rw [e1, zbn_s, e2, zbn_s]
        dsimp only
        rw [if_neg n10, x_emit e3.2.1.1 (by omega), zbn_s, r_emit e3.2.1.2.1 (by omega), zbn_s, b_X4_condition_88, znm_e, nI_p1]
        have g3 : zLg s2 M2 N2 (zEx M2 s2 1019) (zEr N2 s2 13 0) := (zLg.ex (N := N2)).trans zLg.er (Nat.le_refl _)
        have o2 := ih (D - 1) (by omega) (zEx M2 s2 1019) (zEr N2 s2 13 0) b2 (s2 + 1) o n n1 (n2 + 1) (i + 1) (by omega) (by omega) (by omega) (by omega) ho e3.1.ex.er (e3.2.1.emit (by right; right; right; right; right; right; left; exact ⟨rfl, rfl⟩)) (by omega) (by omega) (by rw [zEr_0 (by decide), e7, d1, h13])
        refine o2.from ((g1.trans e6 (Nat.le_refl _)).trans g3 e4) (by omega) (by omega) (by rw [zEr_0 (by decide), e7, d1]) ?_
        refine zTp.trans (s1 := s2) (mid := true :: (if o = 0 then [true] else [true, true])) ((e8.push (p := if o = 0 then [true] else [true, true]) (h' := hh + 2) (by split <;> simp)).eq (fun j _ z => g3.2.2.2.2.2 j z)) (zTp.one zEr_c (fun ts _ => ?_)) e4 (by omega)
        split <;> rfl
      · right
        obtain ⟨M3, a1, a2⟩ := x_emitA (M := M2) (v := 1019)
        obtain ⟨M4, a3, a4⟩ := c11f (RA := RA) (RC := RC) (d := d) (M := M3) (x3 := nI o) (x4 := nI (i + 1)) (n := n) (by omega)
        refine ⟨M4, N2, ?_, ?_, ((e3.from g1).x a2).x a4⟩
        · rw [e1, zbn_s]
          dsimp only
          rw [a1, zbn_s, b_X4_condition_88, znm_e, nI_p1]; exact a3
        · rw [e2, zbn_s]
          dsimp only
          rw [if_pos rfl, zbn_s]; rfl
    · rw [c1, zbn_s, c2, zbn_s]
      dsimp only
      rw [if_pos rfl, if_pos rfl, zbn_s]
      have d1 : N1 0 13 = N 0 13 := c6.2 13 (by decide) (by decide)
      have g1 : zLg s M N M N1 := zLg.text (fun _ _ => rfl) c6 c7
      have sp1 : zSp M N1 s := sp.move (fun _ _ => rfl) c6 c7
      have go : ∀ (M2 N2 : zM) (b2 s2 : Nat) (pre : List Bool), zLp L M2 N2 b2 s2 → N2 0 13 = nI d → b < b2 → s2 + 5 ≤ b2 → s ≤ s2 → s2 + b ≤ s + o + b2 - 1 + 0 → zLg s M N M2 N2 → zTp N2 s s2 (hh + 2) pre [true] →
          zLo L (hh + 2) pre [true] M N (b - o) s (b_X4_condition_80 RA RC (fun M x2 x3 x4 => b_X4_condition_11 RA RC (nI d) n M x2 x3 x4) M2 (nI d) (nI i)) (zbn (g_X11_readAllOf ra x y N2) (fun u_2 => if u_2.1 = 0 then (some (0, u_2.2)) else (zbn (f_X11_emits u_2.2 14 0) (fun u_3 => b_X11_readCond_9 r1 (g_X11_readAllOf ra x y) r3 n2 u_3)))) := by
        intro M2 N2 b2 s2 pre hp2 h132 hb2 hs2 hss hsb g2 t2
        rcases HA M2 N2 b2 s2 hp2 h132 with ⟨M3, N3, b3, s3, e1, e2, e3, e4, e5, e6, e7, e8⟩ | ⟨M3, N3, e1, e2, e3⟩
        · have hb3 := e3.1.bL
          have hX : b_X4_condition_80 RA RC (fun M x2 x3 x4 => b_X4_condition_11 RA RC (nI d) n M x2 x3 x4) M2 (nI d) (nI i) = b_X4_condition_11 RA RC (nI d) n M3 1 (nI 1) (nI (i + 1)) := by
            rw [b_X4_condition_80, e1, zbn_s, b_X4_condition_88, znm_e, nI_p1]; rfl
          have hR : zbn (g_X11_readAllOf ra x y N2) (fun u_2 => if u_2.1 = 0 then (some (0, u_2.2)) else (zbn (f_X11_emits u_2.2 14 0) (fun u_3 => b_X11_readCond_9 r1 (g_X11_readAllOf ra x y) r3 n2 u_3))) = zbn (b_X11_readAllOf_9 ra x y 6000 N3) (zK 1 (fun N => b_X11_readCond_9 r1 (g_X11_readAllOf ra x y) r3 n2 N)) := by
            rw [g_X11_readAllOf, e2, zbn_s]
            dsimp only
            rw [if_neg n10]; rfl
          rw [hX, hR]
          have o2 := ih (L - b3) (by omega) M3 N3 b3 s3 1 n 6000 n2 (i + 1) (Nat.le_refl _) (by omega) (by omega) (by omega) (by omega) e3.1 e3.2.1 (by omega) (by omega) (by rw [e7, h132])
          refine o2.from (g2.trans e6 hss) (by omega) (by omega) (by rw [e7, h132, h13]) ?_
          exact (t2.eq (fun j _ z => e6.2.2.2.2.2 j z)).trans (e8.push (p := [true]) (by simp)) hss e4
        · right
          obtain ⟨M4, a3, a4⟩ := c11f (RA := RA) (RC := RC) (d := d) (M := M3) (x3 := 1) (x4 := nI (i + 1)) (n := n) (by omega)
          refine ⟨M4, N3, ?_, ?_, (e3.from g2).x a4⟩
          · rw [b_X4_condition_80, e1, zbn_s, b_X4_condition_88, znm_e, nI_p1]; exact a3
          · rw [g_X11_readAllOf, e2, zbn_s]
            dsimp only
            rw [if_pos rfl, zbn_s, if_pos rfl]
      have ho2 : o = 0 ∨ o = 1 := by omega
      rcases ho2 with rfl | rfl
      · have hk : zK 0 (fun N => b_X11_readCond_9 r1 (g_X11_readAllOf ra x y) r3 (n2 + 1) N) (1, N1) = b_X11_readCond_9 r1 (g_X11_readAllOf ra x y) r3 (n2 + 1) N1 := by
          unfold zK; rw [if_neg n10]
        rw [hk, hc]
        rcases k_pass c3 (i := 18) (by omega) with ⟨M2, N2, b2, f1, -, f2, f3, f4, f5, f6, f7, -, -⟩ | ⟨N2, f1, f2, f3, f6, f7, -⟩
        · rw [f1, zbn_s, f2, zbn_s]
          dsimp only
          rw [if_neg n10, if_neg n10, if_pos (show nI 0 = 0 from rfl)]
          exact go M2 N2 b2 s [true] ⟨f3, sp1.move f5 f6 f7, by omega⟩ (by rw [f6.2 13 (by decide) (by decide), d1, h13]) f4 (by omega) (Nat.le_refl _) (by omega) (g1.trans (zLg.text f5 f6 f7) (Nat.le_refl _)) zTp.nil
        · left
          rw [f1, zbn_s, f2, zbn_s]
          dsimp only
          rw [if_pos rfl, if_pos rfl]
          exact ⟨M, N2, b, s, by rw [b_X4_condition_94, if_pos (show nI 0 = 0 from rfl)]; rfl, rfl, ⟨f3, sp1.move (fun _ _ => rfl) f6 f7, by omega⟩, Nat.le_refl _, by omega, g1.trans (zLg.text (fun _ _ => rfl) f6 f7) (Nat.le_refl _), by rw [f6.2 13 (by decide) (by decide), d1], zTp.nil⟩
      · have hk : zK 1 (fun N => b_X11_readCond_9 r1 (g_X11_readAllOf ra x y) r3 (n2 + 1) N) (1, N1) = b_X11_readCond_9 r1 (g_X11_readAllOf ra x y) r3 (n2 + 1) (zEr N1 s 14 0) := by
          unfold zK; rw [if_neg n10]; dsimp only; rw [r_emit sp1.2.1 (by omega), zbn_s]
        rw [hk, hc]
        have c3e : zPr L M (zEr N1 s 14 0) b := c3.er
        have st : zSt 1018 14 0 := by right; right; right; right; right; right; right; exact ⟨rfl, rfl⟩
        have n1' : ¬ nI 1 = 0 := n10
        have t1 : zTp (zEr N1 s 14 0) s (s + 1) (hh + 2) [true, true] [true] := zTp.one zEr_c (fun ts _ => rfl)
        rcases k_pass c3e (i := 18) (by omega) with ⟨M2, N2, b2, f1, -, f2, f3, f4, f5, f6, f7, -, -⟩ | ⟨N2, f1, f2, f3, f6, f7, -⟩
        · have sp2 : zSp (zEx M2 s 1018) N2 (s + 1) := ((sp1.eq (f5 27 (by decide)) (f5 31 (by decide)) rfl rfl : zSp M2 N1 s).emit st).eq rfl rfl (f6.2 16 (by decide) (by decide)) f7
          rw [f1, zbn_s, f2, zbn_s]
          dsimp only
          rw [if_neg n10, if_neg n10, if_neg n1', x_emit (sp1.move (N' := N1) f5 zNf.refl rfl).1 (by omega), zbn_s]
          refine go (zEx M2 s 1018) N2 b2 (s + 1) [true, true] ⟨f3.ex, sp2, by omega⟩ (by rw [f6.2 13 (by decide) (by decide), zEr_0 (by decide), d1, h13]) f4 (by omega) (by omega) (by omega) ?_ (t1.eq (fun j _ _ => by rw [f7]))
          exact ((g1.trans zLg.er (Nat.le_refl _)).trans (zLg.text f5 f6 f7) (Nat.le_refl _)).trans zLg.ex (Nat.le_refl _)
        · left
          rw [f1, zbn_s, f2, zbn_s]
          dsimp only
          rw [if_pos rfl, if_pos rfl, b_X4_condition_94, if_neg n1', x_emit sp1.1 (by omega), zbn_s]
          exact ⟨zEx M s 1018, N2, b, s + 1, rfl, rfl, ⟨f3.ex, (sp1.emit st).eq rfl rfl (f6.2 16 (by decide) (by decide)) f7, by omega⟩, by omega, by omega, ((g1.trans zLg.er (Nat.le_refl _)).trans (zLg.text (fun _ _ => rfl) f6 f7) (Nat.le_refl _)).trans zLg.ex (Nat.le_refl _), by rw [f6.2 13 (by decide) (by decide), zEr_0 (by decide), d1], t1.eq (fun j _ _ => by rw [f7])⟩
theorem l_cond (HA : zAt L hh d RA ra) : zAt L (hh + 2) d (g_X4_condition RA RC) (g_X11_readCond r1 (g_X11_readAllOf ra x y) r3) := by
  intro M N b s h h13
  have hL := h.1.1.1
  rcases HA M N b s h h13 with ⟨M1, N1, b1, s1, e1, e2, e3, e4, e5, e6, e7, e8⟩ | ⟨M1, N1, e1, e2, e3⟩
  · have hX : g_X4_condition RA RC M (nI d) = b_X4_condition_11 RA RC (nI d) 6000 M1 1 (nI 0) (nI 0) := by
      rw [g_X4_condition, e1, zbn_s]; rfl
    have hR : g_X11_readCond r1 (g_X11_readAllOf ra x y) r3 N = zbn (b_X11_readAllOf_9 ra x y 6000 N1) (zK 0 (fun N => b_X11_readCond_9 r1 (g_X11_readAllOf ra x y) r3 6000 N)) := by
      rw [g_X11_readCond, g_X11_readAllOf, e2, zbn_s]
      dsimp only
      rw [if_neg n10]; rfl
    rw [hX, hR]
    have hs1 := e3.2.2
    have o := cond_loop (RC := RC) (x := x) (y := y) (r1 := r1) (r3 := r3) HA (L - b1) M1 N1 b1 s1 0 6000 6000 6000 0 (Nat.le_refl _) (by omega) (by omega) (by omega) (by omega) e3.1 e3.2.1 (by omega) (by omega) (by rw [e7, h13])
    exact o.from e6 e4 (by omega) e7 (e8.up (by omega))
  · right
    obtain ⟨M2, a1, a2⟩ := c11f (RA := RA) (RC := RC) (d := d) (M := M1) (x3 := 0) (x4 := 0) (n := 6000) (by omega)
    refine ⟨M2, N1, by rw [g_X4_condition, e1, zbn_s]; exact a1, ?_, e3.x a2⟩
    rw [g_X11_readCond, g_X11_readAllOf, e2, zbn_s]
    dsimp only
    rw [if_pos rfl, zbn_s, if_pos rfl]
end
