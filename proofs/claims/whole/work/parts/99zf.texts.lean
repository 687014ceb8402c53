section
def zBs : List Nat := [84, 242, 252, 262, 271, 280, 286, 294, 302, 310, 318, 326, 335, 346, 354, 362, 371, 379, 387, 395, 401, 408, 418, 427, 436, 445, 453, 462, 470, 477]
def zTm (i : Nat) : Term := .string (zStx.getD i ("", 0, "", 0)).1 (zStx.getD i ("", 0, "", 0)).2.1
def zFl : List Cond := flatC (Jvm.Cond.and given_1 narrow_1)
theorem zf_ex : ∀ i, i < 30 → zFl[2 + zBs.getD i 0]? = some (Cond.exactly (zTm i) "java/lang/String") := by decide +kernel
theorem zf_co : ∀ i, i < 30 → zFl[3 + zBs.getD i 0]? = some (Cond.eq (.field (zTm i) "java/lang/String" "coder" "B") (.int 0)) := by decide +kernel
theorem zf_ar : ∀ i, i < 30 → zFl[4 + zBs.getD i 0]? = some (Cond.arrayOf (.field (zTm i) "java/lang/String" "value" "[B") .byte) := by decide +kernel
theorem zf_le : ∀ i, i < 30 → zFl[5 + zBs.getD i 0]? = some (Cond.eq (.length (.field (zTm i) "java/lang/String" "value" "[B")) (.int (Int32.ofNat (zLen.getD i 0)))) := by decide +kernel
theorem zf_el : ∀ i, i < 30 → ∀ j, j < zLen.getD i 0 → zFl[6 + zBs.getD i 0 + j]? = some (Cond.eq (.elem (.field (zTm i) "java/lang/String" "value" "[B") (.int (Int32.ofNat j))) (.int ((zByt.getD i []).getD j 0))) := by decide +kernel
theorem zf_ln : ∀ i, i < 30 → zLen.getD i 0 < 2 ^ 31 := by decide +kernel
theorem zf_di : ∀ i, i < 30 → ∀ j, j < 30 → zLen.getD i 0 = zLen.getD j 0 → (∀ k, k < zLen.getD i 0 → (zByt.getD i []).getD k 0 = (zByt.getD j []).getD k 0) → i = j := by decide +kernel
theorem zf_sr : ∀ i, i < 30 → (Cond.stringRef (zStx.getD i ("", 0, "", 0)).1 (zStx.getD i ("", 0, "", 0)).2.1 (zStx.getD i ("", 0, "", 0)).2.2.1) ∈ tables_1 := by decide +kernel
theorem zf_ix : ∀ q ∈ zStx, q.2.2.2 < 30 ∧ zStx.getD q.2.2.2 ("", 0, "", 0) = q := by decide +kernel
theorem zs_Sof {args : Array Value} {s : State} {A : Nat → Prop} (hF : ∀ w ∈ zFl, w.before args s = true) (hA : ∀ a : Nat, a < s.heap.size → ¬ A a) : ∃ adK adV : Nat → Nat, vk_S 30 zLen zByt adK adV A s s.heap ∧ ∀ i : Nat, i < 30 → (zTm i).eval args s none [] s = some (.ref (adK i)) := by
  have hw : ∀ {n : Nat} {w : Cond}, zFl[n]? = some w → w.before args s = true := fun h => hF _ (List.mem_of_getElem? h)
  have hle : ∀ i, i < 30 → (Term.length (.field (zTm i) "java/lang/String" "value" "[B")).eval args s none [] s = some (.int (Int32.ofNat (zLen.getD i 0))) := fun i hi => va_eqt (hw (zf_le i hi))
  have hel : ∀ i, i < 30 → ∀ j, j < zLen.getD i 0 → (Term.elem (.field (zTm i) "java/lang/String" "value" "[B") (.int (Int32.ofNat j))).eval args s none [] s = some (.int ((zByt.getD i []).getD j 0)) := fun i hi j hj => va_eqt (hw (zf_el i hi j hj))
  have h0 : ∀ i : Nat, ∃ q : Nat × Nat, i < 30 → (zTm i).eval args s none [] s = some (.ref q.1) ∧ va_O "java/lang/String" q.1 A s s.heap ∧ va_OF "java/lang/String" "coder" "B" (.int 0) q.1 A s s.heap ∧ va_OF "java/lang/String" "value" "[B" (.ref q.2) q.1 A s s.heap ∧ va_T .byte q.2 (zLen.getD i 0) (fun j => .int ((zByt.getD i []).getD j 0)) A s s.heap := by
    intro i
    by_cases hi : i < 30
    · obtain ⟨a, c, cA, kA, q1, q2, q3, q4, q5, q6, -⟩ := Cond.exactly_spec (args := args) (first := s) (o := none) (s := s) (idx := []) (t := zTm i) (cls := "java/lang/String") (hw (zf_ex i hi))
      obtain ⟨t, ht, hT⟩ := va_Tof (f := fun j => .int ((zByt.getD i []).getD j 0)) (A := A) (zf_ln i hi) (hw (zf_ar i hi)) (hle i hi) (fun j hj => hel i hi j hj) hA
      exact ⟨(a, t), fun _ => ⟨q1, ⟨cA, q3, q5, by rw [q6]; exact q2, hA a (Array.getElem?_eq_some_iff.mp q3).1⟩, vk_OFof q1 (va_eqt (hw (zf_co i hi))) hA, vk_OFof q1 ht hA, hT⟩⟩
    · exact ⟨(0, 0), fun h => absurd h hi⟩
  obtain ⟨ad, had⟩ := Classical.axiomOfChoice h0
  refine ⟨fun i => (ad i).1, fun i => (ad i).2, ⟨fun i hi => (had i hi).2, fun i j hi hj e => ?_⟩, fun i hi => (had i hi).1⟩
  have e1 := (had i hi).1
  have e2 := (had j hj).1
  have e : (ad i).1 = (ad j).1 := e
  have ef : (Term.field (zTm i) "java/lang/String" "value" "[B").eval args s none [] s = (Term.field (zTm j) "java/lang/String" "value" "[B").eval args s none [] s := by rw [va_fe e1, va_fe e2, e]
  have l1 : (Term.length (.field (zTm i) "java/lang/String" "value" "[B")).eval args s none [] s = (Term.length (.field (zTm j) "java/lang/String" "value" "[B")).eval args s none [] s := by
    simp only [Term.eval, e1, e2, e]
  have l2 : ∀ t : Term, (Term.elem (.field (zTm i) "java/lang/String" "value" "[B") t).eval args s none [] s = (Term.elem (.field (zTm j) "java/lang/String" "value" "[B") t).eval args s none [] s := fun t => by
    simp only [Term.eval, e1, e2, e]
  rw [hle i hi, hle j hj] at l1
  have hl : zLen.getD i 0 = zLen.getD j 0 := by
    have h1 := zf_ln i hi
    have h2 := zf_ln j hj
    injection l1 with l1
    injection l1 with l1
    have := congrArg Int32.toInt l1
    rw [show (Int32.ofNat (zLen.getD i 0)).toInt = (zLen.getD i 0 : Int) from i_nI (by omega), show (Int32.ofNat (zLen.getD j 0)).toInt = (zLen.getD j 0 : Int) from i_nI (by omega)] at this
    omega
  refine zf_di i hi j hj hl (fun k hk => ?_)
  have h3 := l2 (.int (Int32.ofNat k))
  rw [hel i hi k hk, hel j hj k (by omega)] at h3
  injection h3 with h3
  injection h3 with h3
end
